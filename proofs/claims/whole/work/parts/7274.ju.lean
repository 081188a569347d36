section
variable {D : wD} {S U : wS} {o : Nat → Nat} {c c' : cM} {x : Nat} {A : Nat → Nat} {m m' m1 : xM} {F R F' R' : Int} {v v' u : Int → Int} {n n' : Int} {w w' : Int → Int → Int} {mv mv' : Int → Mv} {L W : List Int} {yb : Nat → Nat} {yl : Int → Nat} {d : Int → SDt} {ye lw K : List Nat} {q q' : Int} {b Ln : Nat} {xs : Nat → Int32} {a3 a4 : Nat} {P Q : wS → Prop} {ε : Bool} {t : Mv} {M : List Mv}
/-- CALL: play -/
theorem call_play (hD : wDok D b Ln xs) (hR : RELo D S o x A [a3, a4] q ε) {i : Int} (hi : i32 i) {r : wS → Int32} {hv : wS → Prop} (hvv : ∀ S', CST D S' → hv S' ∧ r S' = iI i) (hP : ∀ S', RELo D S' o x A [a3, a4] (q + 1) ε → P S') :
    wp_L_play D (fun r1 S2 => hv S2 ∧ wp_X12_play D (fun r3 S4 => CMPo D x a3 P Q r1 r3 S4) S2 x (r S2)) S (o 0) (iI i) a3 := by
  refine REL.elim hR fun c m F R v n w mv L W yb yl d ye hf lk ev => ?_
  unfold wp_L_play wp_L_play_0
  have e1 := hf.1.1.2
  have pe := prop_eq hf lk
  have bb := bfr_of hf
  have hm := FR_r bb.1.1 bb.1.2 bb.2.1 bb.2.2
  have hK := mvst_of hf lk ev
  obtain ⟨nw, pg, wn, gm⟩ := hf.2.2.2.1.1
  have e11 := lk.2.1.1
  have n0 := pg.2.1.1
  have hG := hf.2.2.2.2.1
  have xr := hf.2.2.2.2
  have h10 : ∀ k, 0 ≤ k → k < 80 → 0 ≤ m 10 k ∧ m 10 k ≤ 1 := fun k k0 k1 => (xr.2.2.2.2.2.2.2.1 k k0 k1).1
  rw [e1]
  refine q_playC hf.1.1.1 nw pg (fun z => (few_of hf z).1) hi (fun z => .inl ⟨rfl, ?_⟩) (fun z z2 => .inl ⟨rfl, ?_⟩) (fun z z2 z3 => .inr ⟨rfl, ?_⟩) (fun z z2 z3 t et ok om => ?_)
  · rw [← e1]
    obtain ⟨h1, h2⟩ := hvv _ hf.2.1.1
    refine ⟨h1, ?_⟩
    rw [h2, hf.1.2.1.2]
    exact q_play hf.1.2.1.1 hG h10 hK hi (fun _ => err_ok hD hf lk (.inl rfl) ((SIM.rf m).ldm.up0 1) rfl hP) (fun y => by rw [pe, z] at y; exact nomatch y) (fun y => by rw [pe, z] at y; exact nomatch y)
  · rw [← e1]
    obtain ⟨h1, h2⟩ := hvv _ hf.2.1.1
    refine ⟨h1, ?_⟩
    rw [h2, hf.1.2.1.2]
    exact q_play hf.1.2.1.1 hG h10 hK hi (fun _ => err_ok hD hf lk (.inl rfl) ((SIM.rf m).ldm.up0 1) rfl hP) (fun _ y => by omega) (fun _ y => by omega)
  · have hf' := hf.query hD.2.2.2.2 (lkM_sim c F R v) (by decide)
    have lk' := lk.csim (lkM_sim c F R v) (by decide)
    obtain ⟨h1, h2⟩ := hvv _ hf'.2.1.1
    refine ⟨h1, ?_⟩
    rw [h2, hf'.1.2.1.2]
    refine q_play hf'.1.2.1.1 hG h10 hK hi (fun y => by rw [pe, z, e11, decide_eq_true z2] at y; exact nomatch y) (fun _ _ w0 _ _ => err_ok hD hf' lk' (.inr (.inl rfl)) (((SIM.rf m).ldm.up0 2).ls _ _) (by rw [lsM_f _ _ _ _ _ rfl]; rfl) hP) (fun _ _ y => ?_)
    rw [ev] at y
    rw [inB_iff.mpr (by omega)] at z3
    exact nomatch z3
  · have hv := nw.pv z
    have pv1 := PV_mk bb.1.1 bb.1.2 bb.2.1 bb.2.2 hv ok
    have sm : cSim [10, 11, 13, 14, 15, 17, 18, 20] c (lookM (makeM F R (lkM c F R v) n v t) F R (mkT F R v t)) := (((lkM_sim c F R v).mono (by decide)).trans ((makeM_sim F R _ n v t).mono (by decide))).trans ((lookM_sim _ F R _).mono (by decide))
    have pg1 := PG.sim (lookM_sim (makeM F R (lkM c F R v) n v t) F R (mkT F R v t)) (by decide) (by decide) (by decide) (makeM_G (F := F) (R := R) (v := v) (t := t) (PG.sim (lkM_sim c F R v) (by decide) (by decide) (by decide) pg) z2 (pv1.1.rg hm.2) om)
    have g1 := gm.step bb n0 wn hv ok
    have hf1 := hf.game hD.2.2.2.2 sm (by decide) ⟨by rw [(sm 0 (by decide)).1]; exact hf.2.2.2.1.2.2.2.1.2.1, by rw [(sm 0 (by decide)).1]⟩ pv1 ((lookM_sim _ F R _).P (by decide) (makeM_P F R _ n v t)) pg1 g1.2 g1.1
    refine store_ok hD hf1 (fun S5 h5 e5 => ?_)
    obtain ⟨h1, h2⟩ := hvv _ h5.2.1.1
    refine ⟨h1, ?_⟩
    rw [h2, h5.1.2.1.2]
    refine q_play h5.1.2.1.1 hG h10 hK hi (fun y => by rw [pe, z, e11, decide_eq_true z2] at y; exact nomatch y) (fun _ _ w0 _ y => by rw [ev, z3] at y; exact nomatch y) (fun _ _ _ t' w0 et' _ => ?_)
    have ett : t' = t := by rw [et', et, ev]
    subst ett
    have sa : SIM m (askM m) := (SIM.rf m).ldm.up0 0
    have st := play_step (M := movesL F R (pv m)) bb ⟨n0, z2⟩ (GAo.sim lk.2.1 sa) (xr.gx.sim sa) wn hv ok
    have sl : SIM (playM F R (askM m) (movesL F R (pv m)) t') (lsM (playM F R (askM m) (movesL F R (pv m)) t') 0 (movesL F R (mkT F R (pv m) t')) w0) := (SIM.rf _).ls _ _
    refine cmp_ok (by rw [x_e0, lsM_f _ _ _ _ _ rfl, playM_50 (by decide)]; rfl) (game_fin hD h5 lk sm (by decide) ((KGo.sim sa).trans (st.2.2.trans (KGo.sim sl))) (st.1.sim sl) (st.2.1.sim sl) hP) (fun _ => ⟨(ans_ref h5 _).2, ?_⟩)
    rw [(ans_ref h5 _).1, e5, state_same (F := F) (R := R) (by omega) st.1.1 st.1.2.1 st.1.2.2.2 (st.1.pv (by omega) g1.2)]
theorem pmL_len {s : Int} : ∀ (k : Nat) (v : Int → Int), (pmL F R m s k v).length ≤ k
  | 0, v => by simp [pmL]
  | k + 1, v => by
    unfold pmL
    split
    · simp
    · rw [List.length_cons]
      have := pmL_len (s := s) k (mkT F R v ((movesL F R v).getD (mainV F R m s v).toNat (0, 0, 0)))
      omega
/-- CALL: playMain -/
theorem call_playMain (hD : wDok D b Ln xs) (hR : RELo D S o x A [a3, a4] q ε) {s i : Int} (hs : i32 s) (hi : i32 i) {r r' : wS → Int32} {hv : wS → Prop} (hvv : ∀ S', CST D S' → hv S' ∧ r S' = iI s ∧ r' S' = iI i) (hP : ∀ S', RELo D S' o x A [a3, a4] (q + 1) ε → P S') :
    wp_L_playMain D (fun r1 S2 => hv S2 ∧ wp_X12_playMain D (fun r3 S4 => CMPo D x a3 P Q r1 r3 S4) S2 x (r S2) (r' S2)) S (o 0) (iI s) (iI i) a3 := by
  refine REL.elim hR fun c m F R v n w mv L W yb yl d ye hf lk ev => ?_
  unfold wp_L_playMain wp_L_playMain_0
  have e1 := hf.1.1.2
  have hSH := shl_of hf
  have pe := prop_eq hf lk
  have bb := bfr_of hf
  have hm := FR_r bb.1.1 bb.1.2 bb.2.1 bb.2.2
  obtain ⟨nw, pg, wn, gm⟩ := hf.2.2.2.1.1
  have e11 := lk.2.1.1
  have n0 := pg.2.1.1
  have xr := hf.2.2.2.2
  have hC := xr.2.2.1.2.2.1
  have hPp : properB F R (gv m 0) = true → PV F R (pv m) := fun z => by
    rw [pe] at z; rw [ev]; exact nw.pv z
  rw [e1]
  refine q_playMainC hf.1.1.1 (CST.all hD (csts hf hD)).2.1 (fun v hv => hv.few bb) nw pg hSH (off_of hf) hs hi (fun z => .inl ⟨rfl, ?_⟩) (fun z z2 => .inr (.inl ⟨rfl, ?_⟩)) (fun z z2 z3 => .inr (.inr ⟨rfl, ?_⟩)) (fun z z2 z3 Lm eL c2 sm pa pg2 => ?_)
  · rw [← e1]
    obtain ⟨h1, h2, h3⟩ := hvv _ hf.2.1.1
    refine ⟨h1, ?_⟩
    rw [h2, h3, hf.1.2.1.2]
    exact q_playMain hf.1.2.1.1 xr.1 xr.2.1 hC (PV.gp bb) hPp hs hi (fun _ m' sm h5 => err_ok hD hf lk (.inl rfl) sm h5 hP) (fun y => by rw [z] at y; exact nomatch y) (fun y => by rw [z] at y; exact nomatch y) (fun y => by rw [z] at y; exact nomatch y)
  · rw [← e1]
    obtain ⟨h1, h2, h3⟩ := hvv _ hf.2.1.1
    refine ⟨h1, ?_⟩
    rw [h2, h3, hf.1.2.1.2]
    exact q_playMain hf.1.2.1.1 xr.1 xr.2.1 hC (PV.gp bb) hPp hs hi (fun y => by rw [z] at y; exact nomatch y) (fun _ _ m' sm h5 => err_ok hD hf lk (.inr (.inl rfl)) sm h5 hP) (fun _ y => by rw [z2] at y; exact nomatch y) (fun _ y => by rw [z2] at y; exact nomatch y)
  · rw [← e1]
    obtain ⟨h1, h2, h3⟩ := hvv _ hf.2.1.1
    refine ⟨h1, ?_⟩
    rw [h2, h3, hf.1.2.1.2]
    exact q_playMain hf.1.2.1.1 xr.1 xr.2.1 hC (PV.gp bb) hPp hs hi (fun y => by rw [z] at y; exact nomatch y) (fun _ y => by rw [z2] at y; exact nomatch y) (fun _ _ _ m' sm h5 => err_ok hD hf lk (.inr (.inr rfl)) sm h5 hP) (fun _ _ y => by rw [pe, z3] at y; exact nomatch y)
  · have hv := nw.pv z3
    have i1 := in01.mp z
    have i2 := inB_iff.mp z2
    have pm : ∀ (k : Nat) (v : Int → Int), PV F R v → pmL F R m s k v = pmG F R (mnF F R (fun i => (d i).2.1) (fun i => (d i).2.2.1) (fun i => (d i).2.2.2.1) (fun i => (d i).1) s) k v := shR.pm (els := fun i => (d i).1) (n := fun i => (d i).2.1) (w := fun i => (d i).2.2.1) (mv := fun i => (d i).2.2.2.1) (shm_of lk i1) (hf.2.2.2.1.2.2.1 s i1).2.1.2 (by omega) (P := PV F R) (fun v h => h.2.1) (fun v t h ht => h.mk bb ht)
    have eL2 : Lm = pmL F R m s (min i (80 - n)).toNat v := by rw [eL, pm _ v hv]
    have lin : linB F R v Lm := by rw [eL2]; exact pmL_ok (PV.gp bb) hv _
    have ln : Lm.length ≤ (min i (80 - n)).toNat := by rw [eL2]; exact pmL_len _ _
    have n80 := pg.2.1.2
    have pmy := play_many bb Lm n w mv v m n0 (by omega) lk.2.1 xr.gx gm wn hv lin
    have hf1 := hf.game hD.2.2.2.2 sm (by decide) ⟨by rw [(sm 0 (by decide)).1]; exact hf.2.2.2.1.2.2.2.1.2.1, by rw [(sm 0 (by decide)).1]⟩ pmy.2.2.2 pa pg2 pmy.2.2.1 pmy.2.1
    refine store_ok hD hf1 (fun S5 h5 e5 => ?_)
    obtain ⟨h1, h2, h3⟩ := hvv _ h5.2.1.1
    refine ⟨h1, ?_⟩
    rw [h2, h3, h5.1.2.1.2]
    refine q_playMain h5.1.2.1.1 xr.1 xr.2.1 hC (PV.gp bb) hPp hs hi (fun y => by rw [z] at y; exact nomatch y) (fun _ y => by rw [z2] at y; exact nomatch y) (fun _ _ y => by rw [pe, z3] at y; exact nomatch y) (fun _ _ _ ts ets _ m' sm' h0 => ?_)
    have ett : ts = Lm := by rw [ets, ev, e11, eL2]
    subst ett
    refine cmp_ok (by rw [x_e0, h0]; rfl) (game_fin hD h5 lk sm (by decide) (pmy.1.2.2.trans (KGo.sim sm')) (pmy.1.1.sim sm') (pmy.1.2.1.sim sm') hP) (fun _ => ⟨(ans_ref h5 _).2, ?_⟩)
    rw [(ans_ref h5 _).1, e5]
end
