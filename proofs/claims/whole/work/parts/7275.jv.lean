section
variable {D : wD} {S U : wS} {o : Nat → Nat} {c c' : cM} {x : Nat} {A : Nat → Nat} {m m' m1 : xM} {F R F' R' : Int} {v v' u : Int → Int} {n n' : Int} {w w' : Int → Int → Int} {mv mv' : Int → Mv} {L W : List Int} {yb : Nat → Nat} {yl : Int → Nat} {d : Int → SDt} {ye lw K : List Nat} {q q' : Int} {b Ln : Nat} {xs : Nat → Int32} {a3 a4 : Nat} {P Q : wS → Prop} {ε : Bool}
theorem brkS_cnt {k : Int} {s s' : RD} (h : brkS k s = some s') : s'.2.2.2.2.2.1 = s.2.2.2.2.2.1 := by
  unfold brkS at h
  split at h
  · exact nomatch h
  · split at h
    · split at h
      · exact nomatch h
      · rw [← Option.some.inj h]
    · split at h
      · split at h
        · rw [← Option.some.inj h]
        · exact nomatch h
      · rw [← Option.some.inj h]
theorem wordS_cnt {made a e : Int} {t : Int → Int} {s s' : RD} (h : wordS F R made t a e s = some s') : s'.2.2.2.2.2.1 = s.2.2.2.2.2.1 ∨ s'.2.2.2.2.2.1 = s.2.2.2.2.2.1 + 1 := by
  unfold wordS at h
  split at h
  · exact nomatch h
  · split at h
    · split at h
      · exact nomatch h
      · rw [← Option.some.inj h]; exact .inl rfl
    · split at h
      · split at h
        · rw [← Option.some.inj h]; exact .inl rfl
        · exact nomatch h
      · split at h
        · exact nomatch h
        · split at h
          · exact nomatch h
          · rw [← Option.some.inj h]
            dsimp only
            split
            · exact .inl rfl
            · exact .inr rfl
theorem le_add (a : Int) (k : Nat) : a ≤ a ∧ a ≤ a + (k : Int) := by omega
theorem rdM_cnt (made len : Int) (t : Int → Int) : ∀ (k : Nat) (a : Int) (s : RD), s.2.2.2.2.2.1 ≤ (rdM F R made t len k a s).2.2.2.2.2.2.1 ∧ (rdM F R made t len k a s).2.2.2.2.2.2.1 ≤ s.2.2.2.2.2.1 + k
  | 0, a, s => by unfold rdM; exact le_add s.2.2.2.2.2.1 0
  | k + 1, a, s => by
    unfold rdM
    split
    · exact le_add s.2.2.2.2.2.1 _
    · split
      · have := rdM_cnt made len t k (a + 1) s; omega
      · split
        · cases hb : brkS (t a) s with
          | none => exact le_add s.2.2.2.2.2.1 _
          | some s1 =>
            have e := brkS_cnt hb
            dsimp only
            split
            · split
              · rw [← e]; exact le_add s1.2.2.2.2.2.1 _
              · have := rdM_cnt made len t k (nEnd t len 501 (a + 1) + 1) s1; omega
            · have := rdM_cnt made len t k (a + 1) s1; omega
        · cases hb : wordS F R made t a (wEnd t len 501 (a + 1)) s with
          | none => exact le_add s.2.2.2.2.2.1 _
          | some s1 =>
            have e := wordS_cnt hb
            have := rdM_cnt made len t k (wEnd t len 501 (a + 1)) s1
            dsimp only
            omega
/-- the text is read: it is empty, the count of variation's moves is laid anew -/
theorem rm_rel (xr : XRo m F R) (lk : LKo m c F R n w mv L W d ye ε) (z : Int) : XRo (up (up m 50 13 0) 50 16 z) F R ∧ LKo (up (up m 50 13 0) 50 16 z) (cI c 0 16 z) F R n w mv [] W d ye ε := by
  have row : ∀ r : Nat, r ≠ 50 → (up (up m 50 13 0) 50 16 z) r = m r := fun r hr => by rw [up_r _ _ _ (by simpa using hr), up_r _ _ _ (by simpa using hr)]
  have o50 : ∀ j : Int, j ≠ 13 → j ≠ 16 → (up (up m 50 13 0) 50 16 z) 50 j = m 50 j := fun j h1 h2 => by rw [up_ne _ (Or.inr h2), up_ne _ (Or.inr h1)]
  have gvk : ∀ k, gv (up (up m 50 13 0) 50 16 z) k = gv m k := fun k => by unfold gv; rw [vec_row (row 8 (by decide))]
  have c1 : ∀ k, k ≠ 0 → (cI c 0 16 z).1 k = c.1 k := fun k hk => by funext j; rw [cI_1]; exact up_ne _ (Or.inl hk)
  refine ⟨xr.game ⟨fun r hr => row r (by omega), fun j hj => o50 j (by omega) (by omega)⟩ ⟨by rw [o50 11 (by decide) (by decide)]; exact xr.1.2.1, fun k k0 k1 => by rw [o50 11 (by decide) (by decide)] at k1; rw [gvk]; exact xr.1.2.2 k k0 k1⟩ (fun k k0 k1 => by rw [row 10 (by decide), row 9 (by decide)]; exact xr.2.2.2.2.2.2.2.1 k k0 k1), ?_⟩
  obtain ⟨⟨a1, a2, a9⟩, ⟨b1, b2, b3, b4⟩, -, ⟨d1, d2⟩, ⟨f1, f2, f3⟩, ⟨s1, s2⟩, g1, g2⟩ := lk
  have sh : ∀ r : Nat, 30 ≤ r → r ≤ 38 → (up (up m 50 13 0) 50 16 z) r = m r := fun r h1 h2 => row r (by omega)
  refine ⟨⟨by rw [o50 1 (by decide) (by decide)]; exact a1, by rw [o50 2 (by decide) (by decide)]; exact a2, a9⟩, ⟨by rw [o50 11 (by decide) (by decide)]; exact b1, fun k k0 k1 => by rw [gvk]; exact b2 k k0 k1, fun k k0 k1 => by rw [row 9 (by decide)]; exact b3 k k0 k1, fun k k0 k1 => by rw [row 10 (by decide)]; exact b4 k k0 k1⟩, ⟨by rw [up_ne _ (Or.inr (by decide)), up_at]; rfl, fun k k0 k1 => absurd k1 (by simp; omega)⟩, ⟨by rw [o50 15 (by decide) (by decide)]; exact d1, fun k k0 k1 => by rw [row 14 (by decide)]; exact d2 k k0 k1⟩, ⟨by rw [up_at, cI_1, up_at], by rw [o50 39 (by decide) (by decide), cI_1, up_ne _ (Or.inr (by decide))]; exact f2, fun k k0 k1 => by rw [row 40 (by decide), c1 51 (by decide)]; exact f3 k k0 k1⟩, ⟨s1.row sh, s2.row sh⟩, fun kd k0 k1 => by rw [row 42 (by decide), c1 46 (by decide)]; exact g1 kd k0 k1, fun kd k0 k1 k2 i i0 i1 => ?_⟩
  rw [row 42 (by decide)] at k2
  rw [row 41 (by decide)]; exact g2 kd k0 k1 k2 i i0 i1
/-- CALL: readMoves -/
theorem call_readMoves (hD : wDok D b Ln xs) (hR : RELo D S o x A [a3, a4] q ε) {bc bs : Nat} (hb : 1010 ≤ bc ∧ 12000 ≤ bs) (hP : ∀ S', RELo D S' o x A [a3, a4] (q + 1) ε → P S') :
    wp_L_readMoves D (fun r1 S2 => wp_X12_readMoves D (fun r3 S4 => CMPo D x a3 P Q r1 r3 S4) S2 x) bc bs S (o 0) a3 := by
  refine REL.elim hR fun c m F R v n w mv L W yb yl d ye hf lk ev => ?_
  unfold wp_L_readMoves wp_L_readMoves_0
  refine ⟨0 + 1, 0 + 6, by omega, by omega, ?_⟩
  have e1 := hf.1.1.2
  have pe := prop_eq hf lk
  have bb := bfr_of hf
  have hm := FR_r bb.1.1 bb.1.2 bb.2.1 bb.2.2
  obtain ⟨nw, pg, wn, gm⟩ := hf.2.2.2.1.1
  obtain ⟨⟨t1, t2, t3⟩, ⟨t4, t5, t6, t7⟩, t8⟩ := hf.2.2.2.1.2.1
  have e11 := lk.2.1.1
  have n0 := pg.2.1.1
  have xr := hf.2.2.2.2
  have hx := TX.of lk ⟨t4, t6⟩
  have h13 := lk.2.2.1.1
  have hK : properB F R (gv m 0) = true → PV F R (pv m) := fun z => by
    rw [pe] at z; rw [ev]; exact nw.pv z
  have er : rdT F R (m 50 11) (tx L) L.length (pv m) = rdT F R n (tx L) L.length v := by rw [e11, ev]
  have s49 := t8 49 (.inr (.inl rfl))
  -- the class's text is empty
  have clr : ∀ c' U', cSim KRd c c' → EX D (cS S o c') U' [o 49] → SB U' (o 49) (yb 49) [] → HFo D U' o x A [a3, a4] c' m F R v n w mv [] W (upY yb 49 (yb 49)) yl d ye q F R := fun c' U' sm he hs => by
    have hf' := hf.query (c' := c') hD.2.2.2.2 sm (by decide)
    have he2 : EX D (cS S o c') U' [o 49, yb 49] := he.mono fun a _ ha => by rw [List.mem_singleton.mp ha]; simp
    exact hf'.txt (r := 49) (y' := yb 49) (L' := []) (W' := W) (.inr (.inl rfl)) hD.2.2.1.1 hD.2.2.2.2 he2 (.inl rfl) hs (by rw [he.n (Or.inl hf'.2.2.2.1.2.1.1.1.2.1.2.1)]; exact s49) ⟨fun _ => rfl, fun z => absurd rfl z⟩ ⟨fun z => absurd z (by decide), fun _ => rfl⟩ ⟨by simp, t5, by simp, t7⟩
  rw [e1] at t1
  rw [e1]
  refine q_readMovesC hf.1.1.1 (CST.all hD (csts hf hD)).2.2.2.2.2.1 nw pg t1 (by show sN S (yb 49) < 1000000; omega) t4 t6 (fun v hv => hv.few bb) (fun v hv => tell_PV nw.1 hv) (fun z U' he hs cc eU => .inl ⟨rfl, ?_⟩) (fun z z2 c' U' sm he hs cc eU => .inr ⟨rfl, ?_⟩) (fun z z2 c' U' sm he hs cc eU c2 sm2 pa pg2 => ?_)
  · have hf2 := clr c U' (cSim.refl _ _) he hs
    show wp_X12_readMoves D _ U' x
    rw [hf2.1.2.1.2]
    refine q_readMoves hf2.1.2.1.1 xr.1 (PV.gp bb) hK hx h13 (by omega) (fun _ m' sm h5 => ?_) (fun y => by rw [pe, z] at y; exact nomatch y) (fun y => by rw [pe, z] at y; exact nomatch y)
    have rr := rp_rel xr lk sm
    exact cmp_ok (by rw [x_e0, h5]; rfl) (hP _ (REL.mk ((hf2.ref hD.2.2.1.1 hD.2.2.2.2 rr.1).succ (by omega)) rr.2)) (fun y => absurd y (by decide))
  · have hf2 := clr c' U' sm he hs
    have lk' := lk.csim (c' := c') sm (by decide)
    show wp_X12_readMoves D _ U' x
    rw [hf2.1.2.1.2]
    refine q_readMoves hf2.1.2.1.1 xr.1 (PV.gp bb) hK hx h13 (by omega) (fun y => by rw [pe, z] at y; exact nomatch y) (fun _ _ m' sm' h5 => ?_) (fun _ y => absurd (er ▸ y) z2)
    have rr := rp_rel xr lk' sm'
    exact cmp_ok (by rw [x_e0, h5]; rfl) (hP _ (REL.mk ((hf2.ref hD.2.2.1.1 hD.2.2.2.2 rr.1).succ (by omega)) rr.2)) (fun y => absurd y (by decide))
  · have hf2 := clr c' U' sm he hs
    have lk' := lk.csim (c' := c') sm (by decide)
    have hv := nw.pv z
    have lin := rdT_lin (F := F) (R := R) (t := tx L) (len := L.length) (v := v) (made := n) pg.2.1.2
    have cn := rdM_cnt (F := F) (R := R) n L.length (tx L) 502 0 (rd0 v)
    have c0 : (rd0 v).2.2.2.2.2.1 = 0 := rfl
    have l1 := lin.2.1
    have l2 := lin.2.2.2.2
    generalize hrs : rdT F R n (tx L) L.length v = rs at *
    have rc : 0 ≤ rs.2.2.2.2.2.2.1 ∧ rs.2.2.2.2.2.2.1 ≤ 502 := by
      have e2 : rdM F R n (tx L) L.length 502 0 (rd0 v) = rs := hrs
      rw [e2, c0] at cn
      exact ⟨cn.1, by omega⟩
    have rm := rm_rel xr lk' rs.2.2.2.2.2.2.1
    have pmy := play_many bb rs.2.2.2.2.2.1 n w mv v (up (up m 50 13 0) 50 16 rs.2.2.2.2.2.2.1) n0 (by omega) rm.2.2.1 rm.1.gx gm wn hv l1
    have sm3 : cSim [0, 11, 13, 14, 15] c' (cI c2 0 16 rs.2.2.2.2.2.2.1) := (sm2.mono (by decide)).trans ((cI_sim c2 0 16 _).mono (by decide))
    have e00 : (cI c2 0 16 rs.2.2.2.2.2.2.1).1 0 = (cI c' 0 16 rs.2.2.2.2.2.2.1).1 0 := by
      funext j
      rw [cI_1, cI_1]
      by_cases j16 : j = 16
      · rw [j16, up_at, up_at]
      · rw [up_ne _ (Or.inr j16), up_ne _ (Or.inr j16), (sm2 0 (by decide)).1]
    have c1 : ∀ k, k ≠ 0 → (cI c' 0 16 rs.2.2.2.2.2.2.1).1 k = c'.1 k := fun k hk => by funext j; rw [cI_1]; exact up_ne _ (Or.inl hk)
    have hf3 := hf2.game hD.2.2.2.2 sm3 (by decide) ⟨by rw [cI_1, up_at]; unfold i32; omega, by rw [e00, cI_1, up_ne _ (Or.inr (by decide))]⟩ pmy.2.2.2 ((cI_sim c2 0 16 _).P (by decide) pa) (PG.sim (cI_sim c2 0 16 _) (by decide) (by decide) (by decide) pg2) pmy.2.2.1 pmy.2.1
    refine store_ok hD hf3 (fun S5 h5 e5 => ?_)
    show wp_X12_readMoves D _ S5 x
    rw [h5.1.2.1.2]
    refine q_readMoves h5.1.2.1.1 xr.1 (PV.gp bb) hK hx h13 (by omega) (fun y => by rw [pe, z] at y; exact nomatch y) (fun _ y => absurd z2 (by rw [er] at y; exact y)) (fun _ _ _ _ m' sm' h0 => ?_)
    rw [er] at sm' ⊢
    have kg := pmy.1.2.2.trans (KGo.sim sm')
    have hg := pmy.1.1.sim sm'
    have hx := pmy.1.2.1.sim sm'
    have xr1 := rm.1.game kg.gx hx.1 hx.2
    have lk1 := rm.2.game (c' := cI c2 0 16 rs.2.2.2.2.2.2.1) kg e00 ((sm3 51 (by decide)).1.trans (c1 51 (by decide)).symm) ((sm3 46 (by decide)).1.trans (c1 46 (by decide)).symm) hg
    refine cmp_ok (by rw [x_e0, h0]; rfl) (hP _ (REL.mk ((h5.ref hD.2.2.1.1 hD.2.2.2.2 xr1).succ (by omega)) lk1)) (fun _ => ⟨(ans_ref h5 _).2, ?_⟩)
    rw [(ans_ref h5 _).1, e5]
end
