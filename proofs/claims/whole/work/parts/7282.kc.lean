section
variable {D : wD} {S U U' : wS} {o : Nat → Nat} {c c' : cM} {x : Nat} {A : Nat → Nat} {m m' m1 : xM} {F R F' R' : Int} {v v' u : Int → Int} {n n' : Int} {w w' : Int → Int → Int} {mv mv' : Int → Mv} {L W : List Int} {yb : Nat → Nat} {yl yl' : Int → Nat} {d d' : Int → SDt} {ye lw K : List Nat} {q q' : Int} {b Ln : Nat} {xs : Nat → Int32} {a3 a4 y' : Nat} {P Q : wS → Prop} {ε : Bool} {s t : Int}
theorem fm_nd (f : Nat → List Nat) : ∀ n : Nat, ((List.range n).flatMap f).Nodup → ∀ i j, i < j → j < n → ∀ a ∈ f i, a ∉ f j
  | 0, _, i, j, _, hj => absurd hj (Nat.not_lt_zero _)
  | n + 1, h, i, j, hij, hj => by
    rw [List.range_succ, List.flatMap_append] at h
    intro a hi hja
    by_cases z : j = n
    · subst z
      exact nd_app h a (List.mem_flatMap.mpr ⟨i, List.mem_range.mpr hij, hi⟩) (by simpa [List.flatMap_cons] using hja)
    · exact fm_nd f n (List.nodup_append.mp h).1 i j hij (by omega) a hi hja
/-- a shelf's games are each their own -/
theorem gm_ow {e : SDt} (h : (gmC e).Nodup) : OW e := by
  intro g k g0 gk k1
  have r := fm_nd _ _ h g.toNat k.toNat (by omega) (by omega)
  rw [show ((g.toNat : Nat) : Int) = g by omega, show ((k.toNat : Nat) : Int) = k by omega] at r
  exact ⟨fun z => r _ (List.mem_cons_self) (by rw [z]; exact List.mem_cons_self), fun z => r (e.2.2.2.2.2.2 g).2.2 (by simp) (by rw [z]; simp)⟩
theorem gm_els {e : SDt} (h : (gmC e).Nodup) : e.1.Nodup := by
  rw [List.nodup_iff_pairwise_ne, List.pairwise_iff_getElem]
  intro i j hi hj hij
  have := (gm_ow h (i : Int) (j : Int) (by omega) (by omega) (by omega)).1
  rw [show ((i : Int)).toNat = i by omega, show ((j : Int)).toNat = j by omega, getD_el hi, getD_el hj] at this
  exact this
theorem gm_nd (hf : HFo D S o x A lw c m F R v n w mv L W yb yl d ye q F' R') {s : Int} (hs : s = 0 ∨ s = 1) : (gmC (d s)).Nodup := by
  have nd := clsL_nd hf.2.2.1
  unfold clsL at nd
  have d3 := (List.nodup_append.mp (List.nodup_append.mp (List.nodup_append.mp nd).2.1).2.1).2.1
  rcases hs with rfl | rfl
  · exact (List.nodup_append.mp d3).1
  · exact (List.nodup_append.mp (List.nodup_append.mp d3).2.1).1
/-- one drill more -/
theorem tick_rel (lk : LKo m c F R n w mv L W d ye ε) (z : Int) (hz : z = c.1 0 17 + 1) : LKo (up (up m 50 0 0) 50 39 (m 50 39 + 1)) (cI c 0 17 z) F R n w mv L W d ye ε := by
  obtain ⟨⟨a1, a2, a9⟩, ⟨b1, b2, b3, b4⟩, ⟨t1, t2⟩, ⟨d1, d2⟩, ⟨f1, f2, f3⟩, ⟨s1, s2⟩, g1, g2⟩ := lk
  have row : ∀ r : Nat, r ≠ 50 → (up (up m 50 0 0) 50 39 (m 50 39 + 1)) r = m r := fun r hr => by rw [up_r _ _ _ (by simpa using hr), up_r _ _ _ (by simpa using hr)]
  have o50 : ∀ j : Int, j ≠ 0 → j ≠ 39 → (up (up m 50 0 0) 50 39 (m 50 39 + 1)) 50 j = m 50 j := fun j h1 h2 => by rw [up_ne _ (Or.inr h2), up_ne _ (Or.inr h1)]
  have gvk : ∀ k, gv (up (up m 50 0 0) 50 39 (m 50 39 + 1)) k = gv m k := fun k => by unfold gv; rw [vec_row (row 8 (by decide))]
  have c1 : ∀ k, k ≠ 0 → (cI c 0 17 z).1 k = c.1 k := fun k hk => by funext j; rw [cI_1]; exact up_ne _ (Or.inl hk)
  have sh : ∀ r : Nat, 30 ≤ r → r ≤ 38 → (up (up m 50 0 0) 50 39 (m 50 39 + 1)) r = m r := fun r h1 h2 => row r (by omega)
  refine ⟨⟨by rw [o50 1 (by decide) (by decide)]; exact a1, by rw [o50 2 (by decide) (by decide)]; exact a2, a9⟩, ⟨by rw [o50 11 (by decide) (by decide)]; exact b1, fun k k0 k1 => by rw [gvk]; exact b2 k k0 k1, fun k k0 k1 => by rw [row 9 (by decide)]; exact b3 k k0 k1, fun k k0 k1 => by rw [row 10 (by decide)]; exact b4 k k0 k1⟩, ⟨by rw [o50 13 (by decide) (by decide)]; exact t1, fun k k0 k1 => by rw [row 12 (by decide)]; exact t2 k k0 k1⟩, ⟨by rw [o50 15 (by decide) (by decide)]; exact d1, fun k k0 k1 => by rw [row 14 (by decide)]; exact d2 k k0 k1⟩, ⟨by rw [o50 16 (by decide) (by decide), cI_1, up_ne _ (Or.inr (by decide))]; exact f1, by rw [up_at, cI_1, up_at, f2, hz], fun k k0 k1 => by rw [row 40 (by decide), c1 51 (by decide)]; exact f3 k k0 k1⟩, ⟨s1.row sh, s2.row sh⟩, fun kd k0 k1 => by rw [row 42 (by decide), c1 46 (by decide)]; exact g1 kd k0 k1, fun kd k0 k1 k2 i i0 i1 => ?_⟩
  rw [row 42 (by decide)] at k2
  rw [row 41 (by decide)]; exact g2 kd k0 k1 k2 i i0 i1
/-- CALL: answer -/
theorem call_answer (hD : wDok D b Ln xs) (hR : RELo D S o x A [a3, a4] q ε) (hq : q ≤ 1000) (ht : t = 0 ∨ t = 1) {G : Int32 → wS → Prop} (hG : ∀ r1 S2, CST D S2 → wp_X12_answer D (fun r3 S4 => CMPo D x a3 P Q r1 r3 S4) S2 x (iI t) → G r1 S2) (hP : ∀ S', RELo D S' o x A [a3, a4] (q + 1) ε → P S') :
    wp_L_answer D G S (o 0) (iI t) a3 := by
  refine REL.elim hR fun c m F R v n w mv L W yb yl d ye hf lk ev => ?_
  unfold wp_L_answer wp_L_answer_0
  have e1 := hf.1.1.2
  have hSH := shl_of hf
  have ht' : i32 t := by rcases ht with rfl | rfl <;> decide
  have cl := hf.2.2.2.1
  have xr := hf.2.2.2.2
  obtain ⟨p1, p2, p3, p4⟩ := cl.2.2.2.1
  have in0 := (cl.2.2.1 0 (.inl rfl)).2.2
  have h30 := xr.2.1.1 0 (by decide) (by decide)
  have hr : ∀ k, 0 ≤ k → k < 80 → i32 (m 38 k) ∧ (0 ≤ m 37 k ∧ m 37 k ≤ 4) := fun k k0 k1 => by
    have := xr.2.2.2.2.1 k k0 k1
    exact ⟨this.2.2, this.2.1⟩
  have sm0 := shm_of lk (.inl (rfl : (0 : Int) = 0))
  have e30 : m 30 0 = (d 0).1.length := sm0.1
  have l40 : (d 0).1.length ≤ 40 := (hSH 0 (.inl rfl)).2.1.1
  rw [e1]
  refine q_answerC hf.1.1.1 hSH (gm_els (gm_nd hf (.inl rfl))) (off_of hf 0 (.inl rfl)) (fun g g0 g1 => (in0 g g0 g1).2.2.2.1) (by omega) ht (fun z => ⟨rfl, ?_⟩) (fun z g eg hg xv ex U' he hS => ?_)
  · rw [← e1]
    refine hG _ _ hf.2.1.1 ?_
    have z : (d 0).1.length = 0 := z
    rw [hf.1.2.1.2]
    exact q_answer hf.1.2.1.1 h30 hr ht' (fun _ => err_ok hD hf lk (.inl rfl) ((SIM.rf m).up0 1) rfl hP) (fun y => by omega)
  · have z : (d 0).1.length ≠ 0 := z
    have g1 : g < (d 0).1.length := hg.2
    have sm : cSim [0] c (cI c 0 17 (c.1 0 17 + 1)) := cI_sim c 0 17 _
    obtain ⟨⟨w1, w2, w3, w4, w5, w6, w7⟩, pg, wn, gm⟩ := cl.1
    have nw : NOW (cI c 0 17 (c.1 0 17 + 1)) F R v := ⟨BG_of1 (fun k k0 k1 => (sm k (by simp; omega)).1) (fun k k0 k1 => (sm k (by simp; omega)).2) w1, w2, w3, w4, w5, sm.P (by decide) w6, by unfold GL at w7 ⊢; rw [(sm 13 (by decide)).1]; exact w7⟩
    have hfq := hf.succ (q' := q + 1) (by omega)
    have hfb := hfq.cls hD.2.2.2.2 (hfq.2.2.2.1.book hf.1.1.1 e1 (clsL_nd hf.2.2.1) (c' := cI c 0 17 (c.1 0 17 + 1)) ⟨nw, PG.sim sm (by decide) (by decide) (by decide) pg, wn, gm⟩ (sm 46 (by decide)).1 (sm 47 (by decide)).1 (sm 48 (by decide)).1 ⟨by rw [(sm 51 (by decide)).1]; exact p1, by rw [cI_1, up_ne _ (Or.inr (by decide))]; exact p2, by rw [cI_1, up_at]; omega⟩)
    have xb : 0 ≤ xv ∧ xv ≤ 4 := by
      have := (in0 g hg.1 g1).2.2.2.1
      rw [ex]
      unfold boxC
      split
      · omega
      · split <;> omega
    have x16 : ((2 ^ xv.toNat : Nat) : Int) ≤ 16 ∧ 0 ≤ ((2 ^ xv.toNat : Nat) : Int) := by
      rcases (show xv = 0 ∨ xv = 1 ∨ xv = 2 ∨ xv = 3 ∨ xv = 4 by omega) with y | y | y | y | y <;> rw [y] <;> decide
    have k0 : ((d 0).1, (d 0).2.1, (d 0).2.2.1, (d 0).2.2.2.1, (d 0).2.2.2.2.1, infU (infU (d 0).2.2.2.2.2.1 g 7 xv) g 8 (c.1 0 17 + 1 + ((2 ^ xv.toNat : Nat) : Int)), (d 0).2.2.2.2.2.2) = ((d 0).1, (d 0).2.1, (d 0).2.2.1, (d 0).2.2.2.1, (d 0).2.2.2.2.1, infU (infU (d 0).2.2.2.2.2.1 g 7 xv) g 8 (c.1 0 17 + 1 + ((2 ^ xv.toNat : Nat) : Int)), (d 0).2.2.2.2.2.2) := rfl
    generalize he0 : (((d 0).1, (d 0).2.1, (d 0).2.2.1, (d 0).2.2.2.1, (d 0).2.2.2.2.1, infU (infU (d 0).2.2.2.2.2.1 g 7 xv) g 8 (c.1 0 17 + 1 + ((2 ^ xv.toNat : Nat) : Int)), (d 0).2.2.2.2.2.2) : SDt) = e0 at k0
    have hgm : gmC e0 = gmC (d 0) := by rw [← he0]; rfl
    have gk : ∀ a ∈ [(d 0).1.getD g.toNat 0], a ∈ gmC (d 0) := fun a ha => by
      rw [List.mem_singleton.mp ha]; exact (gmC_mem (e := d 0) ⟨hg.1, g1⟩).1
    have d0 : upD d 0 e0 0 = e0 := upD_at _ _ _
    have d1 : upD d 0 e0 1 = d 1 := upD_ne _ _ (by decide)
    have hfs := hfb.shelf hD he (yl' := yl) (d' := upD d 0 e0) (fun a ha => .inr (.inr (.inr (.inl (gk a ha))))) (by
      have eo : ownL D o x A yb yl (upD d 0 e0) ye [a3, a4] = ownL D o x A yb yl d ye [a3, a4] := by unfold ownL; rw [d0, d1, hgm]
      rw [eo]; exact hfb.2.2.1.ex he) (fun i hi => by
      rcases hi with rfl | rfl
      · rw [d0, ← he0]
        refine ⟨hS, (cl.2.2.1 0 (.inl rfl)).2.1, fun k k0 k1 => ?_⟩
        have h0 := in0 k k0 k1
        have e7 : infU (infU (d 0).2.2.2.2.2.1 g 7 xv) g 8 (c.1 0 17 + 1 + ((2 ^ xv.toNat : Nat) : Int)) k 7 = if k = g then xv else (d 0).2.2.2.2.2.1 k 7 := by
          unfold infU
          rw [if_neg (by omega)]
          by_cases y : k = g
          · rw [if_pos ⟨y, rfl⟩, if_pos y]
          · rw [if_neg (fun h => y h.1), if_neg y]
        have e8 : infU (infU (d 0).2.2.2.2.2.1 g 7 xv) g 8 (c.1 0 17 + 1 + ((2 ^ xv.toNat : Nat) : Int)) k 8 = if k = g then c.1 0 17 + 1 + ((2 ^ xv.toNat : Nat) : Int) else (d 0).2.2.2.2.2.1 k 8 := by
          unfold infU
          by_cases y : k = g
          · rw [if_pos ⟨y, rfl⟩, if_pos y]
          · rw [if_neg (fun h => y h.1), if_neg (fun h => y h.1), if_neg y]
        have ef : ∀ f : Nat, f ≠ 7 → f ≠ 8 → infU (infU (d 0).2.2.2.2.2.1 g 7 xv) g 8 (c.1 0 17 + 1 + ((2 ^ xv.toNat : Nat) : Int)) k f = (d 0).2.2.2.2.2.1 k f := fun f h7 h8 => by
          unfold infU
          rw [if_neg (fun h => h8 h.2), if_neg (fun h => h7 h.2)]
        dsimp only
        rw [ef 4 (by decide) (by decide), ef 5 (by decide) (by decide), ef 6 (by decide) (by decide), e7, e8]
        refine ⟨h0.1, h0.2.1, h0.2.2.1, ?_, ?_⟩
        · split
          · exact xb
          · exact h0.2.2.2.1
        · split
          · omega
          · have := h0.2.2.2.2; omega
      · rw [d1]
        exact ⟨sh_other (s := 0) hD hfb he (.inl ⟨rfl, rfl⟩) (fun a ha => .inr (.inr (gk a ha))), (hfq.2.2.2.1.2.2.1 1 (.inr rfl)).2⟩)
    refine store_ok hD hfs (fun S5 h5 e5 => ?_)
    refine hG _ _ h5.2.1.1 ?_
    rw [h5.1.2.1.2]
    refine q_answer h5.1.2.1.1 h30 hr ht' (fun y => by omega) (fun _ => ?_)
    have ask : askB m = g := by rw [eg]; exact sm0.ask (by omega)
    have an := sm0.answer (r := t) ⟨by omega, l40⟩ ⟨hg.1, g1⟩ ask ht
    have e39 : m 50 39 = c.1 0 17 := lk.2.2.2.2.1.2.1
    have an2 : shD (ansM m t) 0 e0 := by
      have := an.2
      rw [e39] at this
      rw [← he0, ex]
      exact this
    have nb : newBox m t (askB m) = xv := by rw [an.1, ex]
    have row : ∀ r : Nat, r ≠ 37 → r ≠ 38 → r ≠ 50 → ansM m t r = m r := fun r h1 h2 h3 => by
      unfold ansM
      rw [up_r _ _ _ (by simpa using h2), up_r _ _ _ (by simpa using h1), up_r _ _ _ (by simpa using h3), up_r _ _ _ (by simpa using h3)]
    have r37 : ∀ k, ansM m t 37 k = if k = g then xv else m 37 k := fun k => by
      unfold ansM
      rw [up_f _ _ _ _ rfl, nb, ask]
      by_cases y : k = g
      · rw [y, up_at, if_pos rfl]
      · rw [up_ne _ (Or.inr y), up_f _ _ _ _ rfl, up_f _ _ _ _ rfl, if_neg y]
    have r38 : ∀ k, ansM m t 38 k = if k = g then m 50 39 + 1 + ((2 ^ xv.toNat : Nat) : Int) else m 38 k := fun k => by
      unfold ansM
      rw [nb, ask]
      by_cases y : k = g
      · rw [y, up_at, if_pos rfl]; simp
      · rw [up_ne _ (Or.inr y), up_f _ _ _ _ rfl, up_f _ _ _ _ rfl, up_f _ _ _ _ rfl, if_neg y]
    have o50 : ∀ j : Int, j ≠ 39 → ansM m t 50 j = (up (up m 50 0 0) 50 39 (m 50 39 + 1)) 50 j := fun j hj => by
      unfold ansM
      rw [up_f _ _ _ _ rfl, up_f _ _ _ _ rfl]
    have an1 : shD (ansM m t) 1 (d 1) := (shm_of lk (.inr (rfl : (1 : Int) = 1))).stay (by rw [row 30 (by decide) (by decide) (by decide)]) (fun k k0 k1 => by
      have sl : slotB 1 k = 40 + k := by unfold slotB; omega
      refine ⟨fun r h1 h2 => ?_, fun j j0 j1 => by rw [vec_row (row 31 (by decide) (by decide) (by decide))], fun j j0 j1 => by rw [row 32 (by decide) (by decide) (by decide)]⟩
      rcases (show r = 37 ∨ r = 38 ∨ (r ≠ 37 ∧ r ≠ 38 ∧ r ≠ 50) by omega) with y | y | y
      · rw [y, r37, if_neg (by omega)]
      · rw [y, r38, if_neg (by omega)]
      · rw [row r y.1 y.2.1 y.2.2])
    have xr2 : XRo (ansM m t) F R := xr.shelf (fun r hr => row r (by omega) (by omega) (by omega)) (fun j hj => by rw [o50 j (by omega), up_ne _ (Or.inr (by omega)), up_ne _ (Or.inr (by omega))]) (fun i i0 i1 => by rw [row 30 (by decide) (by decide) (by decide)]; exact xr.2.1.1 i i0 i1) (fun k k0 k1 => by
        have h2 := xr.2.1.2.1 k k0 k1
        have h3 := xr.2.2.2.2.1 k k0 k1
        rw [row 33 (by decide) (by decide) (by decide), row 34 (by decide) (by decide) (by decide), row 35 (by decide) (by decide) (by decide), row 36 (by decide) (by decide) (by decide), r37, r38]
        refine ⟨h2.1, h2.2, h3.1, ?_, ?_⟩
        · split
          · exact xb
          · exact h3.2.1
        · split
          · unfold i32; omega
          · exact h3.2.2) (fun j j0 j1 => by rw [row 32 (by decide) (by decide) (by decide)]; exact xr.2.2.1.2.2.1 j j0 j1) (fun i g k i0 i1 g0 g1 k0 k1 => by
        rw [row 30 (by decide) (by decide) (by decide)] at g1
        rw [row 33 (by decide) (by decide) (by decide)] at k1
        rw [sv_vec, vec_row (row 31 (by decide) (by decide) (by decide))]; exact xr.2.1.2.2 i g k i0 i1 g0 g1 k0 k1)
    have lk1 := (tick_rel lk _ rfl).shelf (m' := ansM m t) (d' := upD d 0 e0) (fun r hr => by rw [row r (by omega) (by omega) (by omega), up_r _ _ _ (by simp; omega), up_r _ _ _ (by simp; omega)]) (fun j hj => by
      by_cases y : j = 39
      · rw [y]; unfold ansM; rw [up_f _ _ _ _ rfl, up_f _ _ _ _ rfl]
      · exact o50 j y) (by rw [d0]; exact an2) (by rw [d1]; exact an1)
    refine cmp_ok (by rw [x_e0, o50 0 (by decide), up_ne _ (Or.inr (by decide)), up_at]; rfl) (hP _ (REL.mk (h5.ref hD.2.2.1.1 hD.2.2.2.2 xr2) lk1)) (fun _ => ⟨(ans_ref h5 _).2, ?_⟩)
    rw [(ans_ref h5 _).1, e5, nb]
end
