section
variable {D : wD} {S U : wS} {o : Nat → Nat} {c c' : cM} {x : Nat} {A : Nat → Nat} {m m' : xM} {F R F' R' : Int} {v v' : Int → Int} {n n' : Int} {w w' : Int → Int → Int} {mv mv' : Int → Mv} {L W : List Int} {yb : Nat → Nat} {yl : Int → Nat} {d : Int → SDt} {ye lw : List Nat} {q q' : Int} {b Ln : Nat} {xs : Nat → Int32} {a3 a4 : Nat} {P Q : wS → Prop} {ε : Bool}
/-- CALL: takeBack -/
theorem call_takeBack (hD : wDok D b Ln xs) (hR : RELo D S o x A [a3, a4] q ε) (hP : ∀ S', RELo D S' o x A [a3, a4] (q + 1) ε → P S') :
    wp_L_takeBack D (fun r1 S2 => wp_X12_takeBack D (fun r3 S4 => CMPo D x a3 P Q r1 r3 S4) S2 x) S (o 0) a3 := by
  refine REL.elim hR fun c m F R v n w mv L W yb yl d ye hf lk ev => ?_
  unfold wp_L_takeBack wp_L_takeBack_0
  have e1 := hf.1.1.2
  obtain ⟨w1, w2, w3, w4, w5, w6, w7⟩ := hf.2.2.2.1.1.1
  obtain ⟨-, pg, wn, gm⟩ := hf.2.2.2.1.1
  have e11 := lk.2.1.1
  have h11 : 0 ≤ m 50 11 ∧ m 50 11 ≤ 80 := by rw [e11]; exact pg.2.1
  rw [e1]
  refine q_takeBackC hf.1.1.1 pg (fun z => ⟨rfl, ?_⟩) (fun z => ?_)
  · rw [← e1]
    show wp_X12_takeBack D _ S x
    rw [hf.1.2.1.2]
    exact q_takeBack hf.1.2.1.1 h11 (fun _ => err_ok hD hf lk (.inl rfl) ((SIM.rf m).up0 1) rfl hP) (fun y => by omega)
  · have p1 := (gm.1 (n - 1) (by omega) (by omega)).1
    have sm : cSim [11, 13] c (putP (cI c 13 3 (n - 1)) 11 (w (n - 1))) := ((cI_sim c 13 3 (n - 1)).mono (by decide)).trans ((putP_sim _ 11 _).mono (by decide))
    have k10 : ∀ k, k < 10 → k ∉ [11, 13] := fun k hk => by simp; omega
    have c13 : (putP (cI c 13 3 (n - 1)) 11 (w (n - 1))).1 13 3 = n - 1 := by
      rw [((putP_sim (cI c 13 3 (n - 1)) 11 (w (n - 1))) 13 (by decide)).1, cI_1, up_at]
    have nw : NOW (putP (cI c 13 3 (n - 1)) 11 (w (n - 1))) F R (w (n - 1)) := ⟨BG_of (fun k hk => (sm k (k10 k hk)).1) (fun k hk => (sm k (k10 k hk)).2) w1, p1.1, p1.2.1, p1.2.2.1, p1.2.2.2.1, putP_at _ _ _, ⟨by rw [c13]; have := pg.2.1; omega, fun _ => p1.2.2.2.2⟩⟩
    have pg' : PG (putP (cI c 13 3 (n - 1)) 11 (w (n - 1))) (n - 1) w mv := by
      refine ⟨c13, by have := pg.2.1; omega, fun k k0 k1 => ?_, fun k k0 k1 => ?_⟩
      · have := pg.2.2.1 k k0 (by omega)
        refine ⟨?_, this.2⟩
        have e := this.1
        unfold RS at e ⊢
        rw [(sm 14 (by decide)).2]
        exact e
      · rw [(sm 15 (by decide)).1]
        exact pg.2.2.2 k k0 (by omega)
    have hf1 := hf.cls hD.2.2.2.2 (hf.2.2.2.1.book hf.1.1.1 e1 (clsL_nd hf.2.2.1) ⟨nw, pg', rfl, fun k k0 k1 => gm.1 k k0 (by omega), fun k k0 k1 => gm.2 k k0 (by omega)⟩ (sm 46 (by decide)).1 (sm 47 (by decide)).1 (sm 48 (by decide)).1 (by rw [(sm 51 (by decide)).1, (sm 0 (by decide)).1]; exact hf.2.2.2.1.2.2.2.1))
    refine store_ok hD hf1 (fun S5 h5 e5 => ?_)
    show wp_X12_takeBack D _ S5 x
    rw [h5.1.2.1.2]
    refine q_takeBack h5.1.2.1.1 h11 (fun y => by omega) (fun _ => ?_)
    have kg : KGo m (up (up m 50 0 0) 50 11 (m 50 11 - 1)) := ⟨fun r hr => by rw [up_r _ _ _ (by simp; omega), up_r _ _ _ (by simp; omega)], fun j hj => by rw [up_ne _ (Or.inr (by omega)), up_ne _ (Or.inr (by omega))]⟩
    have g11 : (up (up m 50 0 0) 50 11 (m 50 11 - 1)) 50 11 = n - 1 := by rw [up_at, e11]
    have gvk : ∀ k, gv (up (up m 50 0 0) 50 11 (m 50 11 - 1)) k = gv m k := fun k => by
      unfold gv
      rw [vec_row (up_r _ _ _ rfl), vec_row (up_r _ _ _ rfl)]
    have r9 : ∀ r : Nat, r ≠ 50 → (up (up m 50 0 0) 50 11 (m 50 11 - 1)) r = m r := fun r hr => by rw [up_r _ _ _ (by simpa using hr), up_r _ _ _ (by simpa using hr)]
    have xr := hf.2.2.2.2.game (KGo.gx kg) ⟨by rw [g11]; have := pg.2.1; omega, fun k k0 k1 => by
      rw [g11] at k1
      rw [gvk]; exact hf.2.2.2.2.1.2.2 k k0 (by omega)⟩ (fun k k0 k1 => by rw [r9 10 (by decide), r9 9 (by decide)]; exact hf.2.2.2.2.2.2.2.2.2.2.2.1 k k0 k1)
    have lk1 := lk.game (c' := putP (cI c 13 3 (n - 1)) 11 (w (n - 1))) (n' := n - 1) (w' := w) (mv' := mv) kg (sm 0 (by decide)).1 (sm 51 (by decide)).1 (sm 46 (by decide)).1 ⟨g11, fun k k0 k1 => by rw [gvk]; exact lk.2.1.2.1 k k0 (by omega), fun k k0 k1 => by rw [r9 9 (by decide)]; exact lk.2.1.2.2.1 k k0 (by omega), fun k k0 k1 => by rw [r9 10 (by decide)]; exact lk.2.1.2.2.2 k k0 (by omega)⟩
    refine cmp_ok (by rw [x_i0]; rfl) (hP _ (REL.mk ((h5.ref hD.2.2.1.1 hD.2.2.2.2 xr).succ (by omega)) lk1)) (fun _ => ⟨(ans_ref h5 _).2, ?_⟩)
    rw [(ans_ref h5 _).1, e5, e11]
end
