def clearL (v : Int → Int) (k step : Int) : Nat → Bool
  | 0 => true
  | d + 1 => v k == 0 && clearL v (k + step) step d
/-- a level's position: pieces, side, rights, passing square -/
abbrev okV (F R : Int) (v : Int → Int) : Prop := (∀ k, 0 ≤ k → k < 64 → 0 ≤ v k ∧ v k ≤ 12) ∧ (0 ≤ v 64 ∧ v 64 ≤ 1) ∧ (0 ≤ v 65 ∧ v 65 ≤ 15) ∧ (-1 ≤ v 66 ∧ v 66 < F * R)
theorem okV.p {F R : Int} {v : Int → Int} (h : okV F R v) : ∀ k, 0 ≤ k → k < 64 → 0 ≤ v k ∧ v k ≤ 12 := h.1
theorem okV.s {F R : Int} {v : Int → Int} (h : okV F R v) : 0 ≤ v 64 ∧ v 64 ≤ 1 := h.2.1
theorem okV.r {F R : Int} {v : Int → Int} (h : okV F R v) : 0 ≤ v 65 ∧ v 65 ≤ 15 := h.2.2.1
theorem okV.e {F R : Int} {v : Int → Int} (h : okV F R v) : -1 ≤ v 66 ∧ v 66 < F * R := h.2.2.2
def clearB (F : Int) (v : Int → Int) (a b : Int) : Bool := clearL v (a + stepOf F (b % F - a % F) (b / F - a / F)) (stepOf F (b % F - a % F) (b / F - a / F)) (farOf (b % F - a % F) (b / F - a / F) - 1)
def attB (F : Int) (v : Int → Int) (a b : Int) : Bool :=
  let df := dist (a % F) (b % F)
  let dr := dist (a / F) (b / F)
  if kindO (v a) = 1 then df ≤ 1 && dr ≤ 1 && 0 < df + dr
  else if kindO (v a) = 2 then (df * dr = 0 || df = dr) && 0 < df + dr && clearB F v a b
  else if kindO (v a) = 3 then df * dr = 0 && 0 < df + dr && clearB F v a b
  else if kindO (v a) = 4 then df = dr && 0 < df && clearB F v a b
  else if kindO (v a) = 5 then df * dr = 2
  else if kindO (v a) = 6 then df = 1 && b / F - a / F = (if v a = 6 then 1 else -1)
  else false
section
variable {D : wD} {S : wS} {x : Nat} {A : Nat → Nat} {m : xM} {post : Int32 → wS → Prop} {F R : Int}
theorem q_isClear_80 (h : XC D S x A) {l to step : Int} (hl : 0 ≤ l ∧ l < 8) (hv : okV F R (lv m l)) : ∀ (n d : Nat) (k : Int), d < n → to = k + d * step → (∀ j : Nat, j < d → 0 ≤ k + j * step ∧ k + j * step < 64) → step ≠ 0 → -1000 < step ∧ step < 1000 →
    0 ≤ to ∧ to < 64 → wp_X12_isClear_80 D post n (xS S x A m) x (iI l) (iI to) (iI step) (iI k) = post (iI (bI (clearL (lv m l) k step d))) (xS S x A m) := by
  intro n
  induction n with
  | zero => intro d k hd; omega
  | succ n ih =>
    intro d k hd hto hr hs hsr htr
    cases d with
    | zero =>
      have : to = k := by simpa using hto
      subst this
      simp (discharger := first | decide | omega) only [x_own h, x_kd h, x_r h, x_m h, x_l h, x_k h, x_n h, x_i0, x_i h, x_u0 h, x_u h, xLen, xKd, nlit, iI_lit, iI_add, iI_sub, iI_mul, iI_neg, bI_z, bI_o, i10, i01, eq_self, bI_nar, nar_0, nar_1, up_at, up_f, Option.some.injEq, exists_eq_left', true_and, and_true, forall_eq, not_true_eq_false, not_false_eq_true, forall_const, false_implies, true_implies, Classical.not_not, if_true, if_false, Int.reduceEq, Int.reduceLT, Int.reduceLE, Int.reduceGT, Int.reduceGE, Int.reduceAdd, Int.reduceSub, Int.reduceMul, Int.reduceNeg, Int.reduceNe, wp_X12_isClear_80, clearL, bI_t]
    | succ d =>
      have h0 : 0 ≤ k ∧ k < 64 := by simpa using hr 0 (by omega)
      have hne : k ≠ to := by
        intro e
        have : ((d + 1 : Nat) : Int) * step = 0 := by omega
        rcases Int.mul_eq_zero.mp this with h | h <;> omega
      have hto2 : to = k + step + d * step := by
        rw [hto]; push_cast; rw [Int.add_mul]; omega
      have hr2 : ∀ j : Nat, j < d → 0 ≤ k + step + j * step ∧ k + step + j * step < 64 := by
        intro j hj
        have := hr (j + 1) (by omega)
        push_cast at this
        rw [Int.add_mul] at this
        omega
      have e1 : (iI k = iI to) = False := by rw [iI_eq (by omega) (by omega) (by omega) (by omega)]; exact eq_false hne
      unfold wp_X12_isClear_80
      simp (discharger := omega) only [nlit, iI_lit, iI_add, iI_sub, iI_mul, iI_neg, bI_z, bI_o, i10, i01, eq_self, bI_nar, nar_0, nar_1, bI_t, bI_f, Option.some.injEq, exists_eq_left', true_and, and_true, forall_eq, not_true_eq_false, not_false_eq_true, forall_const, false_implies, true_implies, Classical.not_not, if_true, if_false, Int.reduceEq, Int.reduceLT, Int.reduceLE, Int.reduceGT, Int.reduceGE, Int.reduceAdd, Int.reduceSub, Int.reduceMul, Int.reduceNeg, Int.reduceNe, Bool.true_and, Bool.and_true, Bool.false_and, Bool.and_false, BEq.rfl, Bool.true_eq_false, Bool.false_eq_true, e1]
      rw [q_on h hl (by omega) (by omega)]
      unfold clearL
      have hp := hv.p k (by omega) (by omega)
      by_cases hz : lv m l k = 0
      · simp (discharger := omega) only [nlit, iI_lit, iI_add, iI_sub, iI_mul, iI_neg, bI_z, bI_o, i10, i01, eq_self, bI_nar, nar_0, nar_1, bI_t, bI_f, Option.some.injEq, exists_eq_left', true_and, and_true, forall_eq, not_true_eq_false, not_false_eq_true, forall_const, false_implies, true_implies, Classical.not_not, if_true, if_false, Int.reduceEq, Int.reduceLT, Int.reduceLE, Int.reduceGT, Int.reduceGE, Int.reduceAdd, Int.reduceSub, Int.reduceMul, Int.reduceNeg, Int.reduceNe, Bool.true_and, Bool.and_true, Bool.false_and, Bool.and_false, BEq.rfl, Bool.true_eq_false, Bool.false_eq_true, hz]
        exact ih d (k + step) (by omega) hto2 hr2 hs hsr htr
      · have e2 : (iI (lv m l k) = iI 0) = False := by rw [iI_eq (by omega) (by omega) (by omega) (by omega)]; exact eq_false hz
        simp (discharger := omega) only [nlit, iI_lit, iI_add, iI_sub, iI_mul, iI_neg, bI_z, bI_o, i10, i01, eq_self, bI_nar, nar_0, nar_1, bI_t, bI_f, Option.some.injEq, exists_eq_left', true_and, and_true, forall_eq, not_true_eq_false, not_false_eq_true, forall_const, false_implies, true_implies, Classical.not_not, if_true, if_false, Int.reduceEq, Int.reduceLT, Int.reduceLE, Int.reduceGT, Int.reduceGE, Int.reduceAdd, Int.reduceSub, Int.reduceMul, Int.reduceNeg, Int.reduceNe, Bool.true_and, Bool.and_true, Bool.false_and, Bool.and_false, BEq.rfl, Bool.true_eq_false, Bool.false_eq_true, e2, beq_eq_false_iff_ne.mpr hz]
end
