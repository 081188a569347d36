section
variable {D : wD} {S : wS} {x : Nat} {A : Nat → Nat} {m : xM} {F R : Int} {post : Int32 → wS → Prop}
/-- how many continuations there are, of the moves that stand listed -/
def contB (m : xM) (L : Nat) : Int := sumL (fun k => if 0 < m 19 k then 1 else 0) 0 L
theorem q_continued_4 (h : XC D S x A) {L : Nat} (h7 : m 7 0 = L) (hL : L ≤ 320) (hr : ∀ k, 0 ≤ k → k < 320 → i32 (m 19 k)) : ∀ (n d : Nat) (j t : Int), d < n → j + d = L → 0 ≤ j →
    post (iI (t + sumL (fun k => if 0 < m 19 k then 1 else 0) j d)) (xS S x A m) → wp_X12_continued_4 D post n (xS S x A m) x (iI t) (iI j) := by
  intro n
  induction n with
  | zero => intro d j t hd; omega
  | succ n ih =>
    intro d j t hd hj h0 k
    unfold wp_X12_continued_4
    simp (discharger := first | decide | omega) only [x_own h, x_kd h, x_r h, x_m h, x_l h, x_k h, x_n h, x_i0, x_i h, x_u0 h, x_u h, xLen, xKd, nlit, iI_lit, iI_add, iI_sub, iI_mul, iI_neg, bI_z, bI_o, i10, i01, eq_self, bI_nar, nar_0, nar_1, up_at, up_f, Option.some.injEq, exists_eq_left', true_and, and_true, forall_eq, not_true_eq_false, not_false_eq_true, forall_const, false_implies, true_implies, Classical.not_not, if_true, if_false, Int.reduceEq, Int.reduceLT, Int.reduceLE, Int.reduceGT, Int.reduceGE, Int.reduceAdd, Int.reduceSub, Int.reduceMul, Int.reduceNeg, Int.reduceNe, eq_true (iI_in (a := 0) (n := 8) (by omega) (by omega) (by omega)), h7]
    rw [iI_le (by omega) (by omega) (by omega) (by omega)]
    cases d with
    | zero =>
      have e : (L : Int) ≤ j := by omega
      simp only [iI_lit, bI_z, bI_o, i10, i01, eq_self, bI_nar, nar_0, nar_1, bI_t, bI_f, true_and, and_true, forall_eq, not_true_eq_false, not_false_eq_true, forall_const, false_implies, true_implies, Classical.not_not, if_true, if_false, Int.reduceEq, Int.reduceLT, Int.reduceLE, Int.reduceGT, Int.reduceGE, Int.reduceAdd, Int.reduceSub, Int.reduceMul, Int.reduceNeg, Int.reduceNe, Bool.true_and, Bool.and_true, Bool.false_and, Bool.and_false, Bool.true_or, Bool.or_true, Bool.false_or, Bool.or_false, BEq.rfl, decide_true, decide_false, decide_eq_true_eq, Bool.false_eq_true, Bool.true_eq_false, Bool.not_true, Bool.not_false, sumL, e, Int.add_zero] at k ⊢
      exact k
    | succ d =>
      have e : ¬ (L : Int) ≤ j := by omega
      have r := hr j h0 (by omega)
      have nx : ∀ w : Int, w = (if 0 < m 19 j then 1 else 0) → wp_X12_continued_29 D post (wp_X12_continued_4 D post n) (xS S x A m) x (iI j) (iI t) (iI w) := by
        intro w hw
        simp (discharger := omega) only [nlit, iI_lit, iI_add, iI_sub, iI_mul, iI_neg, bI_z, bI_o, i10, i01, eq_self, bI_nar, nar_0, nar_1, bI_t, bI_f, Option.some.injEq, exists_eq_left', true_and, and_true, forall_eq, not_true_eq_false, not_false_eq_true, forall_const, false_implies, true_implies, Classical.not_not, if_true, if_false, Int.reduceEq, Int.reduceLT, Int.reduceLE, Int.reduceGT, Int.reduceGE, Int.reduceAdd, Int.reduceSub, Int.reduceMul, Int.reduceNeg, Int.reduceNe, Bool.true_and, Bool.and_true, Bool.false_and, Bool.and_false, BEq.rfl, Bool.true_eq_false, Bool.false_eq_true, wp_X12_continued_29]
        refine ih d (j + 1) (t + w) (by omega) (by omega) (by omega) ?_
        unfold sumL at k
        rw [← hw] at k
        rw [Int.add_assoc]; exact k
      simp (discharger := first | decide | omega) only [x_own h, x_kd h, x_r h, x_m h, x_l h, x_k h, x_n h, x_i0, x_i h, x_u0 h, x_u h, xLen, xKd, nlit, iI_lit, iI_add, iI_sub, iI_mul, iI_neg, bI_z, bI_o, i10, i01, eq_self, bI_nar, nar_0, nar_1, up_at, up_f, Option.some.injEq, exists_eq_left', true_and, and_true, forall_eq, not_true_eq_false, not_false_eq_true, forall_const, false_implies, true_implies, Classical.not_not, if_true, if_false, Int.reduceEq, Int.reduceLT, Int.reduceLE, Int.reduceGT, Int.reduceGE, Int.reduceAdd, Int.reduceSub, Int.reduceMul, Int.reduceNeg, Int.reduceNe, e, eq_true (iI_in (a := j) (n := 320) (by omega) (by omega) (by omega))]
      rw [iI_le r.1 r.2 (by decide) (by decide)]
      by_cases c : 0 < m 19 j
      · have c2 : ¬ m 19 j ≤ 0 := by omega
        simp (discharger := omega) only [nlit, iI_lit, iI_add, iI_sub, iI_mul, iI_neg, bI_z, bI_o, i10, i01, eq_self, bI_nar, nar_0, nar_1, bI_t, bI_f, Option.some.injEq, exists_eq_left', true_and, and_true, forall_eq, not_true_eq_false, not_false_eq_true, forall_const, false_implies, true_implies, Classical.not_not, if_true, if_false, Int.reduceEq, Int.reduceLT, Int.reduceLE, Int.reduceGT, Int.reduceGE, Int.reduceAdd, Int.reduceSub, Int.reduceMul, Int.reduceNeg, Int.reduceNe, Bool.true_and, Bool.and_true, Bool.false_and, Bool.and_false, BEq.rfl, Bool.true_eq_false, Bool.false_eq_true, c2]
        exact nx 1 (by rw [if_pos c])
      · have c2 : m 19 j ≤ 0 := by omega
        simp (discharger := omega) only [nlit, iI_lit, iI_add, iI_sub, iI_mul, iI_neg, bI_z, bI_o, i10, i01, eq_self, bI_nar, nar_0, nar_1, bI_t, bI_f, Option.some.injEq, exists_eq_left', true_and, and_true, forall_eq, not_true_eq_false, not_false_eq_true, forall_const, false_implies, true_implies, Classical.not_not, if_true, if_false, Int.reduceEq, Int.reduceLT, Int.reduceLE, Int.reduceGT, Int.reduceGE, Int.reduceAdd, Int.reduceSub, Int.reduceMul, Int.reduceNeg, Int.reduceNe, Bool.true_and, Bool.and_true, Bool.false_and, Bool.and_false, BEq.rfl, Bool.true_eq_false, Bool.false_eq_true, c2]
        exact nx 0 (by rw [if_neg c])
theorem q_continued (h : XC D S x A) {L : Nat} (h7 : m 7 0 = L) (hL : L ≤ 320) (hr : ∀ k, 0 ≤ k → k < 320 → i32 (m 19 k)) (k : post (iI (contB m L)) (xS S x A m)) : wp_X12_continued D post (xS S x A m) x := by
  refine ⟨L + 1, ?_⟩
  refine q_continued_4 h h7 hL hr (L + 1) L 0 0 (by omega) (by omega) (by decide) ?_
  rw [Int.zero_add]; exact k
end
