/-- one game of the shelf 1 comes to the shelf 0 -/
def mgC (m : xM) (g : Int) : xM :=
  up (up (up (up (up (up (up (cpy (cpy m 31 (5427 * (40 + g)) 31 (5427 * m 30 0) 5427) 32 (80 * (40 + g)) 32 (80 * m 30 0) 80) 33 (m 30 0) (m 33 (40 + g))) 34 (m 30 0) (m 34 (40 + g))) 35 (m 30 0) (m 35 (40 + g))) 36 (m 30 0) (m 36 (40 + g))) 37 (m 30 0) 0) 38 (m 30 0) 0) 30 0 (m 30 0 + 1)
def mgB (m : xM) (g : Int) : Bool := decide (m 30 0 < 40) && !thereB m (40 + g)
def mgS (m : xM) (g : Int) : xM := if mgB m g then mgC m g else m
def mgL (m : xM) (g : Int) : Nat → xM
  | 0 => m
  | d + 1 => mgL (mgS m g) (g + 1) d
def mgN (m : xM) (g : Int) : Nat → Int
  | 0 => 0
  | d + 1 => (if mgB m g then 1 else 0) + mgN (mgS m g) (g + 1) d
abbrev MG (m : xM) : Prop := (∀ s, 0 ≤ s → s ≤ 1 → 0 ≤ m 30 s ∧ m 30 s ≤ 40) ∧ (∀ k, 0 ≤ k → k < 80 → 0 ≤ m 33 k ∧ m 33 k ≤ 80) ∧ (∀ j, 0 ≤ j → j < 6400 → i32 (m 32 j)) ∧ ∀ s g, 0 ≤ s → s ≤ 1 → 0 ≤ g → g < m 30 s → ∀ j, 0 ≤ j → j < 67 → i32 (vec m 31 (5427 * slotB s g) j)
section
variable {D : wD} {S : wS} {x : Nat} {A : Nat → Nat} {m : xM} {F R : Int} {post : Int32 → wS → Prop}
theorem mgC_30 (m : xM) (g s : Int) : mgC m g 30 s = if s = 0 then m 30 0 + 1 else m 30 s := by
  unfold mgC
  by_cases c : s = 0
  · rw [if_pos c, c, up_at]
  · rw [if_neg c, up_ne _ (Or.inr c), up_f _ _ _ _ rfl, up_f _ _ _ _ rfl, up_f _ _ _ _ rfl, up_f _ _ _ _ rfl, up_f _ _ _ _ rfl, up_f _ _ _ _ rfl, cpy_ne _ rfl, cpy_ne _ rfl]
theorem mgC_33 (m : xM) (g k : Int) : mgC m g 33 k = if k = m 30 0 then m 33 (40 + g) else m 33 k := by
  unfold mgC
  rw [up_f _ _ _ _ rfl, up_f _ _ _ _ rfl, up_f _ _ _ _ rfl, up_f _ _ _ _ rfl, up_f _ _ _ _ rfl, up_f _ _ _ _ rfl]
  by_cases c : k = m 30 0
  · rw [if_pos c, c, up_at]
  · rw [if_neg c, up_ne _ (Or.inr c), cpy_ne _ rfl, cpy_ne _ rfl]
theorem mgC_32 (m : xM) (g j : Int) : mgC m g 32 j = if 80 * m 30 0 ≤ j ∧ j < 80 * m 30 0 + 80 then m 32 (80 * (40 + g) + (j - 80 * m 30 0)) else m 32 j := by
  unfold mgC
  rw [up_f _ _ _ _ rfl, up_f _ _ _ _ rfl, up_f _ _ _ _ rfl, up_f _ _ _ _ rfl, up_f _ _ _ _ rfl, up_f _ _ _ _ rfl, up_f _ _ _ _ rfl]
  unfold cpy
  simp
theorem mgC_31 (m : xM) (g j : Int) : mgC m g 31 j = if 5427 * m 30 0 ≤ j ∧ j < 5427 * m 30 0 + 5427 then m 31 (5427 * (40 + g) + (j - 5427 * m 30 0)) else m 31 j := by
  unfold mgC
  rw [up_f _ _ _ _ rfl, up_f _ _ _ _ rfl, up_f _ _ _ _ rfl, up_f _ _ _ _ rfl, up_f _ _ _ _ rfl, up_f _ _ _ _ rfl, up_f _ _ _ _ rfl, cpy_ne _ rfl]
  unfold cpy
  simp
theorem mgC_vec (m : xM) (g a k : Int) (ha : 0 ≤ a) (hk : 0 ≤ k ∧ k ≤ 80) : vec (mgC m g) 31 (5427 * a + 67 * k) = if a = m 30 0 then vec m 31 (5427 * (40 + g) + 67 * k) else vec m 31 (5427 * a + 67 * k) := by
  funext j
  unfold vec
  by_cases hj : 0 ≤ j ∧ j < 67
  · by_cases c : a = m 30 0
    · simp only [if_pos c]
      rw [if_pos hj, mgC_31, if_pos (by omega), if_pos hj]
      congr 1; omega
    · simp only [if_neg c]
      rw [if_pos hj, mgC_31, if_neg (by omega), if_pos hj]
  · rw [if_neg hj]; split <;> exact (if_neg hj).symm
theorem MG.cp (h : MG m) {g : Int} (hg : 0 ≤ g ∧ g < m 30 1) (h40 : m 30 0 < 40) : MG (mgC m g) := by
  have h0 := h.1 0 (by decide) (by decide)
  have h1 := h.1 1 (by decide) (by decide)
  refine ⟨fun s a b => ?_, fun k a b => ?_, fun j a b => ?_, fun s q a b c d j e f => ?_⟩
  · rw [mgC_30]; split; omega; exact h.1 s a b
  · rw [mgC_33]; split; exact h.2.1 _ (by omega) (by omega); exact h.2.1 _ a b
  · rw [mgC_32]; split; exact h.2.2.1 _ (by omega) (by omega); exact h.2.2.1 _ a b
  · rw [mgC_30] at d
    have e0 := mgC_vec m g (slotB s q) 0 (by unfold slotB; omega) (by decide)
    rw [Int.mul_zero, Int.add_zero, Int.add_zero] at e0
    rw [e0]
    by_cases z : slotB s q = m 30 0
    · rw [if_pos z]
      have := h.2.2.2 1 g (by decide) (by decide) hg.1 hg.2 j e f
      unfold slotB at this
      exact this
    · rw [if_neg z]
      refine h.2.2.2 s q a b c ?_ j e f
      unfold slotB at z
      split at d
      · next q0 => subst q0; omega
      · exact d
theorem mgS_1 (m : xM) (g : Int) : mgS m g 30 1 = m 30 1 := by
  unfold mgS; split
  · rw [mgC_30]; rfl
  · rfl
theorem MG.st (h : MG m) {g : Int} (hg : 0 ≤ g ∧ g < m 30 1) : MG (mgS m g) := by
  unfold mgS
  by_cases c : mgB m g = true
  · rw [if_pos c]
    refine h.cp hg ?_
    unfold mgB at c
    simp at c
    exact c.1
  · rw [if_neg c]; exact h
theorem q_merge_9 (h : XC D S x A) : ∀ (n d : Nat) (m : xM) (g e : Int), d < n → g + d = m 30 1 → 0 ≤ g → MG m →
    post (iI (e + mgN m g d)) (xS S x A (up (mgL m g d) 30 1 0)) → wp_X12_merge_9 D post n (xS S x A m) x (iI e) (iI g) := by
  have i0 : vp_in (iI 0) 2 := iI_in (by omega) (by omega) (by omega)
  have i1 : vp_in (iI 1) 2 := iI_in (by omega) (by omega) (by omega)
  intro n
  induction n with
  | zero => intro d m g e hd; omega
  | succ n ih =>
    intro d m g e hd hj h0 hM k
    have h30 := hM.1 0 (by decide) (by decide)
    have h31 := hM.1 1 (by decide) (by decide)
    unfold wp_X12_merge_9
    simp (discharger := first | decide | omega) only [x_own h, x_kd h, x_r h, x_m h, x_l h, x_k h, x_n h, x_i0, x_i h, x_u0 h, x_u h, xLen, xKd, nlit, iI_lit, iI_add, iI_sub, iI_mul, iI_neg, bI_z, bI_o, i10, i01, eq_self, bI_nar, nar_0, nar_1, up_at, up_f, Option.some.injEq, exists_eq_left', true_and, and_true, forall_eq, not_true_eq_false, not_false_eq_true, forall_const, false_implies, true_implies, Classical.not_not, if_true, if_false, Int.reduceEq, Int.reduceLT, Int.reduceLE, Int.reduceGT, Int.reduceGE, Int.reduceAdd, Int.reduceSub, Int.reduceMul, Int.reduceNeg, Int.reduceNe, eq_true i1]
    rw [iI_le (by omega) (by omega) (by omega) (by omega)]
    cases d with
    | zero =>
      have c : m 30 1 ≤ g := by omega
      simp (discharger := omega) only [nlit, iI_lit, iI_add, iI_sub, iI_mul, iI_neg, bI_z, bI_o, i10, i01, eq_self, bI_nar, nar_0, nar_1, bI_t, bI_f, Option.some.injEq, exists_eq_left', true_and, and_true, forall_eq, not_true_eq_false, not_false_eq_true, forall_const, false_implies, true_implies, Classical.not_not, if_true, if_false, Int.reduceEq, Int.reduceLT, Int.reduceLE, Int.reduceGT, Int.reduceGE, Int.reduceAdd, Int.reduceSub, Int.reduceMul, Int.reduceNeg, Int.reduceNe, Bool.true_and, Bool.and_true, Bool.false_and, Bool.and_false, BEq.rfl, Bool.true_eq_false, Bool.false_eq_true, c]
      unfold mgN mgL at k
      rw [Int.add_zero] at k
      exact k
    | succ d =>
      have c : ¬ m 30 1 ≤ g := by omega
      simp (discharger := omega) only [nlit, iI_lit, iI_add, iI_sub, iI_mul, iI_neg, bI_z, bI_o, i10, i01, eq_self, bI_nar, nar_0, nar_1, bI_t, bI_f, Option.some.injEq, exists_eq_left', true_and, and_true, forall_eq, not_true_eq_false, not_false_eq_true, forall_const, false_implies, true_implies, Classical.not_not, if_true, if_false, Int.reduceEq, Int.reduceLT, Int.reduceLE, Int.reduceGT, Int.reduceGE, Int.reduceAdd, Int.reduceSub, Int.reduceMul, Int.reduceNeg, Int.reduceNe, Bool.true_and, Bool.and_true, Bool.false_and, Bool.and_false, BEq.rfl, Bool.true_eq_false, Bool.false_eq_true, c]
      rw [q_slot]
      have sl : slotB 1 g = 40 + g := by unfold slotB; omega
      rw [sl]
      simp (discharger := first | decide | omega) only [x_own h, x_kd h, x_r h, x_m h, x_l h, x_k h, x_n h, x_i0, x_i h, x_u0 h, x_u h, xLen, xKd, nlit, iI_lit, iI_add, iI_sub, iI_mul, iI_neg, bI_z, bI_o, i10, i01, eq_self, bI_nar, nar_0, nar_1, up_at, up_f, Option.some.injEq, exists_eq_left', true_and, and_true, forall_eq, not_true_eq_false, not_false_eq_true, forall_const, false_implies, true_implies, Classical.not_not, if_true, if_false, Int.reduceEq, Int.reduceLT, Int.reduceLE, Int.reduceGT, Int.reduceGE, Int.reduceAdd, Int.reduceSub, Int.reduceMul, Int.reduceNeg, Int.reduceNe, eq_true i0]
      rw [iI_le (by omega) (by omega) (by omega) (by omega)]
      unfold mgN mgL at k
      have skip : mgB m g = false → wp_X12_merge_176 D post (wp_X12_merge_9 D post n) (xS S x A m) x (iI e) (iI g) := fun q => by
        simp (discharger := omega) only [nlit, iI_lit, iI_add, iI_sub, iI_mul, iI_neg, bI_z, bI_o, i10, i01, eq_self, bI_nar, nar_0, nar_1, bI_t, bI_f, Option.some.injEq, exists_eq_left', true_and, and_true, forall_eq, not_true_eq_false, not_false_eq_true, forall_const, false_implies, true_implies, Classical.not_not, if_true, if_false, Int.reduceEq, Int.reduceLT, Int.reduceLE, Int.reduceGT, Int.reduceGE, Int.reduceAdd, Int.reduceSub, Int.reduceMul, Int.reduceNeg, Int.reduceNe, Bool.true_and, Bool.and_true, Bool.false_and, Bool.and_false, BEq.rfl, Bool.true_eq_false, Bool.false_eq_true, wp_X12_merge_176]
        refine ih d m (g + 1) e (by omega) (by omega) (by omega) hM ?_
        have e1 : mgS m g = m := by unfold mgS; rw [q]; rfl
        rw [q, e1] at k
        simpa using k
      by_cases c40 : 40 ≤ m 30 0
      · simp (discharger := omega) only [nlit, iI_lit, iI_add, iI_sub, iI_mul, iI_neg, bI_z, bI_o, i10, i01, eq_self, bI_nar, nar_0, nar_1, bI_t, bI_f, Option.some.injEq, exists_eq_left', true_and, and_true, forall_eq, not_true_eq_false, not_false_eq_true, forall_const, false_implies, true_implies, Classical.not_not, if_true, if_false, Int.reduceEq, Int.reduceLT, Int.reduceLE, Int.reduceGT, Int.reduceGE, Int.reduceAdd, Int.reduceSub, Int.reduceMul, Int.reduceNeg, Int.reduceNe, Bool.true_and, Bool.and_true, Bool.false_and, Bool.and_false, BEq.rfl, Bool.true_eq_false, Bool.false_eq_true, c40]
        exact skip (by unfold mgB; rw [decide_eq_false (by omega)]; rfl)
      · simp (discharger := omega) only [nlit, iI_lit, iI_add, iI_sub, iI_mul, iI_neg, bI_z, bI_o, i10, i01, eq_self, bI_nar, nar_0, nar_1, bI_t, bI_f, Option.some.injEq, exists_eq_left', true_and, and_true, forall_eq, not_true_eq_false, not_false_eq_true, forall_const, false_implies, true_implies, Classical.not_not, if_true, if_false, Int.reduceEq, Int.reduceLT, Int.reduceLE, Int.reduceGT, Int.reduceGE, Int.reduceAdd, Int.reduceSub, Int.reduceMul, Int.reduceNeg, Int.reduceNe, Bool.true_and, Bool.and_true, Bool.false_and, Bool.and_false, BEq.rfl, Bool.true_eq_false, Bool.false_eq_true, c40]
        refine q_isThere h hM.2.2.1 (b := 40 + g) (by omega) h30 hM.2.1 (fun q hq j a b => ?_) ?_
        · rcases hq with hq | hq
          · have := hM.2.2.2 0 q (by decide) (by decide) hq.1 hq.2 j a b
            unfold slotB at this
            rw [Int.mul_zero, Int.zero_add] at this
            exact this
          · have := hM.2.2.2 1 g (by decide) (by decide) h0 (by omega) j a b
            rw [sl] at this
            rw [hq]; exact this
        · have it : vp_in (iI (m 30 0)) 80 := iI_in (by omega) (by omega) (by omega)
          have jf : vp_in (iI (40 + g)) 80 := iI_in (by omega) (by omega) (by omega)
          try simp (discharger := omega) only [nlit, iI_lit, iI_add, iI_sub, iI_mul, iI_neg, bI_z, bI_o, i10, i01, eq_self, bI_nar, nar_0, nar_1, bI_t, bI_f, Option.some.injEq, exists_eq_left', true_and, and_true, forall_eq, not_true_eq_false, not_false_eq_true, forall_const, false_implies, true_implies, Classical.not_not, if_true, if_false, Int.reduceEq, Int.reduceLT, Int.reduceLE, Int.reduceGT, Int.reduceGE, Int.reduceAdd, Int.reduceSub, Int.reduceMul, Int.reduceNeg, Int.reduceNe, Bool.true_and, Bool.and_true, Bool.false_and, Bool.and_false, BEq.rfl, Bool.true_eq_false, Bool.false_eq_true]
          cases ct : thereB m (40 + g)
          · have cb : mgB m g = true := by unfold mgB; rw [ct, decide_eq_true (by omega)]; rfl
            try simp (discharger := omega) only [nlit, iI_lit, iI_add, iI_sub, iI_mul, iI_neg, bI_z, bI_o, i10, i01, eq_self, bI_nar, nar_0, nar_1, bI_t, bI_f, Option.some.injEq, exists_eq_left', true_and, and_true, forall_eq, not_true_eq_false, not_false_eq_true, forall_const, false_implies, true_implies, Classical.not_not, if_true, if_false, Int.reduceEq, Int.reduceLT, Int.reduceLE, Int.reduceGT, Int.reduceGE, Int.reduceAdd, Int.reduceSub, Int.reduceMul, Int.reduceNeg, Int.reduceNe, Bool.true_and, Bool.and_true, Bool.false_and, Bool.and_false, BEq.rfl, Bool.true_eq_false, Bool.false_eq_true]
            simp (discharger := first | decide | omega) only [x_own h, x_kd h, x_r h, x_m h, x_l h, x_k h, x_n h, x_i0, x_i h, x_u0 h, x_u h, xLen, xKd, nlit, iI_lit, iI_add, iI_sub, iI_mul, iI_neg, bI_z, bI_o, i10, i01, eq_self, bI_nar, nar_0, nar_1, up_at, up_f, Option.some.injEq, exists_eq_left', true_and, and_true, forall_eq, not_true_eq_false, not_false_eq_true, forall_const, false_implies, true_implies, Classical.not_not, if_true, if_false, Int.reduceEq, Int.reduceLT, Int.reduceLE, Int.reduceGT, Int.reduceGE, Int.reduceAdd, Int.reduceSub, Int.reduceMul, Int.reduceNeg, Int.reduceNe]
            refine q_copies (f := 31) (g := 31) h (by decide) (by decide) (by omega) (by omega) (by omega) (by simp only [xLen]; omega) (by simp only [xLen]; omega) (fun _ => by omega) ?_
            simp (discharger := first | decide | omega) only [x_own h, x_kd h, x_r h, x_m h, x_l h, x_k h, x_n h, x_i0, x_i h, x_u0 h, x_u h, xLen, xKd, nlit, iI_lit, iI_add, iI_sub, iI_mul, iI_neg, bI_z, bI_o, i10, i01, eq_self, bI_nar, nar_0, nar_1, up_at, up_f, Option.some.injEq, exists_eq_left', true_and, and_true, forall_eq, not_true_eq_false, not_false_eq_true, forall_const, false_implies, true_implies, Classical.not_not, if_true, if_false, Int.reduceEq, Int.reduceLT, Int.reduceLE, Int.reduceGT, Int.reduceGE, Int.reduceAdd, Int.reduceSub, Int.reduceMul, Int.reduceNeg, Int.reduceNe]
            refine q_copies (f := 32) (g := 32) h (by decide) (by decide) (by omega) (by omega) (by omega) (by simp only [xLen]; omega) (by simp only [xLen]; omega) (fun _ => by omega) ?_
            simp (discharger := first | decide | omega) only [x_own h, x_kd h, x_r h, x_m h, x_l h, x_k h, x_n h, x_i0, x_i h, x_u0 h, x_u h, xLen, xKd, nlit, iI_lit, iI_add, iI_sub, iI_mul, iI_neg, bI_z, bI_o, i10, i01, eq_self, bI_nar, nar_0, nar_1, up_at, up_f, Option.some.injEq, exists_eq_left', true_and, and_true, forall_eq, not_true_eq_false, not_false_eq_true, forall_const, false_implies, true_implies, Classical.not_not, if_true, if_false, Int.reduceEq, Int.reduceLT, Int.reduceLE, Int.reduceGT, Int.reduceGE, Int.reduceAdd, Int.reduceSub, Int.reduceMul, Int.reduceNeg, Int.reduceNe, eq_true it, eq_true jf, eq_true i0, wp_X12_merge_176]
            have ec : ∀ r j, (r == 31) = false → (r == 32) = false → cpy (cpy m 31 (5427 * (40 + g)) 31 (5427 * m 30 0) 5427) 32 (80 * (40 + g)) 32 (80 * m 30 0) 80 r j = m r j := fun r j a b => by rw [cpy_ne _ b, cpy_ne _ a]
            rw [ec 33 _ rfl rfl, ec 34 _ rfl rfl, ec 35 _ rfl rfl, ec 36 _ rfl rfl, ec 30 _ rfl rfl]
            have es : mgS m g = mgC m g := by unfold mgS; rw [cb]; rfl
            rw [cb, es] at k
            have hM1 := hM.cp ⟨h0, by omega⟩ (by omega)
            have e1 := mgC_30 m g 1
            rw [if_neg (by decide)] at e1
            change wp_X12_merge_9 D post n (xS S x A (mgC m g)) x (iI (e + 1)) (iI (g + 1))
            refine ih d (mgC m g) (g + 1) (e + 1) (by omega) (by rw [e1]; omega) (by omega) hM1 ?_
            rw [Int.add_assoc]
            simpa using k
          · try simp (discharger := omega) only [nlit, iI_lit, iI_add, iI_sub, iI_mul, iI_neg, bI_z, bI_o, i10, i01, eq_self, bI_nar, nar_0, nar_1, bI_t, bI_f, Option.some.injEq, exists_eq_left', true_and, and_true, forall_eq, not_true_eq_false, not_false_eq_true, forall_const, false_implies, true_implies, Classical.not_not, if_true, if_false, Int.reduceEq, Int.reduceLT, Int.reduceLE, Int.reduceGT, Int.reduceGE, Int.reduceAdd, Int.reduceSub, Int.reduceMul, Int.reduceNeg, Int.reduceNe, Bool.true_and, Bool.and_true, Bool.false_and, Bool.and_false, BEq.rfl, Bool.true_eq_false, Bool.false_eq_true]
            exact skip (by unfold mgB; rw [ct]; simp)
theorem q_merge (h : XC D S x A) (hM : MG m)
    (k : post (iI (mgN (up m 50 0 0) 0 (m 30 1).toNat)) (xS S x A (up (mgL (up m 50 0 0) 0 (m 30 1).toNat) 30 1 0))) : wp_X12_merge D post (xS S x A m) x := by
  have h31 := hM.1 1 (by decide) (by decide)
  simp (discharger := first | decide | omega) only [x_own h, x_kd h, x_r h, x_m h, x_l h, x_k h, x_n h, x_i0, x_i h, x_u0 h, x_u h, xLen, xKd, nlit, iI_lit, iI_add, iI_sub, iI_mul, iI_neg, bI_z, bI_o, i10, i01, eq_self, bI_nar, nar_0, nar_1, up_at, up_f, Option.some.injEq, exists_eq_left', true_and, and_true, forall_eq, not_true_eq_false, not_false_eq_true, forall_const, false_implies, true_implies, Classical.not_not, if_true, if_false, Int.reduceEq, Int.reduceLT, Int.reduceLE, Int.reduceGT, Int.reduceGE, Int.reduceAdd, Int.reduceSub, Int.reduceMul, Int.reduceNeg, Int.reduceNe, wp_X12_merge, wp_X12_merge_0]
  refine ⟨41, q_merge_9 h 41 (m 30 1).toNat (up m 50 0 0) 0 0 (by omega) (by rw [up_f _ _ _ _ rfl]; omega) (by decide) ?_ ?_⟩
  · refine ⟨fun s a b => ?_, fun k a b => ?_, fun j a b => ?_, fun s q a b c d j e f => ?_⟩
    · rw [up_f _ _ _ _ rfl]; exact hM.1 s a b
    · rw [up_f _ _ _ _ rfl]; exact hM.2.1 k a b
    · rw [up_f _ _ _ _ rfl]; exact hM.2.2.1 j a b
    · rw [up_f _ _ _ _ rfl] at d
      rw [vec_row (up_r m _ _ rfl)]
      exact hM.2.2.2 s q a b c d j e f
  · rw [Int.zero_add]; exact k
end
