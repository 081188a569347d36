section
variable {D : wD} {S : wS} {x : Nat} {A : Nat → Nat} {m : xM} {F R : Int} {post : Int32 → wS → Prop}
theorem q_pasR_31 (h : XC D S x A) (hB : XB m F R) {v : Int → Int} (hlv : lv m 0 = v) (hv : okV F R v) (h66 : v 66 ≠ -1) {its u : Int} (hi : its = 1 - v 64) (hu : u = upB its)
    (k : post (iI (bI (pasB F R v))) (xS S x A m)) : wp_X12_isPassingRight_31 D post (xS S x A m) x (iI 0) (iI (v 66)) (iI its) (iI u) := by
  have h4 := hB.f4; have h8 := hB.f8; have r4 := hB.r4; have r8 := hB.r8
  have hn := hB.n
  have hs := hv.2.1
  have hp := hv.2.2.2
  have e1 : m 50 1 = F := hB.f
  have e2 : m 50 2 = R := hB.r
  have hits : its = 0 ∨ its = 1 := by omega
  have hur : (u = 1 ∧ its = 1) ∨ (u = -1 ∧ its = 0) := by rw [hu]; unfold upB; rcases hits with rfl | rfl <;> simp
  have hfr := firstB_r (its := its) r4 r8
  unfold pasB at k
  rw [decide_eq_false h66, Bool.false_or, ← hi, ← hu] at k
  have k86 : (!decide (R < 6) && decide (v 66 / F = firstB R its + 2 * u) && decide (v (v 66) = 0) && decide (v (v 66 - u * F) = 0) && decide (v (v 66 + u * F) = pieceOfB 6 its) && besideB F v (v 66 + u * F) (pieceOfB 6 (1 - its))) = false → post (iI 0) (xS S x A m) := fun e => by rw [e] at k; exact k
  unfold wp_X12_isPassingRight_31
  simp (discharger := first | decide | omega) only [x_own h, x_kd h, x_r h, x_m h, x_l h, x_k h, x_n h, x_i0, x_i h, x_u0 h, x_u h, xLen, xKd, nlit, iI_lit, iI_add, iI_sub, iI_mul, iI_neg, bI_z, bI_o, i10, i01, eq_self, bI_nar, nar_0, nar_1, up_at, up_f, Option.some.injEq, exists_eq_left', true_and, and_true, forall_eq, not_true_eq_false, not_false_eq_true, forall_const, false_implies, true_implies, Classical.not_not, if_true, if_false, Int.reduceEq, Int.reduceLT, Int.reduceLE, Int.reduceGT, Int.reduceGE, Int.reduceAdd, Int.reduceSub, Int.reduceMul, Int.reduceNeg, Int.reduceNe]
  rw [e2]
  simp (discharger := omega) only [nlit, iI_lit, iI_add, iI_sub, iI_mul, iI_neg, bI_z, bI_o, i10, i01, eq_self, bI_nar, nar_0, nar_1, bI_t, bI_f, Option.some.injEq, exists_eq_left', true_and, and_true, forall_eq, not_true_eq_false, not_false_eq_true, forall_const, false_implies, true_implies, Classical.not_not, if_true, if_false, Int.reduceEq, Int.reduceLT, Int.reduceLE, Int.reduceGT, Int.reduceGE, Int.reduceAdd, Int.reduceSub, Int.reduceMul, Int.reduceNeg, Int.reduceNe, Bool.true_and, Bool.and_true, Bool.false_and, Bool.and_false, BEq.rfl, Bool.true_eq_false, Bool.false_eq_true, iI_lt]
  by_cases c1 : R < 6
  · simp (discharger := omega) only [nlit, iI_lit, iI_add, iI_sub, iI_mul, iI_neg, bI_z, bI_o, i10, i01, eq_self, bI_nar, nar_0, nar_1, bI_t, bI_f, Option.some.injEq, exists_eq_left', true_and, and_true, forall_eq, not_true_eq_false, not_false_eq_true, forall_const, false_implies, true_implies, Classical.not_not, if_true, if_false, Int.reduceEq, Int.reduceLT, Int.reduceLE, Int.reduceGT, Int.reduceGE, Int.reduceAdd, Int.reduceSub, Int.reduceMul, Int.reduceNeg, Int.reduceNe, Bool.true_and, Bool.and_true, Bool.false_and, Bool.and_false, BEq.rfl, Bool.true_eq_false, Bool.false_eq_true, c1, wp_X12_isPassingRight_86]
    exact k86 (by simp [c1])
  · simp (discharger := omega) only [nlit, iI_lit, iI_add, iI_sub, iI_mul, iI_neg, bI_z, bI_o, i10, i01, eq_self, bI_nar, nar_0, nar_1, bI_t, bI_f, Option.some.injEq, exists_eq_left', true_and, and_true, forall_eq, not_true_eq_false, not_false_eq_true, forall_const, false_implies, true_implies, Classical.not_not, if_true, if_false, Int.reduceEq, Int.reduceLT, Int.reduceLE, Int.reduceGT, Int.reduceGE, Int.reduceAdd, Int.reduceSub, Int.reduceMul, Int.reduceNeg, Int.reduceNe, Bool.true_and, Bool.and_true, Bool.false_and, Bool.and_false, BEq.rfl, Bool.true_eq_false, Bool.false_eq_true, c1]
    rw [q_rankOf hB (by omega)]
    try simp (discharger := omega) only [nlit, iI_lit, iI_add, iI_sub, iI_mul, iI_neg, bI_z, bI_o, i10, i01, eq_self, bI_nar, nar_0, nar_1, bI_t, bI_f, Option.some.injEq, exists_eq_left', true_and, and_true, forall_eq, not_true_eq_false, not_false_eq_true, forall_const, false_implies, true_implies, Classical.not_not, if_true, if_false, Int.reduceEq, Int.reduceLT, Int.reduceLE, Int.reduceGT, Int.reduceGE, Int.reduceAdd, Int.reduceSub, Int.reduceMul, Int.reduceNeg, Int.reduceNe, Bool.true_and, Bool.and_true, Bool.false_and, Bool.and_false, BEq.rfl, Bool.true_eq_false, Bool.false_eq_true]
    rw [q_firstRank hB (by omega)]
    have hrk : 0 ≤ v 66 / F ∧ v 66 / F < 64 := by
      rcases (show F = 4 ∨ F = 5 ∨ F = 6 ∨ F = 7 ∨ F = 8 by omega) with rfl | rfl | rfl | rfl | rfl <;> omega
    try simp (discharger := omega) only [nlit, iI_lit, iI_add, iI_sub, iI_mul, iI_neg, bI_z, bI_o, i10, i01, eq_self, bI_nar, nar_0, nar_1, bI_t, bI_f, Option.some.injEq, exists_eq_left', true_and, and_true, forall_eq, not_true_eq_false, not_false_eq_true, forall_const, false_implies, true_implies, Classical.not_not, if_true, if_false, Int.reduceEq, Int.reduceLT, Int.reduceLE, Int.reduceGT, Int.reduceGE, Int.reduceAdd, Int.reduceSub, Int.reduceMul, Int.reduceNeg, Int.reduceNe, Bool.true_and, Bool.and_true, Bool.false_and, Bool.and_false, BEq.rfl, Bool.true_eq_false, Bool.false_eq_true]
    rw [iI_eq (by omega) (by omega) (by omega) (by omega)]
    by_cases c2 : v 66 / F = firstB R its + 2 * u
    · simp (discharger := omega) only [nlit, iI_lit, iI_add, iI_sub, iI_mul, iI_neg, bI_z, bI_o, i10, i01, eq_self, bI_nar, nar_0, nar_1, bI_t, bI_f, Option.some.injEq, exists_eq_left', true_and, and_true, forall_eq, not_true_eq_false, not_false_eq_true, forall_const, false_implies, true_implies, Classical.not_not, if_true, if_false, Int.reduceEq, Int.reduceLT, Int.reduceLE, Int.reduceGT, Int.reduceGE, Int.reduceAdd, Int.reduceSub, Int.reduceMul, Int.reduceNeg, Int.reduceNe, Bool.true_and, Bool.and_true, Bool.false_and, Bool.and_false, BEq.rfl, Bool.true_eq_false, Bool.false_eq_true, c2]
      have hq : 0 ≤ v 66 - F ∧ v 66 + F < 64 ∧ v 66 + F < F * R := by
        rcases hur with ⟨rfl, e⟩ | ⟨rfl, e⟩ <;> simp only [e, firstB] at c2 <;> rcases (show F = 4 ∨ F = 5 ∨ F = 6 ∨ F = 7 ∨ F = 8 by omega) with rfl | rfl | rfl | rfl | rfl <;> simp at c2 <;> omega
      have hm : -F ≤ u * F ∧ u * F ≤ F := by rcases hur with ⟨rfl, e⟩ | ⟨rfl, e⟩ <;> omega
      have hv1 := hv.1 (v 66) (by omega) (by omega)
      have hv2 := hv.1 (v 66 - u * F) (by omega) (by omega)
      have hv3 := hv.1 (v 66 + u * F) (by omega) (by omega)
      rw [q_on h (by decide) (by omega) (by omega), hlv]
      simp (discharger := omega) only [nlit, iI_lit, iI_add, iI_sub, iI_mul, iI_neg, bI_z, bI_o, i10, i01, eq_self, bI_nar, nar_0, nar_1, bI_t, bI_f, Option.some.injEq, exists_eq_left', true_and, and_true, forall_eq, not_true_eq_false, not_false_eq_true, forall_const, false_implies, true_implies, Classical.not_not, if_true, if_false, Int.reduceEq, Int.reduceLT, Int.reduceLE, Int.reduceGT, Int.reduceGE, Int.reduceAdd, Int.reduceSub, Int.reduceMul, Int.reduceNeg, Int.reduceNe, Bool.true_and, Bool.and_true, Bool.false_and, Bool.and_false, BEq.rfl, Bool.true_eq_false, Bool.false_eq_true, iI_eq]
      by_cases c3 : v (v 66) = 0
      · simp (discharger := omega) only [nlit, iI_lit, iI_add, iI_sub, iI_mul, iI_neg, bI_z, bI_o, i10, i01, eq_self, bI_nar, nar_0, nar_1, bI_t, bI_f, Option.some.injEq, exists_eq_left', true_and, and_true, forall_eq, not_true_eq_false, not_false_eq_true, forall_const, false_implies, true_implies, Classical.not_not, if_true, if_false, Int.reduceEq, Int.reduceLT, Int.reduceLE, Int.reduceGT, Int.reduceGE, Int.reduceAdd, Int.reduceSub, Int.reduceMul, Int.reduceNeg, Int.reduceNe, Bool.true_and, Bool.and_true, Bool.false_and, Bool.and_false, BEq.rfl, Bool.true_eq_false, Bool.false_eq_true, c3]
        rw [x_i0, show m 50 ((1 : Nat) : Int) = F from e1]
        try simp (discharger := omega) only [nlit, iI_lit, iI_add, iI_sub, iI_mul, iI_neg, bI_z, bI_o, i10, i01, eq_self, bI_nar, nar_0, nar_1, bI_t, bI_f, Option.some.injEq, exists_eq_left', true_and, and_true, forall_eq, not_true_eq_false, not_false_eq_true, forall_const, false_implies, true_implies, Classical.not_not, if_true, if_false, Int.reduceEq, Int.reduceLT, Int.reduceLE, Int.reduceGT, Int.reduceGE, Int.reduceAdd, Int.reduceSub, Int.reduceMul, Int.reduceNeg, Int.reduceNe, Bool.true_and, Bool.and_true, Bool.false_and, Bool.and_false, BEq.rfl, Bool.true_eq_false, Bool.false_eq_true]
        rw [q_on h (by decide) (by omega) (by omega), hlv]
        simp (discharger := omega) only [nlit, iI_lit, iI_add, iI_sub, iI_mul, iI_neg, bI_z, bI_o, i10, i01, eq_self, bI_nar, nar_0, nar_1, bI_t, bI_f, Option.some.injEq, exists_eq_left', true_and, and_true, forall_eq, not_true_eq_false, not_false_eq_true, forall_const, false_implies, true_implies, Classical.not_not, if_true, if_false, Int.reduceEq, Int.reduceLT, Int.reduceLE, Int.reduceGT, Int.reduceGE, Int.reduceAdd, Int.reduceSub, Int.reduceMul, Int.reduceNeg, Int.reduceNe, Bool.true_and, Bool.and_true, Bool.false_and, Bool.and_false, BEq.rfl, Bool.true_eq_false, Bool.false_eq_true, iI_eq]
        by_cases c4 : v (v 66 - u * F) = 0
        · simp (discharger := omega) only [nlit, iI_lit, iI_add, iI_sub, iI_mul, iI_neg, bI_z, bI_o, i10, i01, eq_self, bI_nar, nar_0, nar_1, bI_t, bI_f, Option.some.injEq, exists_eq_left', true_and, and_true, forall_eq, not_true_eq_false, not_false_eq_true, forall_const, false_implies, true_implies, Classical.not_not, if_true, if_false, Int.reduceEq, Int.reduceLT, Int.reduceLE, Int.reduceGT, Int.reduceGE, Int.reduceAdd, Int.reduceSub, Int.reduceMul, Int.reduceNeg, Int.reduceNe, Bool.true_and, Bool.and_true, Bool.false_and, Bool.and_false, BEq.rfl, Bool.true_eq_false, Bool.false_eq_true, c4]
          rw [x_i0, show m 50 ((1 : Nat) : Int) = F from e1]
          try simp (discharger := omega) only [nlit, iI_lit, iI_add, iI_sub, iI_mul, iI_neg, bI_z, bI_o, i10, i01, eq_self, bI_nar, nar_0, nar_1, bI_t, bI_f, Option.some.injEq, exists_eq_left', true_and, and_true, forall_eq, not_true_eq_false, not_false_eq_true, forall_const, false_implies, true_implies, Classical.not_not, if_true, if_false, Int.reduceEq, Int.reduceLT, Int.reduceLE, Int.reduceGT, Int.reduceGE, Int.reduceAdd, Int.reduceSub, Int.reduceMul, Int.reduceNeg, Int.reduceNe, Bool.true_and, Bool.and_true, Bool.false_and, Bool.and_false, BEq.rfl, Bool.true_eq_false, Bool.false_eq_true]
          rw [q_on h (by decide) (by omega) (by omega), hlv]
          try simp (discharger := omega) only [nlit, iI_lit, iI_add, iI_sub, iI_mul, iI_neg, bI_z, bI_o, i10, i01, eq_self, bI_nar, nar_0, nar_1, bI_t, bI_f, Option.some.injEq, exists_eq_left', true_and, and_true, forall_eq, not_true_eq_false, not_false_eq_true, forall_const, false_implies, true_implies, Classical.not_not, if_true, if_false, Int.reduceEq, Int.reduceLT, Int.reduceLE, Int.reduceGT, Int.reduceGE, Int.reduceAdd, Int.reduceSub, Int.reduceMul, Int.reduceNeg, Int.reduceNe, Bool.true_and, Bool.and_true, Bool.false_and, Bool.and_false, BEq.rfl, Bool.true_eq_false, Bool.false_eq_true]
          rw [q_pieceOf (by decide) (by omega)]
          have hp6 := pieceOfB_r (p := 6) (s := its) (by decide)
          have hp7 := pieceOfB_r (p := 6) (s := 1 - its) (by decide)
          simp (discharger := omega) only [nlit, iI_lit, iI_add, iI_sub, iI_mul, iI_neg, bI_z, bI_o, i10, i01, eq_self, bI_nar, nar_0, nar_1, bI_t, bI_f, Option.some.injEq, exists_eq_left', true_and, and_true, forall_eq, not_true_eq_false, not_false_eq_true, forall_const, false_implies, true_implies, Classical.not_not, if_true, if_false, Int.reduceEq, Int.reduceLT, Int.reduceLE, Int.reduceGT, Int.reduceGE, Int.reduceAdd, Int.reduceSub, Int.reduceMul, Int.reduceNeg, Int.reduceNe, Bool.true_and, Bool.and_true, Bool.false_and, Bool.and_false, BEq.rfl, Bool.true_eq_false, Bool.false_eq_true, iI_eq]
          by_cases c5 : v (v 66 + u * F) = pieceOfB 6 its
          · simp (discharger := omega) only [nlit, iI_lit, iI_add, iI_sub, iI_mul, iI_neg, bI_z, bI_o, i10, i01, eq_self, bI_nar, nar_0, nar_1, bI_t, bI_f, Option.some.injEq, exists_eq_left', true_and, and_true, forall_eq, not_true_eq_false, not_false_eq_true, forall_const, false_implies, true_implies, Classical.not_not, if_true, if_false, Int.reduceEq, Int.reduceLT, Int.reduceLE, Int.reduceGT, Int.reduceGE, Int.reduceAdd, Int.reduceSub, Int.reduceMul, Int.reduceNeg, Int.reduceNe, Bool.true_and, Bool.and_true, Bool.false_and, Bool.and_false, BEq.rfl, Bool.true_eq_false, Bool.false_eq_true, c5]
            rw [q_pieceOf (by decide) (by omega)]
            try simp (discharger := omega) only [nlit, iI_lit, iI_add, iI_sub, iI_mul, iI_neg, bI_z, bI_o, i10, i01, eq_self, bI_nar, nar_0, nar_1, bI_t, bI_f, Option.some.injEq, exists_eq_left', true_and, and_true, forall_eq, not_true_eq_false, not_false_eq_true, forall_const, false_implies, true_implies, Classical.not_not, if_true, if_false, Int.reduceEq, Int.reduceLT, Int.reduceLE, Int.reduceGT, Int.reduceGE, Int.reduceAdd, Int.reduceSub, Int.reduceMul, Int.reduceNeg, Int.reduceNe, Bool.true_and, Bool.and_true, Bool.false_and, Bool.and_false, BEq.rfl, Bool.true_eq_false, Bool.false_eq_true]
            refine q_isBeside h hB (by decide) (by rw [hlv]; exact hv) (by omega) hp7 ?_
            rw [hlv]
            cases c6 : besideB F v (v 66 + u * F) (pieceOfB 6 (1 - its))
            · simp (discharger := omega) only [nlit, iI_lit, iI_add, iI_sub, iI_mul, iI_neg, bI_z, bI_o, i10, i01, eq_self, bI_nar, nar_0, nar_1, bI_t, bI_f, Option.some.injEq, exists_eq_left', true_and, and_true, forall_eq, not_true_eq_false, not_false_eq_true, forall_const, false_implies, true_implies, Classical.not_not, if_true, if_false, Int.reduceEq, Int.reduceLT, Int.reduceLE, Int.reduceGT, Int.reduceGE, Int.reduceAdd, Int.reduceSub, Int.reduceMul, Int.reduceNeg, Int.reduceNe, Bool.true_and, Bool.and_true, Bool.false_and, Bool.and_false, BEq.rfl, Bool.true_eq_false, Bool.false_eq_true, wp_X12_isPassingRight_137, wp_X12_isPassingRight_138]
              exact k86 (by simp [c6])
            · simp (discharger := omega) only [nlit, iI_lit, iI_add, iI_sub, iI_mul, iI_neg, bI_z, bI_o, i10, i01, eq_self, bI_nar, nar_0, nar_1, bI_t, bI_f, Option.some.injEq, exists_eq_left', true_and, and_true, forall_eq, not_true_eq_false, not_false_eq_true, forall_const, false_implies, true_implies, Classical.not_not, if_true, if_false, Int.reduceEq, Int.reduceLT, Int.reduceLE, Int.reduceGT, Int.reduceGE, Int.reduceAdd, Int.reduceSub, Int.reduceMul, Int.reduceNeg, Int.reduceNe, Bool.true_and, Bool.and_true, Bool.false_and, Bool.and_false, BEq.rfl, Bool.true_eq_false, Bool.false_eq_true, wp_X12_isPassingRight_138]
              simpa [bI_t, c1, c2, c3, c4, c5, c6] using k
          · simp (discharger := omega) only [nlit, iI_lit, iI_add, iI_sub, iI_mul, iI_neg, bI_z, bI_o, i10, i01, eq_self, bI_nar, nar_0, nar_1, bI_t, bI_f, Option.some.injEq, exists_eq_left', true_and, and_true, forall_eq, not_true_eq_false, not_false_eq_true, forall_const, false_implies, true_implies, Classical.not_not, if_true, if_false, Int.reduceEq, Int.reduceLT, Int.reduceLE, Int.reduceGT, Int.reduceGE, Int.reduceAdd, Int.reduceSub, Int.reduceMul, Int.reduceNeg, Int.reduceNe, Bool.true_and, Bool.and_true, Bool.false_and, Bool.and_false, BEq.rfl, Bool.true_eq_false, Bool.false_eq_true, c5, wp_X12_isPassingRight_137, wp_X12_isPassingRight_138]
            exact k86 (by simp [c5])
        · simp (discharger := omega) only [nlit, iI_lit, iI_add, iI_sub, iI_mul, iI_neg, bI_z, bI_o, i10, i01, eq_self, bI_nar, nar_0, nar_1, bI_t, bI_f, Option.some.injEq, exists_eq_left', true_and, and_true, forall_eq, not_true_eq_false, not_false_eq_true, forall_const, false_implies, true_implies, Classical.not_not, if_true, if_false, Int.reduceEq, Int.reduceLT, Int.reduceLE, Int.reduceGT, Int.reduceGE, Int.reduceAdd, Int.reduceSub, Int.reduceMul, Int.reduceNeg, Int.reduceNe, Bool.true_and, Bool.and_true, Bool.false_and, Bool.and_false, BEq.rfl, Bool.true_eq_false, Bool.false_eq_true, c4, wp_X12_isPassingRight_86]
          exact k86 (by simp [c4])
      · simp (discharger := omega) only [nlit, iI_lit, iI_add, iI_sub, iI_mul, iI_neg, bI_z, bI_o, i10, i01, eq_self, bI_nar, nar_0, nar_1, bI_t, bI_f, Option.some.injEq, exists_eq_left', true_and, and_true, forall_eq, not_true_eq_false, not_false_eq_true, forall_const, false_implies, true_implies, Classical.not_not, if_true, if_false, Int.reduceEq, Int.reduceLT, Int.reduceLE, Int.reduceGT, Int.reduceGE, Int.reduceAdd, Int.reduceSub, Int.reduceMul, Int.reduceNeg, Int.reduceNe, Bool.true_and, Bool.and_true, Bool.false_and, Bool.and_false, BEq.rfl, Bool.true_eq_false, Bool.false_eq_true, c3, wp_X12_isPassingRight_86]
        exact k86 (by simp [c3])
    · simp (discharger := omega) only [nlit, iI_lit, iI_add, iI_sub, iI_mul, iI_neg, bI_z, bI_o, i10, i01, eq_self, bI_nar, nar_0, nar_1, bI_t, bI_f, Option.some.injEq, exists_eq_left', true_and, and_true, forall_eq, not_true_eq_false, not_false_eq_true, forall_const, false_implies, true_implies, Classical.not_not, if_true, if_false, Int.reduceEq, Int.reduceLT, Int.reduceLE, Int.reduceGT, Int.reduceGE, Int.reduceAdd, Int.reduceSub, Int.reduceMul, Int.reduceNeg, Int.reduceNe, Bool.true_and, Bool.and_true, Bool.false_and, Bool.and_false, BEq.rfl, Bool.true_eq_false, Bool.false_eq_true, c2, wp_X12_isPassingRight_86]
      exact k86 (by simp [c2])
theorem q_isPassingRight (h : XC D S x A) (hB : XB m F R) {v : Int → Int} (hlv : lv m 0 = v) (hv : okV F R v)
    (k : post (iI (bI (pasB F R v))) (xS S x A m)) : wp_X12_isPassingRight D post (xS S x A m) x (iI 0) := by
  have hn := hB.n
  have hs := hv.2.1
  have hp := hv.2.2.2
  unfold wp_X12_isPassingRight wp_X12_isPassingRight_0
  rw [q_passing h (by decide), hlv]
  simp (discharger := omega) only [nlit, iI_lit, iI_add, iI_sub, iI_mul, iI_neg, bI_z, bI_o, i10, i01, eq_self, bI_nar, nar_0, nar_1, bI_t, bI_f, Option.some.injEq, exists_eq_left', true_and, and_true, forall_eq, not_true_eq_false, not_false_eq_true, forall_const, false_implies, true_implies, Classical.not_not, if_true, if_false, Int.reduceEq, Int.reduceLT, Int.reduceLE, Int.reduceGT, Int.reduceGE, Int.reduceAdd, Int.reduceSub, Int.reduceMul, Int.reduceNeg, Int.reduceNe, Bool.true_and, Bool.and_true, Bool.false_and, Bool.and_false, BEq.rfl, Bool.true_eq_false, Bool.false_eq_true, iI_eq]
  by_cases c : v 66 = -1
  · simp (discharger := omega) only [nlit, iI_lit, iI_add, iI_sub, iI_mul, iI_neg, bI_z, bI_o, i10, i01, eq_self, bI_nar, nar_0, nar_1, bI_t, bI_f, Option.some.injEq, exists_eq_left', true_and, and_true, forall_eq, not_true_eq_false, not_false_eq_true, forall_const, false_implies, true_implies, Classical.not_not, if_true, if_false, Int.reduceEq, Int.reduceLT, Int.reduceLE, Int.reduceGT, Int.reduceGE, Int.reduceAdd, Int.reduceSub, Int.reduceMul, Int.reduceNeg, Int.reduceNe, Bool.true_and, Bool.and_true, Bool.false_and, Bool.and_false, BEq.rfl, Bool.true_eq_false, Bool.false_eq_true, c]
    unfold pasB at k
    rw [decide_eq_true c, Bool.true_or] at k
    exact k
  · simp (discharger := omega) only [nlit, iI_lit, iI_add, iI_sub, iI_mul, iI_neg, bI_z, bI_o, i10, i01, eq_self, bI_nar, nar_0, nar_1, bI_t, bI_f, Option.some.injEq, exists_eq_left', true_and, and_true, forall_eq, not_true_eq_false, not_false_eq_true, forall_const, false_implies, true_implies, Classical.not_not, if_true, if_false, Int.reduceEq, Int.reduceLT, Int.reduceLE, Int.reduceGT, Int.reduceGE, Int.reduceAdd, Int.reduceSub, Int.reduceMul, Int.reduceNeg, Int.reduceNe, Bool.true_and, Bool.and_true, Bool.false_and, Bool.and_false, BEq.rfl, Bool.true_eq_false, Bool.false_eq_true, c]
    rw [q_side h (by decide), hlv]
    simp (discharger := omega) only [nlit, iI_lit, iI_add, iI_sub, iI_mul, iI_neg, bI_z, bI_o, i10, i01, eq_self, bI_nar, nar_0, nar_1, bI_t, bI_f, Option.some.injEq, exists_eq_left', true_and, and_true, forall_eq, not_true_eq_false, not_false_eq_true, forall_const, false_implies, true_implies, Classical.not_not, if_true, if_false, Int.reduceEq, Int.reduceLT, Int.reduceLE, Int.reduceGT, Int.reduceGE, Int.reduceAdd, Int.reduceSub, Int.reduceMul, Int.reduceNeg, Int.reduceNe, Bool.true_and, Bool.and_true, Bool.false_and, Bool.and_false, BEq.rfl, Bool.true_eq_false, Bool.false_eq_true, iI_eq]
    by_cases c1 : 1 - v 64 = 1
    · simp (discharger := omega) only [nlit, iI_lit, iI_add, iI_sub, iI_mul, iI_neg, bI_z, bI_o, i10, i01, eq_self, bI_nar, nar_0, nar_1, bI_t, bI_f, Option.some.injEq, exists_eq_left', true_and, and_true, forall_eq, not_true_eq_false, not_false_eq_true, forall_const, false_implies, true_implies, Classical.not_not, if_true, if_false, Int.reduceEq, Int.reduceLT, Int.reduceLE, Int.reduceGT, Int.reduceGE, Int.reduceAdd, Int.reduceSub, Int.reduceMul, Int.reduceNeg, Int.reduceNe, Bool.true_and, Bool.and_true, Bool.false_and, Bool.and_false, BEq.rfl, Bool.true_eq_false, Bool.false_eq_true, c1]
      have : iI 1 = iI (1 - v 64) := by rw [c1]
      refine q_pasR_31 h hB hlv hv c (its := 1) (by omega) (by decide) k
    · simp (discharger := omega) only [nlit, iI_lit, iI_add, iI_sub, iI_mul, iI_neg, bI_z, bI_o, i10, i01, eq_self, bI_nar, nar_0, nar_1, bI_t, bI_f, Option.some.injEq, exists_eq_left', true_and, and_true, forall_eq, not_true_eq_false, not_false_eq_true, forall_const, false_implies, true_implies, Classical.not_not, if_true, if_false, Int.reduceEq, Int.reduceLT, Int.reduceLE, Int.reduceGT, Int.reduceGE, Int.reduceAdd, Int.reduceSub, Int.reduceMul, Int.reduceNeg, Int.reduceNe, Bool.true_and, Bool.and_true, Bool.false_and, Bool.and_false, BEq.rfl, Bool.true_eq_false, Bool.false_eq_true, c1]
      exact q_pasR_31 h hB hlv hv c rfl (by unfold upB; rw [if_neg c1]) k
/-- what a text is as a paper -/
def rdP (F R : Int) (t : Int → Int) (len : Int) : Option (Int → Int) := match rdS F R t R.toNat 0 (fun _ => 0) with
  | none => none
  | some (b, u) => some (rdE F R t len b u)
def papB (F R : Int) (m : xM) : Option (Int → Int) := match rdP F R (txB m) (m 50 13) with
  | none => none
  | some u => if (asWr m (paperP F R u) && properB F R u && pasB F R u) = true then some u else none
def cntP (F R : Int) (w : Int → Int) : Int := sumL (fun k => if w k = 0 then 0 else 1) 0 (F * R).toNat
theorem q_rdP_161 {m : xM} (h : XC D S x A) (hB : XB m F R) {w : Int → Int} (hw : ∀ k, 0 ≤ k → k < 67 → m 8 k = w k) (hv : okV F R w) : ∀ (n d : Nat) (j e : Int), d < n → j + d = F * R → 0 ≤ j → 0 ≤ e ∧ e ≤ j →
    post (iI (e + sumL (fun k => if w k = 0 then 0 else 1) j d)) (xS S x A m) → wp_X12_readPaper_161 D post n (xS S x A m) x (iI e) (iI j) := by
  have hn := hB.n
  intro n
  induction n with
  | zero => intro d j e hd; omega
  | succ n ih =>
    intro d j e hd hj h0 he k
    unfold wp_X12_readPaper_161
    rw [q_squares hB]
    simp (discharger := omega) only [nlit, iI_lit, iI_add, iI_sub, iI_mul, iI_neg, bI_z, bI_o, i10, i01, eq_self, bI_nar, nar_0, nar_1, bI_t, bI_f, Option.some.injEq, exists_eq_left', true_and, and_true, forall_eq, not_true_eq_false, not_false_eq_true, forall_const, false_implies, true_implies, Classical.not_not, if_true, if_false, Int.reduceEq, Int.reduceLT, Int.reduceLE, Int.reduceGT, Int.reduceGE, Int.reduceAdd, Int.reduceSub, Int.reduceMul, Int.reduceNeg, Int.reduceNe, Bool.true_and, Bool.and_true, Bool.false_and, Bool.and_false, BEq.rfl, Bool.true_eq_false, Bool.false_eq_true, iI_le]
    cases d with
    | zero =>
      have c : F * R ≤ j := by omega
      simp (discharger := omega) only [nlit, iI_lit, iI_add, iI_sub, iI_mul, iI_neg, bI_z, bI_o, i10, i01, eq_self, bI_nar, nar_0, nar_1, bI_t, bI_f, Option.some.injEq, exists_eq_left', true_and, and_true, forall_eq, not_true_eq_false, not_false_eq_true, forall_const, false_implies, true_implies, Classical.not_not, if_true, if_false, Int.reduceEq, Int.reduceLT, Int.reduceLE, Int.reduceGT, Int.reduceGE, Int.reduceAdd, Int.reduceSub, Int.reduceMul, Int.reduceNeg, Int.reduceNe, Bool.true_and, Bool.and_true, Bool.false_and, Bool.and_false, BEq.rfl, Bool.true_eq_false, Bool.false_eq_true, c]
      unfold sumL at k
      rw [Int.add_zero] at k
      exact k
    | succ d =>
      have c : ¬ F * R ≤ j := by omega
      have i1 : vp_in (iI j) 5427 := iI_in (by omega) (by omega) (by omega)
      have hvj := hv.1 j h0 (by omega)
      simp (discharger := omega) only [nlit, iI_lit, iI_add, iI_sub, iI_mul, iI_neg, bI_z, bI_o, i10, i01, eq_self, bI_nar, nar_0, nar_1, bI_t, bI_f, Option.some.injEq, exists_eq_left', true_and, and_true, forall_eq, not_true_eq_false, not_false_eq_true, forall_const, false_implies, true_implies, Classical.not_not, if_true, if_false, Int.reduceEq, Int.reduceLT, Int.reduceLE, Int.reduceGT, Int.reduceGE, Int.reduceAdd, Int.reduceSub, Int.reduceMul, Int.reduceNeg, Int.reduceNe, Bool.true_and, Bool.and_true, Bool.false_and, Bool.and_false, BEq.rfl, Bool.true_eq_false, Bool.false_eq_true, c]
      simp (discharger := first | decide | omega) only [x_own h, x_kd h, x_r h, x_m h, x_l h, x_k h, x_n h, x_i0, x_i h, x_u0 h, x_u h, xLen, xKd, nlit, iI_lit, iI_add, iI_sub, iI_mul, iI_neg, bI_z, bI_o, i10, i01, eq_self, bI_nar, nar_0, nar_1, up_at, up_f, Option.some.injEq, exists_eq_left', true_and, and_true, forall_eq, not_true_eq_false, not_false_eq_true, forall_const, false_implies, true_implies, Classical.not_not, if_true, if_false, Int.reduceEq, Int.reduceLT, Int.reduceLE, Int.reduceGT, Int.reduceGE, Int.reduceAdd, Int.reduceSub, Int.reduceMul, Int.reduceNeg, Int.reduceNe, eq_true i1]
      rw [hw j h0 (by omega), iI_eq (by omega) (by omega) (by decide) (by decide)]
      unfold sumL at k
      by_cases z : w j = 0
      · rw [if_pos z] at k
        simp (discharger := omega) only [nlit, iI_lit, iI_add, iI_sub, iI_mul, iI_neg, bI_z, bI_o, i10, i01, eq_self, bI_nar, nar_0, nar_1, bI_t, bI_f, Option.some.injEq, exists_eq_left', true_and, and_true, forall_eq, not_true_eq_false, not_false_eq_true, forall_const, false_implies, true_implies, Classical.not_not, if_true, if_false, Int.reduceEq, Int.reduceLT, Int.reduceLE, Int.reduceGT, Int.reduceGE, Int.reduceAdd, Int.reduceSub, Int.reduceMul, Int.reduceNeg, Int.reduceNe, Bool.true_and, Bool.and_true, Bool.false_and, Bool.and_false, BEq.rfl, Bool.true_eq_false, Bool.false_eq_true, z, wp_X12_readPaper_186]
        rw [Int.add_zero]
        refine ih d (j + 1) e (by omega) (by omega) (by omega) (by omega) ?_
        rw [Int.zero_add] at k; exact k
      · rw [if_neg z] at k
        simp (discharger := omega) only [nlit, iI_lit, iI_add, iI_sub, iI_mul, iI_neg, bI_z, bI_o, i10, i01, eq_self, bI_nar, nar_0, nar_1, bI_t, bI_f, Option.some.injEq, exists_eq_left', true_and, and_true, forall_eq, not_true_eq_false, not_false_eq_true, forall_const, false_implies, true_implies, Classical.not_not, if_true, if_false, Int.reduceEq, Int.reduceLT, Int.reduceLE, Int.reduceGT, Int.reduceGE, Int.reduceAdd, Int.reduceSub, Int.reduceMul, Int.reduceNeg, Int.reduceNe, Bool.true_and, Bool.and_true, Bool.false_and, Bool.and_false, BEq.rfl, Bool.true_eq_false, Bool.false_eq_true, z, wp_X12_readPaper_186]
        refine ih d (j + 1) (e + 1) (by omega) (by omega) (by omega) (by omega) ?_
        rw [Int.add_assoc]; exact k
theorem rankP_i (h8 : F ≤ 8) {v : Int → Int} (hv : okV F R v) {r : Int} (hr : 0 ≤ r ∧ r < R) (h4 : 4 ≤ F) (r8 : R ≤ 8) : ∀ (d : Nat) (f e : Int), 0 ≤ f → f + d ≤ F → 0 ≤ e ∧ e ≤ f → ∀ c ∈ rankP F v r f e d, 0 ≤ c ∧ c ≤ 255 := by
  intro d
  induction d with
  | zero => intro f e _ hf he c hc; unfold rankP at hc; split at hc <;> simp at hc; omega
  | succ d ih =>
    intro f e h0 hf he c hc
    have hd1 : ((d + 1 : Nat) : Int) = d + 1 := by omega
    unfold rankP at hc
    split at hc
    · exact ih (f + 1) (e + 1) (by omega) (by omega) (by omega) c hc
    · have hl : 66 ≤ letB (kindO (v (F * r + f))) ∧ letB (kindO (v (F * r + f))) ≤ 82 := by unfold letB; repeat' (first | decide | split)
      have ih := ih (f + 1) 0 (by omega) (by omega) (by omega)
      rcases List.mem_append.1 hc with q | q
      · split at q <;> simp at q; omega
      · rcases List.mem_cons.1 q with q | q
        · rw [q]; split <;> omega
        · exact ih c q
theorem ranksP_i (h4 : 4 ≤ F) (h8 : F ≤ 8) (r4 : 4 ≤ R) (r8 : R ≤ 8) {v : Int → Int} (hv : okV F R v) : ∀ d : Nat, (d : Int) ≤ R → ∀ c ∈ ranksP F v d, 0 ≤ c ∧ c ≤ 255 := by
  intro d
  induction d with
  | zero => intro _ c hc; simp [ranksP] at hc
  | succ d ih =>
    intro hd c hc
    unfold ranksP at hc
    rcases List.mem_append.1 hc with q | q
    · exact rankP_i h8 hv (r := (d : Int)) (by omega) h4 r8 F.toNat 0 0 (by decide) (by omega) (by decide) c q
    · rcases List.mem_cons.1 q with q | q
      · rw [q]; split <;> decide
      · exact ih (by omega) c q
theorem rightP_i (p : Int) : ∀ (d : Nat) (b : Int), ∀ c ∈ rightP p b d, 0 ≤ c ∧ c ≤ 255 := by
  intro d
  induction d with
  | zero => intro b c hc; simp [rightP] at hc
  | succ d ih =>
    intro b c hc
    unfold rightP at hc
    rcases List.mem_append.1 hc with q | q
    · split at q
      · simp at q; rw [q]; split <;> split <;> decide
      · simp at q
    · exact ih (b + 1) c q
theorem paperP_i (h4 : 4 ≤ F) (h8 : F ≤ 8) (r4 : 4 ≤ R) (r8 : R ≤ 8) {v : Int → Int} (hv : okV F R v) (k : Nat) : i32 ((paperP F R v).getD k 0) := by
  have key : ∀ c ∈ paperP F R v, 0 ≤ c ∧ c ≤ 255 := by
    intro c hc
    unfold paperP rightsP passP at hc
    have hp := hv.2.2.2
    rcases List.mem_append.1 hc with q | q
    · exact ranksP_i h4 h8 r4 r8 hv _ (by omega) c q
    · rcases List.mem_cons.1 q with q | q
      · rw [q]; split <;> decide
      · rcases List.mem_cons.1 q with q | q
        · rw [q]; decide
        · rcases List.mem_append.1 q with q | q
          · rcases List.mem_append.1 q with q | q
            · exact rightP_i _ _ _ c q
            · split at q <;> simp at q; rw [q]; decide
          · rcases List.mem_cons.1 q with q | q
            · rw [q]; decide
            · split at q
              · simp at q; rw [q]; decide
              · simp [fileC, rankC] at q
                have e1 : 0 ≤ v 66 % F ∧ v 66 % F < F := ⟨Int.emod_nonneg _ (by omega), Int.emod_lt_of_pos _ (by omega)⟩
                have e2 : 0 ≤ v 66 / F ∧ v 66 / F ≤ v 66 := ⟨Int.ediv_nonneg (by omega) (by omega), Int.ediv_le_self _ (by omega)⟩
                have e3 : F * R ≤ 64 := Int.le_trans (Int.mul_le_mul_of_nonneg_right h8 (by omega)) (by omega)
                omega
  rw [List.getD_eq_getElem?_getD]
  cases c : (paperP F R v)[k]? with
  | none => decide
  | some z =>
    have := key z (List.mem_of_getElem? c)
    simp only [Option.getD_some]; omega
theorem q_rdP_23 (h : XC D S x A) {c : Int32} : ∀ (n d : Nat) (j : Int), d < n → j + d = 67 → 0 ≤ j →
    (∀ n, wp_X12_readPaper_23 D post (n + 1) (xS S x A (fil m 3 67 0)) x c (iI 67)) → wp_X12_readPaper_23 D post n (xS S x A (fil m 3 j 0)) x c (iI j) := by
  intro n
  induction n with
  | zero => intro d j hd; omega
  | succ n ih =>
    intro d j hd hj h0 k
    cases d with
    | zero =>
      have : j = 67 := by omega
      rw [this]; exact k n
    | succ d =>
      have cc : ¬ 67 ≤ j := by omega
      have i1 : vp_in (iI j) 536 := iI_in (by omega) (by omega) (by omega)
      unfold wp_X12_readPaper_23
      simp (discharger := omega) only [nlit, iI_lit, iI_add, iI_sub, iI_mul, iI_neg, bI_z, bI_o, i10, i01, eq_self, bI_nar, nar_0, nar_1, bI_t, bI_f, Option.some.injEq, exists_eq_left', true_and, and_true, forall_eq, not_true_eq_false, not_false_eq_true, forall_const, false_implies, true_implies, Classical.not_not, if_true, if_false, Int.reduceEq, Int.reduceLT, Int.reduceLE, Int.reduceGT, Int.reduceGE, Int.reduceAdd, Int.reduceSub, Int.reduceMul, Int.reduceNeg, Int.reduceNe, Bool.true_and, Bool.and_true, Bool.false_and, Bool.and_false, BEq.rfl, Bool.true_eq_false, Bool.false_eq_true, iI_le, cc]
      simp (discharger := first | decide | omega) only [x_own h, x_kd h, x_r h, x_m h, x_l h, x_k h, x_n h, x_i0, x_i h, x_u0 h, x_u h, xLen, xKd, nlit, iI_lit, iI_add, iI_sub, iI_mul, iI_neg, bI_z, bI_o, i10, i01, eq_self, bI_nar, nar_0, nar_1, up_at, up_f, Option.some.injEq, exists_eq_left', true_and, and_true, forall_eq, not_true_eq_false, not_false_eq_true, forall_const, false_implies, true_implies, Classical.not_not, if_true, if_false, Int.reduceEq, Int.reduceLT, Int.reduceLE, Int.reduceGT, Int.reduceGE, Int.reduceAdd, Int.reduceSub, Int.reduceMul, Int.reduceNeg, Int.reduceNe, eq_true i1]
      rw [fil_S _ _ _ h0]
      exact ih d (j + 1) (by omega) (by omega) (by omega) k
theorem q_readPaper (h : XC D S x A) (hG : RG m F R) (hl : 0 ≤ m 50 13 ∧ m 50 13 ≤ 500) (ht : ∀ k, 0 ≤ k → k < 500 → 0 ≤ m 12 k ∧ m 12 k ≤ 255) (hw : 0 ≤ m 50 15 ∧ m 50 15 ≤ 128)
    (k0 : papB F R m = none → ∀ m', SIM (up m 50 13 0) m' → m' 50 0 = 1 → post (iI 0) (xS S x A m'))
    (k1 : ∀ u, papB F R m = some u → m 50 11 ≠ 0 → ∀ m', SIM (up m 50 13 0) m' → m' 50 0 = 2 → post (iI 0) (xS S x A m'))
    (k2 : ∀ u, papB F R m = some u → okV F R u → clV u → properB F R u = true → m 50 11 = 0 → ∀ m', SIM (up m 50 13 0) (fun r j => if r = 8 ∧ 0 ≤ j ∧ j < 67 then m 8 j else m' r j) → (∀ j, 0 ≤ j → j < 67 → m' 8 j = u j) → m' 50 0 = 0 → post (iI (cntP F R u)) (xS S x A m')) :
    wp_X12_readPaper D post (xS S x A m) x := by
  have hm := hG.m0
  have hB := hG.b
  have h4 := hB.f4; have h8 := hB.f8; have r4 := hB.r4; have r8 := hB.r8
  have hn := hB.n
  simp (discharger := first | decide | omega) only [x_own h, x_kd h, x_r h, x_m h, x_l h, x_k h, x_n h, x_i0, x_i h, x_u0 h, x_u h, xLen, xKd, nlit, iI_lit, iI_add, iI_sub, iI_mul, iI_neg, bI_z, bI_o, i10, i01, eq_self, bI_nar, nar_0, nar_1, up_at, up_f, Option.some.injEq, exists_eq_left', true_and, and_true, forall_eq, not_true_eq_false, not_false_eq_true, forall_const, false_implies, true_implies, Classical.not_not, if_true, if_false, Int.reduceEq, Int.reduceLT, Int.reduceLE, Int.reduceGT, Int.reduceGE, Int.reduceAdd, Int.reduceSub, Int.reduceMul, Int.reduceNeg, Int.reduceNe, wp_X12_readPaper, wp_X12_readPaper_0]
  rw [show m 50 15 = m 50 15 from rfl]
  refine q_copies (f := 14) (g := 23) h (by decide) (by decide) (by decide) (by decide) (by decide) (by decide) (by decide) (fun e => by cases e) ?_
  generalize hm1 : cpy m 14 0 23 0 128 = m1
  have e1 : ∀ r j, r ≠ 23 → m1 r j = m r j := fun r j e => by rw [← hm1]; exact cpy_ne m (by simpa using e)
  have e23 : ∀ j, 0 ≤ j → j < 128 → m1 23 j = m 14 j := fun j a b => by rw [← hm1, cpy_at _ (by omega) (by omega)]; congr 1; omega
  have hB1 : XB m1 F R := ⟨by rw [e1 _ _ (by decide)]; exact hB.1, by rw [e1 _ _ (by decide)]; exact hB.2.1, hB.2.2⟩
  have et : txB m1 = txB m := by funext k; unfold txB; rw [e1 _ _ (by decide), e1 _ _ (by decide)]
  have e13 : m1 50 13 = m 50 13 := e1 _ _ (by decide)
  have ht1 : ∀ k, 0 ≤ k → i32 (txB m1 k - 200) ∧ i32 (txB m1 k + 200) := fun k a => by
    rw [et]; unfold txB; split
    · have := ht k a (by omega); omega
    · decide
  -- the state behind the squares, the rest and the comparison, whatever they were
  have fin : ∀ (b : Bool) (m2 : xM), (∀ r j, r ≠ 3 → r ≠ 14 → ¬ (r = 50 ∧ (j = 24 ∨ j = 15)) → m2 r j = m1 r j) → (∀ j, 128 ≤ j ∨ j < 0 → m2 14 j = m1 14 j) →
      (b = true → ∃ u, papB F R m = some u ∧ okV F R u ∧ clV u ∧ properB F R u = true ∧ ∀ j, 0 ≤ j → j < 67 → m2 3 j = u j) → (b = false → papB F R m = none) →
      wp_X12_readPaper_84 D post (xS S x A m2) x (iI (m 50 15)) (iI (bI b)) := by
    intro b m2 g1 g2 g3 g4
    unfold wp_X12_readPaper_84
    simp (discharger := first | decide | omega) only [x_own h, x_kd h, x_r h, x_m h, x_l h, x_k h, x_n h, x_i0, x_i h, x_u0 h, x_u h, xLen, xKd, nlit, iI_lit, iI_add, iI_sub, iI_mul, iI_neg, bI_z, bI_o, i10, i01, eq_self, bI_nar, nar_0, nar_1, up_at, up_f, Option.some.injEq, exists_eq_left', true_and, and_true, forall_eq, not_true_eq_false, not_false_eq_true, forall_const, false_implies, true_implies, Classical.not_not, if_true, if_false, Int.reduceEq, Int.reduceLT, Int.reduceLE, Int.reduceGT, Int.reduceGE, Int.reduceAdd, Int.reduceSub, Int.reduceMul, Int.reduceNeg, Int.reduceNe]
    refine q_copies (f := 23) (g := 14) h (by decide) (by decide) (by decide) (by decide) (by decide) (by decide) (by decide) (fun e => by cases e) ?_
    simp (discharger := first | decide | omega) only [x_own h, x_kd h, x_r h, x_m h, x_l h, x_k h, x_n h, x_i0, x_i h, x_u0 h, x_u h, xLen, xKd, nlit, iI_lit, iI_add, iI_sub, iI_mul, iI_neg, bI_z, bI_o, i10, i01, eq_self, bI_nar, nar_0, nar_1, up_at, up_f, Option.some.injEq, exists_eq_left', true_and, and_true, forall_eq, not_true_eq_false, not_false_eq_true, forall_const, false_implies, true_implies, Classical.not_not, if_true, if_false, Int.reduceEq, Int.reduceLT, Int.reduceLE, Int.reduceGT, Int.reduceGE, Int.reduceAdd, Int.reduceSub, Int.reduceMul, Int.reduceNeg, Int.reduceNe]
    rw [q_can h]
    have mm : ∀ z : Int, (∀ r j, r ≠ 3 → r ≠ 23 → ¬ (r = 50 ∧ j = 24) → up (up (up (cpy m2 23 0 14 0 128) 50 15 (m 50 15)) 50 13 0) 50 0 z r j = up (up m 50 13 0) 50 0 z r j) := by
      intro z r j n3 n23 n24
      show (if r = 50 ∧ j = 0 then z else if r = 50 ∧ j = 13 then 0 else if r = 50 ∧ j = 15 then m 50 15 else cpy m2 23 0 14 0 128 r j) = (if r = 50 ∧ j = 0 then z else if r = 50 ∧ j = 13 then 0 else m r j)
      by_cases c0 : r = 50 ∧ j = 0
      · rw [if_pos c0, if_pos c0]
      · rw [if_neg c0, if_neg c0]
        by_cases c13 : r = 50 ∧ j = 13
        · rw [if_pos c13, if_pos c13]
        · rw [if_neg c13, if_neg c13]
          by_cases c15 : r = 50 ∧ j = 15
          · rw [if_pos c15, c15.1, c15.2]
          · rw [if_neg c15]
            by_cases c14 : r = 14
            · subst c14
              by_cases cj : 0 ≤ j ∧ j < 128
              · rw [cpy_at _ (by omega) (by omega), g1 23 _ (by decide) (by decide) (by omega), e23 _ (by omega) (by omega)]; congr 1; omega
              · rw [cpy_out _ (by omega), g2 j (by omega), e1 _ _ (by decide)]
            · rw [cpy_ne _ (by simpa using c14), g1 r j n3 c14 (by omega), e1 r j n23]
    have sm : ∀ z : Int, SIM (up m 50 13 0) (up (up (up (cpy m2 23 0 14 0 128) 50 15 (m 50 15)) 50 13 0) 50 0 z) := fun z r j hk => (mm z r j (fun e => by rw [e] at hk; cases hk) (fun e => by rw [e] at hk; cases hk) (fun e => by rw [e.1, e.2] at hk; cases hk)).trans (up_ne _ (by
      by_cases e : r = 50 ∧ j = 0
      · rw [e.1, e.2] at hk; cases hk
      · omega))
    cases b
    · simp (discharger := omega) only [nlit, iI_lit, iI_add, iI_sub, iI_mul, iI_neg, bI_z, bI_o, i10, i01, eq_self, bI_nar, nar_0, nar_1, bI_t, bI_f, Option.some.injEq, exists_eq_left', true_and, and_true, forall_eq, not_true_eq_false, not_false_eq_true, forall_const, false_implies, true_implies, Classical.not_not, if_true, if_false, Int.reduceEq, Int.reduceLT, Int.reduceLE, Int.reduceGT, Int.reduceGE, Int.reduceAdd, Int.reduceSub, Int.reduceMul, Int.reduceNeg, Int.reduceNe, Bool.true_and, Bool.and_true, Bool.false_and, Bool.and_false, BEq.rfl, Bool.true_eq_false, Bool.false_eq_true, wp_X12_readPaper_139]
      exact k0 (g4 rfl) _ (sm 1) (up_at _ _ _ _)
    · obtain ⟨u, u1, u2, u3, u4, u5⟩ := g3 rfl
      rw [cn_true]
      have sm0 := sm 0
      have mm0 := mm 0
      have e3 : ∀ j, 0 ≤ j → j < 67 → up (up (up (cpy m2 23 0 14 0 128) 50 15 (m 50 15)) 50 13 0) 50 0 0 3 j = u j := fun j a b => by
        rw [up_f _ _ _ _ rfl, up_f _ _ _ _ rfl, up_f _ _ _ _ rfl, cpy_ne _ rfl]; exact u5 j a b
      have e11 : up (up (up (cpy m2 23 0 14 0 128) 50 15 (m 50 15)) 50 13 0) 50 0 0 50 11 = m 50 11 := by rw [mm0 _ _ (by decide) (by decide) (by decide), up_ne _ (Or.inr (by decide)), up_ne _ (Or.inr (by decide))]
      have eB : XB (up (up (up (cpy m2 23 0 14 0 128) 50 15 (m 50 15)) 50 13 0) 50 0 0) F R := by
        refine ⟨?_, ?_, hB.2.2⟩
        · rw [mm0 _ _ (by decide) (by decide) (by decide), up_ne _ (Or.inr (by decide)), up_ne _ (Or.inr (by decide))]; exact hB.1
        · rw [mm0 _ _ (by decide) (by decide) (by decide), up_ne _ (Or.inr (by decide)), up_ne _ (Or.inr (by decide))]; exact hB.2.1
      generalize up (up (up (cpy m2 23 0 14 0 128) 50 15 (m 50 15)) 50 13 0) 50 0 0 = m3 at sm0 mm0 e3 e11 eB
      try simp (discharger := omega) only [nlit, iI_lit, iI_add, iI_sub, iI_mul, iI_neg, bI_z, bI_o, i10, i01, eq_self, bI_nar, nar_0, nar_1, bI_t, bI_f, Option.some.injEq, exists_eq_left', true_and, and_true, forall_eq, not_true_eq_false, not_false_eq_true, forall_const, false_implies, true_implies, Classical.not_not, if_true, if_false, Int.reduceEq, Int.reduceLT, Int.reduceLE, Int.reduceGT, Int.reduceGE, Int.reduceAdd, Int.reduceSub, Int.reduceMul, Int.reduceNeg, Int.reduceNe, Bool.true_and, Bool.and_true, Bool.false_and, Bool.and_false, BEq.rfl, Bool.true_eq_false, Bool.false_eq_true]
      simp (discharger := first | decide | omega) only [x_own h, x_kd h, x_r h, x_m h, x_l h, x_k h, x_n h, x_i0, x_i h, x_u0 h, x_u h, xLen, xKd, nlit, iI_lit, iI_add, iI_sub, iI_mul, iI_neg, bI_z, bI_o, i10, i01, eq_self, bI_nar, nar_0, nar_1, up_at, up_f, Option.some.injEq, exists_eq_left', true_and, and_true, forall_eq, not_true_eq_false, not_false_eq_true, forall_const, false_implies, true_implies, Classical.not_not, if_true, if_false, Int.reduceEq, Int.reduceLT, Int.reduceLE, Int.reduceGT, Int.reduceGE, Int.reduceAdd, Int.reduceSub, Int.reduceMul, Int.reduceNeg, Int.reduceNe]
      rw [show m3 50 11 = m 50 11 from e11, iI_eq (by omega) (by omega) (by decide) (by decide)]
      by_cases c : m 50 11 = 0
      · simp (discharger := omega) only [nlit, iI_lit, iI_add, iI_sub, iI_mul, iI_neg, bI_z, bI_o, i10, i01, eq_self, bI_nar, nar_0, nar_1, bI_t, bI_f, Option.some.injEq, exists_eq_left', true_and, and_true, forall_eq, not_true_eq_false, not_false_eq_true, forall_const, false_implies, true_implies, Classical.not_not, if_true, if_false, Int.reduceEq, Int.reduceLT, Int.reduceLE, Int.reduceGT, Int.reduceGE, Int.reduceAdd, Int.reduceSub, Int.reduceMul, Int.reduceNeg, Int.reduceNe, Bool.true_and, Bool.and_true, Bool.false_and, Bool.and_false, BEq.rfl, Bool.true_eq_false, Bool.false_eq_true, c, wp_X12_readPaper_132]
        rw [q_can1 h]
        simp (discharger := first | decide | omega) only [x_own h, x_kd h, x_r h, x_m h, x_l h, x_k h, x_n h, x_i0, x_i h, x_u0 h, x_u h, xLen, xKd, nlit, iI_lit, iI_add, iI_sub, iI_mul, iI_neg, bI_z, bI_o, i10, i01, eq_self, bI_nar, nar_0, nar_1, up_at, up_f, Option.some.injEq, exists_eq_left', true_and, and_true, forall_eq, not_true_eq_false, not_false_eq_true, forall_const, false_implies, true_implies, Classical.not_not, if_true, if_false, Int.reduceEq, Int.reduceLT, Int.reduceLE, Int.reduceGT, Int.reduceGE, Int.reduceAdd, Int.reduceSub, Int.reduceMul, Int.reduceNeg, Int.reduceNe]
        refine q_copies (f := 3) (g := 8) h (by decide) (by decide) (by decide) (by decide) (by decide) (by decide) (by decide) (fun e => by cases e) ?_
        have e8 : ∀ j, 0 ≤ j → j < 67 → cpy (up m3 50 0 0) 3 0 8 0 67 8 j = u j := fun j a b => by
          rw [cpy_at _ (by omega) (by omega), up_f _ _ _ _ rfl, Int.zero_add, Int.sub_zero]; exact e3 j a b
        refine ⟨65, q_rdP_161 h ⟨?_, ?_, hB.2.2⟩ e8 u2 65 (F * R).toNat 0 0 (by omega) (by omega) (by decide) (by decide) ?_⟩
        · rw [cpy_ne _ rfl, up_ne _ (Or.inr (by decide))]; exact eB.1
        · rw [cpy_ne _ rfl, up_ne _ (Or.inr (by decide))]; exact eB.2.1
        · rw [Int.zero_add]
          refine k2 u u1 u2 u3 u4 c _ (fun r j hk => ?_) e8 (by rw [cpy_ne _ rfl, up_at])
          dsimp only
          by_cases q : r = 8 ∧ 0 ≤ j ∧ j < 67
          · rw [if_pos q, q.1, up_f _ _ _ _ rfl]
          · rw [if_neg q]
            by_cases q8 : r = 8
            · subst q8
              rw [cpy_out _ (by omega), up_f _ _ _ _ rfl]
              exact sm0 _ _ hk
            · rw [cpy_ne _ (by simpa using q8)]
              by_cases q0 : r = 50 ∧ j = 0
              · rw [q0.1, q0.2] at hk; cases hk
              · rw [up_ne _ (by omega)]
                exact sm0 _ _ hk
      · simp (discharger := omega) only [nlit, iI_lit, iI_add, iI_sub, iI_mul, iI_neg, bI_z, bI_o, i10, i01, eq_self, bI_nar, nar_0, nar_1, bI_t, bI_f, Option.some.injEq, exists_eq_left', true_and, and_true, forall_eq, not_true_eq_false, not_false_eq_true, forall_const, false_implies, true_implies, Classical.not_not, if_true, if_false, Int.reduceEq, Int.reduceLT, Int.reduceLE, Int.reduceGT, Int.reduceGE, Int.reduceAdd, Int.reduceSub, Int.reduceMul, Int.reduceNeg, Int.reduceNe, Bool.true_and, Bool.and_true, Bool.false_and, Bool.and_false, BEq.rfl, Bool.true_eq_false, Bool.false_eq_true, c, wp_X12_readPaper_132]
        rw [q_can0 h]
        simp (discharger := omega) only [nlit, iI_lit, iI_add, iI_sub, iI_mul, iI_neg, bI_z, bI_o, i10, i01, eq_self, bI_nar, nar_0, nar_1, bI_t, bI_f, Option.some.injEq, exists_eq_left', true_and, and_true, forall_eq, not_true_eq_false, not_false_eq_true, forall_const, false_implies, true_implies, Classical.not_not, if_true, if_false, Int.reduceEq, Int.reduceLT, Int.reduceLE, Int.reduceGT, Int.reduceGE, Int.reduceAdd, Int.reduceSub, Int.reduceMul, Int.reduceNeg, Int.reduceNe, Bool.true_and, Bool.and_true, Bool.false_and, Bool.and_false, BEq.rfl, Bool.true_eq_false, Bool.false_eq_true, wp_X12_readPaper_139]
        refine k1 u u1 c _ (fun r j hk => ?_) (up_at _ _ _ _)
        by_cases q0 : r = 50 ∧ j = 0
        · rw [q0.1, q0.2] at hk; cases hk
        · rw [up_ne _ (by omega)]
          exact sm0 r j hk
  refine ⟨68, ?_⟩
  have q0 := q_rdP_23 (m := m1) (post := post) h (c := iI (m 50 15)) 68 67 0 (by omega) (by decide) (by decide)
  rw [fil_0] at q0
  refine q0 (fun n => ?_)
  have ez : up (fil m1 3 67 0) 50 24 0 = atM m1 (fun _ => 0) 0 := by
    funext r j
    unfold atM up putV fil
    by_cases c : r = 50 ∧ j = 24
    · simp [c]
    · simp only [if_neg c]
      by_cases q : r = 3 ∧ 0 ≤ j ∧ j < 67
      · rw [if_pos q, if_pos (by omega)]
      · rw [if_neg q, if_neg (by omega)]
  have e67 : (iI 67 ≤ iI 67) = True := eq_true (by decide)
  unfold wp_X12_readPaper_23
  simp (discharger := omega) only [nlit, iI_lit, iI_add, iI_sub, iI_mul, iI_neg, bI_z, bI_o, i10, i01, eq_self, bI_nar, nar_0, nar_1, bI_t, bI_f, Option.some.injEq, exists_eq_left', true_and, and_true, forall_eq, not_true_eq_false, not_false_eq_true, forall_const, false_implies, true_implies, Classical.not_not, if_true, if_false, Int.reduceEq, Int.reduceLT, Int.reduceLE, Int.reduceGT, Int.reduceGE, Int.reduceAdd, Int.reduceSub, Int.reduceMul, Int.reduceNeg, Int.reduceNe, Bool.true_and, Bool.and_true, Bool.false_and, Bool.and_false, BEq.rfl, Bool.true_eq_false, Bool.false_eq_true, e67, wp_X12_readsSquares, wp_X12_readsSquares_0]
  rw [show ∀ v, uI (xS S x A (fil m1 3 67 0)) x 24 (iI v) = xS S x A (up (fil m1 3 67 0) 50 24 v) from fun v => x_u0 h 24 v, ez]
  rw [x_i0, show atM m1 (fun _ => 0) 0 50 ((2 : Nat) : Int) = R from (hB1.at _ _).r]
  try simp (discharger := omega) only [nlit, iI_lit, iI_add, iI_sub, iI_mul, iI_neg, bI_z, bI_o, i10, i01, eq_self, bI_nar, nar_0, nar_1, bI_t, bI_f, Option.some.injEq, exists_eq_left', true_and, and_true, forall_eq, not_true_eq_false, not_false_eq_true, forall_const, false_implies, true_implies, Classical.not_not, if_true, if_false, Int.reduceEq, Int.reduceLT, Int.reduceLE, Int.reduceGT, Int.reduceGE, Int.reduceAdd, Int.reduceSub, Int.reduceMul, Int.reduceNeg, Int.reduceNe, Bool.true_and, Bool.and_true, Bool.false_and, Bool.and_false, BEq.rfl, Bool.true_eq_false, Bool.false_eq_true]
  have hl1 : 0 ≤ m1 50 13 ∧ m1 50 13 ≤ 500 := by rw [e13]; exact hl
  have en : ∀ w a r j, r ≠ 3 → ¬ (r = 50 ∧ j = 24) → atM m1 w a r j = m1 r j := fun w a r j n3 n24 => by
    unfold atM
    rw [putV_f _ _ _ _ (by simpa using n3), up_ne _ (by omega)]
  have bad : (papB F R m = none) → ∀ w a, wp_X12_readPaper_84 D post (xS S x A (atM m1 w a)) x (iI (m 50 15)) (iI 0) := fun e w a =>
    fin false _ (fun r j a1 a2 a3 => en w a r j a1 (by omega)) (fun j _ => en w a 14 j (by decide) (by omega)) (fun e => by cases e) (fun _ => e)
  have pn : rdS F R (txB m1) R.toNat 0 (fun _ => 0) = none → papB F R m = none := fun e => by
    unfold papB rdP; rw [← et, e]
  refine ⟨9, ?_⟩
  cases hrs : rdS F R (txB m1) R.toNat 0 (fun _ => 0) with
  | none =>
    refine q_rS_12 h hB1 hl1 ht1 9 R.toNat (R - 1) 0 _ (by omega) (by omega) (by omega) (by omega) (fun _ w a => ?_) (fun b u q => by rw [hrs] at q; cases q)
    try simp (discharger := omega) only [nlit, iI_lit, iI_add, iI_sub, iI_mul, iI_neg, bI_z, bI_o, i10, i01, eq_self, bI_nar, nar_0, nar_1, bI_t, bI_f, Option.some.injEq, exists_eq_left', true_and, and_true, forall_eq, not_true_eq_false, not_false_eq_true, forall_const, false_implies, true_implies, Classical.not_not, if_true, if_false, Int.reduceEq, Int.reduceLT, Int.reduceLE, Int.reduceGT, Int.reduceGE, Int.reduceAdd, Int.reduceSub, Int.reduceMul, Int.reduceNeg, Int.reduceNe, Bool.true_and, Bool.and_true, Bool.false_and, Bool.and_false, BEq.rfl, Bool.true_eq_false, Bool.false_eq_true]
    exact bad (pn hrs) w a
  | some qq =>
    obtain ⟨b0, u0⟩ := qq
    refine q_rS_12 h hB1 hl1 ht1 9 R.toNat (R - 1) 0 _ (by omega) (by omega) (by omega) (by omega) (fun e => by rw [hrs] at e; cases e) (fun b u q hb => ?_)
    · rw [hrs] at q
      cases q
      have hsq := rdS_sq h4 h8 r8 (txB m1) R.toNat 0 (fun _ => 0) (by omega) ⟨fun _ _ _ => ⟨Int.le_refl 0, by show (0 : Int) ≤ 12; decide⟩, fun _ _ => rfl⟩ b0 u0 hrs
      have hE := rdE_ok h4 h8 hn.1 (txB m1) (m1 50 13) b0 hsq (R := R)
      try simp (discharger := omega) only [nlit, iI_lit, iI_add, iI_sub, iI_mul, iI_neg, bI_z, bI_o, i10, i01, eq_self, bI_nar, nar_0, nar_1, bI_t, bI_f, Option.some.injEq, exists_eq_left', true_and, and_true, forall_eq, not_true_eq_false, not_false_eq_true, forall_const, false_implies, true_implies, Classical.not_not, if_true, if_false, Int.reduceEq, Int.reduceLT, Int.reduceLE, Int.reduceGT, Int.reduceGE, Int.reduceAdd, Int.reduceSub, Int.reduceMul, Int.reduceNeg, Int.reduceNe, Bool.true_and, Bool.and_true, Bool.false_and, Bool.and_false, BEq.rfl, Bool.true_eq_false, Bool.false_eq_true]
      refine q_readsRest h hB1 hl1 ht1 (by omega) (fun b => ?_)
      have eP : papB F R m = if (asWr m (paperP F R (rdE F R (txB m1) (m1 50 13) b0 u0)) && properB F R (rdE F R (txB m1) (m1 50 13) b0 u0) && pasB F R (rdE F R (txB m1) (m1 50 13) b0 u0)) = true then some (rdE F R (txB m1) (m1 50 13) b0 u0) else none := by
        unfold papB rdP; rw [← et, ← e13, hrs]
      generalize hu : rdE F R (txB m1) (m1 50 13) b0 u0 = u at hE eP
      have hB2 : XB (atM m1 u b) F R := hB1.at _ _
      have el : lv (atM m1 u b) 0 = u := lv_putV _ hE.2
      have ew : ∀ W, asWr (atM m1 u b) W = asWr m W := fun W => by unfold asWr; rw [en _ _ _ _ (by decide) (by omega), e13, show atM m1 u b 12 = m 12 from funext fun j => (en _ _ _ _ (by decide) (by omega)).trans (e1 _ _ (by decide))]
      try simp (discharger := omega) only [nlit, iI_lit, iI_add, iI_sub, iI_mul, iI_neg, bI_z, bI_o, i10, i01, eq_self, bI_nar, nar_0, nar_1, bI_t, bI_f, Option.some.injEq, exists_eq_left', true_and, and_true, forall_eq, not_true_eq_false, not_false_eq_true, forall_const, false_implies, true_implies, Classical.not_not, if_true, if_false, Int.reduceEq, Int.reduceLT, Int.reduceLE, Int.reduceGT, Int.reduceGE, Int.reduceAdd, Int.reduceSub, Int.reduceMul, Int.reduceNeg, Int.reduceNe, Bool.true_and, Bool.and_true, Bool.false_and, Bool.and_false, BEq.rfl, Bool.true_eq_false, Bool.false_eq_true]
      refine q_isAsWritten h hB2 el hE.1 (by rw [atM_50 _ _ _ (by decide)]; exact hl1) (fun k a b => ?_) (fun k => paperP_i h4 h8 r4 r8 hE.1 k) ?_
      · rw [en _ _ _ _ (by decide) (by omega), e1 _ _ (by decide)]; have := ht k a b; omega
      · rw [ew]
        generalize hm5 : wrM (up (atM m1 u b) 50 15 0) (paperP F R u) = m5
        have g1 : ∀ r j, r ≠ 3 → r ≠ 14 → ¬ (r = 50 ∧ (j = 24 ∨ j = 15)) → m5 r j = m1 r j := fun r j n3 n14 n50 => by
          rw [← hm5]
          unfold wrM
          rw [if_neg (by omega), if_neg (by omega), up_ne _ (by omega)]
          exact en _ _ _ _ n3 (by omega)
        have hpl := paperP_len h8 r8 u
        have g2 : ∀ j, 128 ≤ j ∨ j < 0 → m5 14 j = m1 14 j := fun j hj => by
          rw [← hm5]
          unfold wrM
          rw [if_neg (by omega), if_neg (by rw [up_at]; omega), up_f _ _ _ _ rfl]
          exact en _ _ _ _ (by decide) (by omega)
        have g3 : ∀ j, 0 ≤ j → j < 67 → m5 3 j = u j := fun j a b => by
          rw [← hm5, wrM_r _ _ _ rfl rfl, up_f _ _ _ _ rfl]
          have := congrFun el j
          unfold lv vec at this
          rw [if_pos ⟨a, b⟩, Int.mul_zero, Int.zero_add] at this
          exact this
        have hB5 : XB m5 F R := ⟨by rw [g1 _ _ (by decide) (by decide) (by decide)]; exact hB1.1, by rw [g1 _ _ (by decide) (by decide) (by decide)]; exact hB1.2.1, hB.2.2⟩
        have el5 : lv m5 0 = u := by
          funext j
          unfold lv vec
          by_cases a : 0 ≤ j ∧ j < 67
          · rw [if_pos a, Int.mul_zero, Int.zero_add]; exact g3 j a.1 a.2
          · rw [if_neg a]; exact (hE.2 j a).symm
        have no : papB F R m = none → wp_X12_readPaper_84 D post (xS S x A m5) x (iI (m 50 15)) (iI 0) := fun e => fin false m5 g1 g2 (fun e => by cases e) (fun _ => e)
        try simp (discharger := omega) only [nlit, iI_lit, iI_add, iI_sub, iI_mul, iI_neg, bI_z, bI_o, i10, i01, eq_self, bI_nar, nar_0, nar_1, bI_t, bI_f, Option.some.injEq, exists_eq_left', true_and, and_true, forall_eq, not_true_eq_false, not_false_eq_true, forall_const, false_implies, true_implies, Classical.not_not, if_true, if_false, Int.reduceEq, Int.reduceLT, Int.reduceLE, Int.reduceGT, Int.reduceGE, Int.reduceAdd, Int.reduceSub, Int.reduceMul, Int.reduceNeg, Int.reduceNe, Bool.true_and, Bool.and_true, Bool.false_and, Bool.and_false, BEq.rfl, Bool.true_eq_false, Bool.false_eq_true]
        cases a1 : asWr m (paperP F R u)
        · simp (discharger := omega) only [nlit, iI_lit, iI_add, iI_sub, iI_mul, iI_neg, bI_z, bI_o, i10, i01, eq_self, bI_nar, nar_0, nar_1, bI_t, bI_f, Option.some.injEq, exists_eq_left', true_and, and_true, forall_eq, not_true_eq_false, not_false_eq_true, forall_const, false_implies, true_implies, Classical.not_not, if_true, if_false, Int.reduceEq, Int.reduceLT, Int.reduceLE, Int.reduceGT, Int.reduceGE, Int.reduceAdd, Int.reduceSub, Int.reduceMul, Int.reduceNeg, Int.reduceNe, Bool.true_and, Bool.and_true, Bool.false_and, Bool.and_false, BEq.rfl, Bool.true_eq_false, Bool.false_eq_true, wp_X12_readPaper_82, wp_X12_readPaper_83]
          exact no (by rw [eP, a1]; rfl)
        · try simp (discharger := omega) only [nlit, iI_lit, iI_add, iI_sub, iI_mul, iI_neg, bI_z, bI_o, i10, i01, eq_self, bI_nar, nar_0, nar_1, bI_t, bI_f, Option.some.injEq, exists_eq_left', true_and, and_true, forall_eq, not_true_eq_false, not_false_eq_true, forall_const, false_implies, true_implies, Classical.not_not, if_true, if_false, Int.reduceEq, Int.reduceLT, Int.reduceLE, Int.reduceGT, Int.reduceGE, Int.reduceAdd, Int.reduceSub, Int.reduceMul, Int.reduceNeg, Int.reduceNe, Bool.true_and, Bool.and_true, Bool.false_and, Bool.and_false, BEq.rfl, Bool.true_eq_false, Bool.false_eq_true]
          refine q_isProperAt h hB5 (by decide) (by rw [el5]; exact hE.1) ?_
          rw [el5]
          try simp (discharger := omega) only [nlit, iI_lit, iI_add, iI_sub, iI_mul, iI_neg, bI_z, bI_o, i10, i01, eq_self, bI_nar, nar_0, nar_1, bI_t, bI_f, Option.some.injEq, exists_eq_left', true_and, and_true, forall_eq, not_true_eq_false, not_false_eq_true, forall_const, false_implies, true_implies, Classical.not_not, if_true, if_false, Int.reduceEq, Int.reduceLT, Int.reduceLE, Int.reduceGT, Int.reduceGE, Int.reduceAdd, Int.reduceSub, Int.reduceMul, Int.reduceNeg, Int.reduceNe, Bool.true_and, Bool.and_true, Bool.false_and, Bool.and_false, BEq.rfl, Bool.true_eq_false, Bool.false_eq_true]
          cases a2 : properB F R u
          · simp (discharger := omega) only [nlit, iI_lit, iI_add, iI_sub, iI_mul, iI_neg, bI_z, bI_o, i10, i01, eq_self, bI_nar, nar_0, nar_1, bI_t, bI_f, Option.some.injEq, exists_eq_left', true_and, and_true, forall_eq, not_true_eq_false, not_false_eq_true, forall_const, false_implies, true_implies, Classical.not_not, if_true, if_false, Int.reduceEq, Int.reduceLT, Int.reduceLE, Int.reduceGT, Int.reduceGE, Int.reduceAdd, Int.reduceSub, Int.reduceMul, Int.reduceNeg, Int.reduceNe, Bool.true_and, Bool.and_true, Bool.false_and, Bool.and_false, BEq.rfl, Bool.true_eq_false, Bool.false_eq_true, wp_X12_readPaper_82, wp_X12_readPaper_83]
            exact no (by rw [eP, a1, a2]; rfl)
          · try simp (discharger := omega) only [nlit, iI_lit, iI_add, iI_sub, iI_mul, iI_neg, bI_z, bI_o, i10, i01, eq_self, bI_nar, nar_0, nar_1, bI_t, bI_f, Option.some.injEq, exists_eq_left', true_and, and_true, forall_eq, not_true_eq_false, not_false_eq_true, forall_const, false_implies, true_implies, Classical.not_not, if_true, if_false, Int.reduceEq, Int.reduceLT, Int.reduceLE, Int.reduceGT, Int.reduceGE, Int.reduceAdd, Int.reduceSub, Int.reduceMul, Int.reduceNeg, Int.reduceNe, Bool.true_and, Bool.and_true, Bool.false_and, Bool.and_false, BEq.rfl, Bool.true_eq_false, Bool.false_eq_true]
            refine q_isPassingRight h hB5 el5 hE.1 ?_
            try simp (discharger := omega) only [nlit, iI_lit, iI_add, iI_sub, iI_mul, iI_neg, bI_z, bI_o, i10, i01, eq_self, bI_nar, nar_0, nar_1, bI_t, bI_f, Option.some.injEq, exists_eq_left', true_and, and_true, forall_eq, not_true_eq_false, not_false_eq_true, forall_const, false_implies, true_implies, Classical.not_not, if_true, if_false, Int.reduceEq, Int.reduceLT, Int.reduceLE, Int.reduceGT, Int.reduceGE, Int.reduceAdd, Int.reduceSub, Int.reduceMul, Int.reduceNeg, Int.reduceNe, Bool.true_and, Bool.and_true, Bool.false_and, Bool.and_false, BEq.rfl, Bool.true_eq_false, Bool.false_eq_true]
            cases a3 : pasB F R u
            · simp (discharger := omega) only [nlit, iI_lit, iI_add, iI_sub, iI_mul, iI_neg, bI_z, bI_o, i10, i01, eq_self, bI_nar, nar_0, nar_1, bI_t, bI_f, Option.some.injEq, exists_eq_left', true_and, and_true, forall_eq, not_true_eq_false, not_false_eq_true, forall_const, false_implies, true_implies, Classical.not_not, if_true, if_false, Int.reduceEq, Int.reduceLT, Int.reduceLE, Int.reduceGT, Int.reduceGE, Int.reduceAdd, Int.reduceSub, Int.reduceMul, Int.reduceNeg, Int.reduceNe, Bool.true_and, Bool.and_true, Bool.false_and, Bool.and_false, BEq.rfl, Bool.true_eq_false, Bool.false_eq_true, wp_X12_readPaper_82, wp_X12_readPaper_83]
              exact no (by rw [eP, a1, a2, a3]; rfl)
            · simp (discharger := omega) only [nlit, iI_lit, iI_add, iI_sub, iI_mul, iI_neg, bI_z, bI_o, i10, i01, eq_self, bI_nar, nar_0, nar_1, bI_t, bI_f, Option.some.injEq, exists_eq_left', true_and, and_true, forall_eq, not_true_eq_false, not_false_eq_true, forall_const, false_implies, true_implies, Classical.not_not, if_true, if_false, Int.reduceEq, Int.reduceLT, Int.reduceLE, Int.reduceGT, Int.reduceGE, Int.reduceAdd, Int.reduceSub, Int.reduceMul, Int.reduceNeg, Int.reduceNe, Bool.true_and, Bool.and_true, Bool.false_and, Bool.and_false, BEq.rfl, Bool.true_eq_false, Bool.false_eq_true, wp_X12_readPaper_83]
              exact fin true m5 g1 g2 (fun _ => ⟨u, by rw [eP, a1, a2, a3]; rfl, hE.1, hE.2, a2, g3⟩) (fun e => by cases e)
end
