section
variable {D : wD} {S : wS} {x : Nat} {A : Nat → Nat} {m : xM} {F R : Int} {post : Int32 → wS → Prop}
/-- the text that the reference holds -/
abbrev TX (m : xM) (t : Int → Int) (len : Int) : Prop := len ≤ 500 ∧ ∀ k, 0 ≤ k → k < len → m 12 k = t k ∧ 0 ≤ t k ∧ t k ≤ 255
theorem TX.row {m m' : xM} {t : Int → Int} {len : Int} (h : TX m t len) (e : m' 12 = m 12) : TX m' t len := ⟨h.1, fun k a b => by rw [e]; exact h.2 k a b⟩
theorem q_isBracket {U : wS} {c : Int} (hc : i32 c) (k : post (iI (bI (brkB c))) U) : wp_X12_isBracket D post U (iI c) := by
  simp (discharger := omega) only [nlit, iI_lit, iI_add, iI_sub, iI_mul, iI_neg, bI_z, bI_o, i10, i01, eq_self, bI_nar, nar_0, nar_1, bI_t, bI_f, Option.some.injEq, exists_eq_left', true_and, and_true, forall_eq, not_true_eq_false, not_false_eq_true, forall_const, false_implies, true_implies, Classical.not_not, if_true, if_false, Int.reduceEq, Int.reduceLT, Int.reduceLE, Int.reduceGT, Int.reduceGE, Int.reduceAdd, Int.reduceSub, Int.reduceMul, Int.reduceNeg, Int.reduceNe, Bool.true_and, Bool.and_true, Bool.false_and, Bool.and_false, BEq.rfl, Bool.true_eq_false, Bool.false_eq_true, wp_X12_isBracket, wp_X12_isBracket_0, wp_X12_isBracket_24, wp_X12_isBracket_29, iI_eq]
  unfold brkB at k
  by_cases c1 : c = 40
  · simpa [bI_t, bI_f, c1] using k
  · by_cases c2 : c = 41
    · simpa [bI_t, bI_f, c2] using k
    · by_cases c3 : c = 123
      · simpa [bI_t, bI_f, c3] using k
      · by_cases c4 : c = 125
        · simpa [bI_t, bI_f, c4] using k
        · simpa [bI_t, bI_f, c1, c2, c3, c4] using k
theorem q_isDigit {U : wS} {c : Int} (hc : i32 c) (k : post (iI (bI (digB c))) U) : wp_X12_isDigit D post U (iI c) := by
  unfold wp_X12_isDigit wp_X12_isDigit_0
  try simp (discharger := omega) only [nlit, iI_lit, iI_add, iI_sub, iI_mul, iI_neg, bI_z, bI_o, i10, i01, eq_self, bI_nar, nar_0, nar_1, bI_t, bI_f, Option.some.injEq, exists_eq_left', true_and, and_true, forall_eq, not_true_eq_false, not_false_eq_true, forall_const, false_implies, true_implies, Classical.not_not, if_true, if_false, Int.reduceEq, Int.reduceLT, Int.reduceLE, Int.reduceGT, Int.reduceGE, Int.reduceAdd, Int.reduceSub, Int.reduceMul, Int.reduceNeg, Int.reduceNe, Bool.true_and, Bool.and_true, Bool.false_and, Bool.and_false, BEq.rfl, Bool.true_eq_false, Bool.false_eq_true]
  rw [q_in hc (by decide) (by decide)]
  try simp (discharger := omega) only [nlit, iI_lit, iI_add, iI_sub, iI_mul, iI_neg, bI_z, bI_o, i10, i01, eq_self, bI_nar, nar_0, nar_1, bI_t, bI_f, Option.some.injEq, exists_eq_left', true_and, and_true, forall_eq, not_true_eq_false, not_false_eq_true, forall_const, false_implies, true_implies, Classical.not_not, if_true, if_false, Int.reduceEq, Int.reduceLT, Int.reduceLE, Int.reduceGT, Int.reduceGE, Int.reduceAdd, Int.reduceSub, Int.reduceMul, Int.reduceNeg, Int.reduceNe, Bool.true_and, Bool.and_true, Bool.false_and, Bool.and_false, BEq.rfl, Bool.true_eq_false, Bool.false_eq_true]
  exact k
theorem dgN_r (t : Int → Int) (e : Int) : ∀ (n : Nat) (a : Int), 0 ≤ dgN t e n a ∧ dgN t e n a ≤ n ∧ (a ≤ e → a + dgN t e n a ≤ e) := by
  intro n
  induction n with
  | zero => intro a; unfold dgN; omega
  | succ n ih => intro a; unfold dgN; have := ih (a + 1); split <;> omega
theorem dtN_r (t : Int → Int) (e : Int) : ∀ (n : Nat) (a : Int), 0 ≤ dtN t e n a ∧ dtN t e n a ≤ n ∧ (a ≤ e → a + dtN t e n a ≤ e) := by
  intro n
  induction n with
  | zero => intro a; unfold dtN; omega
  | succ n ih => intro a; unfold dtN; have := ih (a + 1); split <;> omega
theorem q_isNumber_32 (h : XC D S x A) {t : Int → Int} {len : Int} (hx : TX m t len) {a e g : Int} (ha : 0 ≤ a) (he : e ≤ len) (hg : 0 ≤ g ∧ a + g ≤ e) : ∀ (n d : Nat) (j : Int), d < n → a + g + j + d = e → 0 ≤ j →
    wp_X12_isNumber_64 D post (xS S x A m) (iI a) (iI e) (iI g) (iI (j + dtN t e d (a + g + j))) → wp_X12_isNumber_32 D post n (xS S x A m) x (iI a) (iI e) (iI g) (iI j) := by
  have h5 := hx.1
  intro n
  induction n with
  | zero => intro d j hd; omega
  | succ n ih =>
    intro d j hd hj h0 k
    unfold wp_X12_isNumber_32
    simp (discharger := omega) only [nlit, iI_lit, iI_add, iI_sub, iI_mul, iI_neg, bI_z, bI_o, i10, i01, eq_self, bI_nar, nar_0, nar_1, bI_t, bI_f, Option.some.injEq, exists_eq_left', true_and, and_true, forall_eq, not_true_eq_false, not_false_eq_true, forall_const, false_implies, true_implies, Classical.not_not, if_true, if_false, Int.reduceEq, Int.reduceLT, Int.reduceLE, Int.reduceGT, Int.reduceGE, Int.reduceAdd, Int.reduceSub, Int.reduceMul, Int.reduceNeg, Int.reduceNe, Bool.true_and, Bool.and_true, Bool.false_and, Bool.and_false, BEq.rfl, Bool.true_eq_false, Bool.false_eq_true, iI_le]
    cases d with
    | zero =>
      have c : e ≤ a + g + j := by omega
      simp (discharger := omega) only [nlit, iI_lit, iI_add, iI_sub, iI_mul, iI_neg, bI_z, bI_o, i10, i01, eq_self, bI_nar, nar_0, nar_1, bI_t, bI_f, Option.some.injEq, exists_eq_left', true_and, and_true, forall_eq, not_true_eq_false, not_false_eq_true, forall_const, false_implies, true_implies, Classical.not_not, if_true, if_false, Int.reduceEq, Int.reduceLT, Int.reduceLE, Int.reduceGT, Int.reduceGE, Int.reduceAdd, Int.reduceSub, Int.reduceMul, Int.reduceNeg, Int.reduceNe, Bool.true_and, Bool.and_true, Bool.false_and, Bool.and_false, BEq.rfl, Bool.true_eq_false, Bool.false_eq_true, c]
      unfold dtN at k
      rw [Int.add_zero] at k
      exact k
    | succ d =>
      have c : ¬ e ≤ a + g + j := by omega
      have ij : vp_in (iI (a + g + j)) 500 := iI_in (by omega) (by omega) (by omega)
      have ht := hx.2 (a + g + j) (by omega) (by omega)
      simp (discharger := omega) only [nlit, iI_lit, iI_add, iI_sub, iI_mul, iI_neg, bI_z, bI_o, i10, i01, eq_self, bI_nar, nar_0, nar_1, bI_t, bI_f, Option.some.injEq, exists_eq_left', true_and, and_true, forall_eq, not_true_eq_false, not_false_eq_true, forall_const, false_implies, true_implies, Classical.not_not, if_true, if_false, Int.reduceEq, Int.reduceLT, Int.reduceLE, Int.reduceGT, Int.reduceGE, Int.reduceAdd, Int.reduceSub, Int.reduceMul, Int.reduceNeg, Int.reduceNe, Bool.true_and, Bool.and_true, Bool.false_and, Bool.and_false, BEq.rfl, Bool.true_eq_false, Bool.false_eq_true, c]
      simp (discharger := first | decide | omega) only [x_own h, x_kd h, x_r h, x_m h, x_l h, x_k h, x_n h, x_i0, x_i h, x_u0 h, x_u h, xLen, xKd, nlit, iI_lit, iI_add, iI_sub, iI_mul, iI_neg, bI_z, bI_o, i10, i01, eq_self, bI_nar, nar_0, nar_1, up_at, up_f, Option.some.injEq, exists_eq_left', true_and, and_true, forall_eq, not_true_eq_false, not_false_eq_true, forall_const, false_implies, true_implies, Classical.not_not, if_true, if_false, Int.reduceEq, Int.reduceLT, Int.reduceLE, Int.reduceGT, Int.reduceGE, Int.reduceAdd, Int.reduceSub, Int.reduceMul, Int.reduceNeg, Int.reduceNe, eq_true ij]
      rw [ht.1, iI_eq (by omega) (by omega) (by decide) (by decide)]
      unfold dtN at k
      by_cases z : t (a + g + j) = 46
      · rw [if_pos ⟨by omega, z⟩] at k
        simp (discharger := omega) only [nlit, iI_lit, iI_add, iI_sub, iI_mul, iI_neg, bI_z, bI_o, i10, i01, eq_self, bI_nar, nar_0, nar_1, bI_t, bI_f, Option.some.injEq, exists_eq_left', true_and, and_true, forall_eq, not_true_eq_false, not_false_eq_true, forall_const, false_implies, true_implies, Classical.not_not, if_true, if_false, Int.reduceEq, Int.reduceLT, Int.reduceLE, Int.reduceGT, Int.reduceGE, Int.reduceAdd, Int.reduceSub, Int.reduceMul, Int.reduceNeg, Int.reduceNe, Bool.true_and, Bool.and_true, Bool.false_and, Bool.and_false, BEq.rfl, Bool.true_eq_false, Bool.false_eq_true, z]
        refine ih d (j + 1) (by omega) (by omega) (by omega) ?_
        rw [show a + g + (j + 1) = a + g + j + 1 by omega, Int.add_assoc]; exact k
      · rw [if_neg (by omega), Int.add_zero] at k
        simp (discharger := omega) only [nlit, iI_lit, iI_add, iI_sub, iI_mul, iI_neg, bI_z, bI_o, i10, i01, eq_self, bI_nar, nar_0, nar_1, bI_t, bI_f, Option.some.injEq, exists_eq_left', true_and, and_true, forall_eq, not_true_eq_false, not_false_eq_true, forall_const, false_implies, true_implies, Classical.not_not, if_true, if_false, Int.reduceEq, Int.reduceLT, Int.reduceLE, Int.reduceGT, Int.reduceGE, Int.reduceAdd, Int.reduceSub, Int.reduceMul, Int.reduceNeg, Int.reduceNe, Bool.true_and, Bool.and_true, Bool.false_and, Bool.and_false, BEq.rfl, Bool.true_eq_false, Bool.false_eq_true, z]
        exact k
theorem q_isNumber_2 (h : XC D S x A) {t : Int → Int} {len : Int} (hx : TX m t len) {a e : Int} (ha : 0 ≤ a) (he : e ≤ len) : ∀ (n d : Nat) (j : Int), d < n → a + j + d = e → 0 ≤ j →
    wp_X12_isNumber_29 D post (xS S x A m) x (iI a) (iI e) (iI (j + dgN t e d (a + j))) → wp_X12_isNumber_2 D post n (xS S x A m) x (iI a) (iI e) (iI j) := by
  have h5 := hx.1
  intro n
  induction n with
  | zero => intro d j hd; omega
  | succ n ih =>
    intro d j hd hj h0 k
    unfold wp_X12_isNumber_2
    simp (discharger := omega) only [nlit, iI_lit, iI_add, iI_sub, iI_mul, iI_neg, bI_z, bI_o, i10, i01, eq_self, bI_nar, nar_0, nar_1, bI_t, bI_f, Option.some.injEq, exists_eq_left', true_and, and_true, forall_eq, not_true_eq_false, not_false_eq_true, forall_const, false_implies, true_implies, Classical.not_not, if_true, if_false, Int.reduceEq, Int.reduceLT, Int.reduceLE, Int.reduceGT, Int.reduceGE, Int.reduceAdd, Int.reduceSub, Int.reduceMul, Int.reduceNeg, Int.reduceNe, Bool.true_and, Bool.and_true, Bool.false_and, Bool.and_false, BEq.rfl, Bool.true_eq_false, Bool.false_eq_true, iI_le]
    cases d with
    | zero =>
      have c : e ≤ a + j := by omega
      simp (discharger := omega) only [nlit, iI_lit, iI_add, iI_sub, iI_mul, iI_neg, bI_z, bI_o, i10, i01, eq_self, bI_nar, nar_0, nar_1, bI_t, bI_f, Option.some.injEq, exists_eq_left', true_and, and_true, forall_eq, not_true_eq_false, not_false_eq_true, forall_const, false_implies, true_implies, Classical.not_not, if_true, if_false, Int.reduceEq, Int.reduceLT, Int.reduceLE, Int.reduceGT, Int.reduceGE, Int.reduceAdd, Int.reduceSub, Int.reduceMul, Int.reduceNeg, Int.reduceNe, Bool.true_and, Bool.and_true, Bool.false_and, Bool.and_false, BEq.rfl, Bool.true_eq_false, Bool.false_eq_true, c]
      unfold dgN at k
      rw [Int.add_zero] at k
      exact k
    | succ d =>
      have c : ¬ e ≤ a + j := by omega
      have ij : vp_in (iI (a + j)) 500 := iI_in (by omega) (by omega) (by omega)
      have ht := hx.2 (a + j) (by omega) (by omega)
      simp (discharger := omega) only [nlit, iI_lit, iI_add, iI_sub, iI_mul, iI_neg, bI_z, bI_o, i10, i01, eq_self, bI_nar, nar_0, nar_1, bI_t, bI_f, Option.some.injEq, exists_eq_left', true_and, and_true, forall_eq, not_true_eq_false, not_false_eq_true, forall_const, false_implies, true_implies, Classical.not_not, if_true, if_false, Int.reduceEq, Int.reduceLT, Int.reduceLE, Int.reduceGT, Int.reduceGE, Int.reduceAdd, Int.reduceSub, Int.reduceMul, Int.reduceNeg, Int.reduceNe, Bool.true_and, Bool.and_true, Bool.false_and, Bool.and_false, BEq.rfl, Bool.true_eq_false, Bool.false_eq_true, c]
      simp (discharger := first | decide | omega) only [x_own h, x_kd h, x_r h, x_m h, x_l h, x_k h, x_n h, x_i0, x_i h, x_u0 h, x_u h, xLen, xKd, nlit, iI_lit, iI_add, iI_sub, iI_mul, iI_neg, bI_z, bI_o, i10, i01, eq_self, bI_nar, nar_0, nar_1, up_at, up_f, Option.some.injEq, exists_eq_left', true_and, and_true, forall_eq, not_true_eq_false, not_false_eq_true, forall_const, false_implies, true_implies, Classical.not_not, if_true, if_false, Int.reduceEq, Int.reduceLT, Int.reduceLE, Int.reduceGT, Int.reduceGE, Int.reduceAdd, Int.reduceSub, Int.reduceMul, Int.reduceNeg, Int.reduceNe, eq_true ij]
      rw [ht.1]
      refine q_isDigit (by omega) ?_
      unfold dgN at k
      cases z : digB (t (a + j))
      · rw [if_neg (by simp [z]), Int.add_zero] at k
        try simp (discharger := omega) only [nlit, iI_lit, iI_add, iI_sub, iI_mul, iI_neg, bI_z, bI_o, i10, i01, eq_self, bI_nar, nar_0, nar_1, bI_t, bI_f, Option.some.injEq, exists_eq_left', true_and, and_true, forall_eq, not_true_eq_false, not_false_eq_true, forall_const, false_implies, true_implies, Classical.not_not, if_true, if_false, Int.reduceEq, Int.reduceLT, Int.reduceLE, Int.reduceGT, Int.reduceGE, Int.reduceAdd, Int.reduceSub, Int.reduceMul, Int.reduceNeg, Int.reduceNe, Bool.true_and, Bool.and_true, Bool.false_and, Bool.and_false, BEq.rfl, Bool.true_eq_false, Bool.false_eq_true]
        exact k
      · rw [if_pos ⟨by omega, z⟩] at k
        try simp (discharger := omega) only [nlit, iI_lit, iI_add, iI_sub, iI_mul, iI_neg, bI_z, bI_o, i10, i01, eq_self, bI_nar, nar_0, nar_1, bI_t, bI_f, Option.some.injEq, exists_eq_left', true_and, and_true, forall_eq, not_true_eq_false, not_false_eq_true, forall_const, false_implies, true_implies, Classical.not_not, if_true, if_false, Int.reduceEq, Int.reduceLT, Int.reduceLE, Int.reduceGT, Int.reduceGE, Int.reduceAdd, Int.reduceSub, Int.reduceMul, Int.reduceNeg, Int.reduceNe, Bool.true_and, Bool.and_true, Bool.false_and, Bool.and_false, BEq.rfl, Bool.true_eq_false, Bool.false_eq_true]
        refine ih d (j + 1) (by omega) (by omega) (by omega) ?_
        rw [show a + (j + 1) = a + j + 1 by omega, Int.add_assoc]; exact k
theorem q_isNumber (h : XC D S x A) {t : Int → Int} {len : Int} (hx : TX m t len) {a e : Int} (ha : 0 ≤ a ∧ a ≤ e) (he : e ≤ len) (k : post (iI (bI (numB t a e))) (xS S x A m)) : wp_X12_isNumber D post (xS S x A m) x (iI a) (iI e) := by
  have h5 := hx.1
  have g1 := dgN_r t e (e - a).toNat a
  simp (discharger := omega) only [nlit, iI_lit, iI_add, iI_sub, iI_mul, iI_neg, bI_z, bI_o, i10, i01, eq_self, bI_nar, nar_0, nar_1, bI_t, bI_f, Option.some.injEq, exists_eq_left', true_and, and_true, forall_eq, not_true_eq_false, not_false_eq_true, forall_const, false_implies, true_implies, Classical.not_not, if_true, if_false, Int.reduceEq, Int.reduceLT, Int.reduceLE, Int.reduceGT, Int.reduceGE, Int.reduceAdd, Int.reduceSub, Int.reduceMul, Int.reduceNeg, Int.reduceNe, Bool.true_and, Bool.and_true, Bool.false_and, Bool.and_false, BEq.rfl, Bool.true_eq_false, Bool.false_eq_true, wp_X12_isNumber, wp_X12_isNumber_0]
  refine ⟨501, q_isNumber_2 h hx ha.1 he 501 (e - a).toNat 0 (by omega) (by omega) (by decide) ?_⟩
  rw [Int.zero_add, Int.add_zero]
  unfold numB at k
  generalize dgN t e (e - a).toNat a = g at g1 k
  have g2 := dtN_r t e (e - (a + g)).toNat (a + g)
  simp (discharger := omega) only [nlit, iI_lit, iI_add, iI_sub, iI_mul, iI_neg, bI_z, bI_o, i10, i01, eq_self, bI_nar, nar_0, nar_1, bI_t, bI_f, Option.some.injEq, exists_eq_left', true_and, and_true, forall_eq, not_true_eq_false, not_false_eq_true, forall_const, false_implies, true_implies, Classical.not_not, if_true, if_false, Int.reduceEq, Int.reduceLT, Int.reduceLE, Int.reduceGT, Int.reduceGE, Int.reduceAdd, Int.reduceSub, Int.reduceMul, Int.reduceNeg, Int.reduceNe, Bool.true_and, Bool.and_true, Bool.false_and, Bool.and_false, BEq.rfl, Bool.true_eq_false, Bool.false_eq_true, wp_X12_isNumber_29]
  refine ⟨501, q_isNumber_32 h hx ha.1 he (by omega) 501 (e - (a + g)).toNat 0 (by omega) (by omega) (by decide) ?_⟩
  rw [Int.zero_add, Int.add_zero]
  generalize dtN t e (e - (a + g)).toNat (a + g) = q at g2 k
  unfold wp_X12_isNumber_64
  try simp (discharger := omega) only [nlit, iI_lit, iI_add, iI_sub, iI_mul, iI_neg, bI_z, bI_o, i10, i01, eq_self, bI_nar, nar_0, nar_1, bI_t, bI_f, Option.some.injEq, exists_eq_left', true_and, and_true, forall_eq, not_true_eq_false, not_false_eq_true, forall_const, false_implies, true_implies, Classical.not_not, if_true, if_false, Int.reduceEq, Int.reduceLT, Int.reduceLE, Int.reduceGT, Int.reduceGE, Int.reduceAdd, Int.reduceSub, Int.reduceMul, Int.reduceNeg, Int.reduceNe, Bool.true_and, Bool.and_true, Bool.false_and, Bool.and_false, BEq.rfl, Bool.true_eq_false, Bool.false_eq_true]
  rw [q_in (by omega) (by decide) (by decide)]
  simp (discharger := omega) only [nlit, iI_lit, iI_add, iI_sub, iI_mul, iI_neg, bI_z, bI_o, i10, i01, eq_self, bI_nar, nar_0, nar_1, bI_t, bI_f, Option.some.injEq, exists_eq_left', true_and, and_true, forall_eq, not_true_eq_false, not_false_eq_true, forall_const, false_implies, true_implies, Classical.not_not, if_true, if_false, Int.reduceEq, Int.reduceLT, Int.reduceLE, Int.reduceGT, Int.reduceGE, Int.reduceAdd, Int.reduceSub, Int.reduceMul, Int.reduceNeg, Int.reduceNe, Bool.true_and, Bool.and_true, Bool.false_and, Bool.and_false, BEq.rfl, Bool.true_eq_false, Bool.false_eq_true, iI_eq, wp_X12_isNumber_85, wp_X12_isNumber_99, wp_X12_isNumber_100]
  by_cases c1 : 1 ≤ g ∧ g ≤ 3
  · have e1 : inB g 1 3 = true := by simp [inB, c1]
    have c11 := c1.1
    have c12 := c1.2
    by_cases c2 : q = 1
    · by_cases c4 : a + g + q = e
      · simp [c11, c12, c2] at k ⊢
        rw [c2] at c4
        simp [e1, c4] at k ⊢
        exact k
      · rw [c2] at c4
        simp [e1, c4, c2, c11, c12] at k ⊢
        exact k
    · by_cases c3 : q = 3
      · by_cases c4 : a + g + q = e
        · rw [c3] at c4
          simp [e1, c4, c3, c11, c12] at k ⊢
          exact k
        · rw [c3] at c4
          simp [e1, c4, c3, c11, c12] at k ⊢
          exact k
      · simp [e1, c2, c3] at k ⊢
        exact k
  · have e1 : inB g 1 3 = false := by simp [inB]; omega
    have e2 : (decide (1 ≤ g) && decide (g ≤ 3)) = false := by simp; omega
    rw [e2] at k
    simp [e1] at k ⊢
    exact k
theorem q_isHalf (h : XC D S x A) {t : Int → Int} {len : Int} (hx : TX m t len) {a : Int} (ha : 0 ≤ a ∧ a + 3 ≤ len) (k : post (iI (bI (halfB t a))) (xS S x A m)) : wp_X12_isHalf D post (xS S x A m) x (iI a) := by
  have h5 := hx.1
  have i0 : vp_in (iI a) 500 := iI_in (by omega) (by omega) (by omega)
  have i1 : vp_in (iI (a + 1)) 500 := iI_in (by omega) (by omega) (by omega)
  have i2 : vp_in (iI (a + 2)) 500 := iI_in (by omega) (by omega) (by omega)
  have t0 := hx.2 a (by omega) (by omega)
  have t1 := hx.2 (a + 1) (by omega) (by omega)
  have t2 := hx.2 (a + 2) (by omega) (by omega)
  simp (discharger := first | decide | omega) only [x_own h, x_kd h, x_r h, x_m h, x_l h, x_k h, x_n h, x_i0, x_i h, x_u0 h, x_u h, xLen, xKd, nlit, iI_lit, iI_add, iI_sub, iI_mul, iI_neg, bI_z, bI_o, i10, i01, eq_self, bI_nar, nar_0, nar_1, up_at, up_f, Option.some.injEq, exists_eq_left', true_and, and_true, forall_eq, not_true_eq_false, not_false_eq_true, forall_const, false_implies, true_implies, Classical.not_not, if_true, if_false, Int.reduceEq, Int.reduceLT, Int.reduceLE, Int.reduceGT, Int.reduceGE, Int.reduceAdd, Int.reduceSub, Int.reduceMul, Int.reduceNeg, Int.reduceNe, wp_X12_isHalf, wp_X12_isHalf_0, wp_X12_isHalf_41, wp_X12_isHalf_42, eq_true i0, eq_true i1, eq_true i2]
  rw [t0.1, t1.1, t2.1, iI_eq (by omega) (by omega) (by decide) (by decide), iI_eq (by omega) (by omega) (by decide) (by decide), iI_eq (by omega) (by omega) (by decide) (by decide)]
  unfold halfB at k
  by_cases c1 : t a = 49
  · by_cases c2 : t (a + 1) = 47
    · by_cases c3 : t (a + 2) = 50
      · simpa [bI_t, bI_f, c1, c2, c3] using k
      · simpa [bI_t, bI_f, c1, c2, c3] using k
    · simpa [bI_t, bI_f, c1, c2] using k
  · simpa [bI_t, bI_f, c1] using k
theorem q_isResult (h : XC D S x A) {t : Int → Int} {len : Int} (hx : TX m t len) {a e : Int} (ha : 0 ≤ a ∧ a ≤ e) (he : e ≤ len) (k : post (iI (bI (resB t a e))) (xS S x A m)) : wp_X12_isResult D post (xS S x A m) x (iI a) (iI e) := by
  have h5 := hx.1
  simp (discharger := omega) only [nlit, iI_lit, iI_add, iI_sub, iI_mul, iI_neg, bI_z, bI_o, i10, i01, eq_self, bI_nar, nar_0, nar_1, bI_t, bI_f, Option.some.injEq, exists_eq_left', true_and, and_true, forall_eq, not_true_eq_false, not_false_eq_true, forall_const, false_implies, true_implies, Classical.not_not, if_true, if_false, Int.reduceEq, Int.reduceLT, Int.reduceLE, Int.reduceGT, Int.reduceGE, Int.reduceAdd, Int.reduceSub, Int.reduceMul, Int.reduceNeg, Int.reduceNe, Bool.true_and, Bool.and_true, Bool.false_and, Bool.and_false, BEq.rfl, Bool.true_eq_false, Bool.false_eq_true, wp_X12_isResult, wp_X12_isResult_0, iI_eq]
  unfold resB at k
  by_cases c1 : e - a = 1
  · rw [if_pos c1] at k
    have i0 : vp_in (iI a) 500 := iI_in (by omega) (by omega) (by omega)
    have t0 := hx.2 a (by omega) (by omega)
    simp (discharger := omega) only [nlit, iI_lit, iI_add, iI_sub, iI_mul, iI_neg, bI_z, bI_o, i10, i01, eq_self, bI_nar, nar_0, nar_1, bI_t, bI_f, Option.some.injEq, exists_eq_left', true_and, and_true, forall_eq, not_true_eq_false, not_false_eq_true, forall_const, false_implies, true_implies, Classical.not_not, if_true, if_false, Int.reduceEq, Int.reduceLT, Int.reduceLE, Int.reduceGT, Int.reduceGE, Int.reduceAdd, Int.reduceSub, Int.reduceMul, Int.reduceNeg, Int.reduceNe, Bool.true_and, Bool.and_true, Bool.false_and, Bool.and_false, BEq.rfl, Bool.true_eq_false, Bool.false_eq_true, c1]
    simp (discharger := first | decide | omega) only [x_own h, x_kd h, x_r h, x_m h, x_l h, x_k h, x_n h, x_i0, x_i h, x_u0 h, x_u h, xLen, xKd, nlit, iI_lit, iI_add, iI_sub, iI_mul, iI_neg, bI_z, bI_o, i10, i01, eq_self, bI_nar, nar_0, nar_1, up_at, up_f, Option.some.injEq, exists_eq_left', true_and, and_true, forall_eq, not_true_eq_false, not_false_eq_true, forall_const, false_implies, true_implies, Classical.not_not, if_true, if_false, Int.reduceEq, Int.reduceLT, Int.reduceLE, Int.reduceGT, Int.reduceGE, Int.reduceAdd, Int.reduceSub, Int.reduceMul, Int.reduceNeg, Int.reduceNe, eq_true i0, wp_X12_isResult_25]
    rw [t0.1, iI_eq (by omega) (by omega) (by decide) (by decide)]
    by_cases z : t a = 42
    · simpa [bI_t, bI_f, z] using k
    · simpa [bI_t, bI_f, z] using k
  · rw [if_neg c1] at k
    by_cases c3 : e - a = 3
    · rw [if_pos c3] at k
      have i0 : vp_in (iI a) 500 := iI_in (by omega) (by omega) (by omega)
      have i1 : vp_in (iI (a + 1)) 500 := iI_in (by omega) (by omega) (by omega)
      have i2 : vp_in (iI (a + 2)) 500 := iI_in (by omega) (by omega) (by omega)
      have t0 := hx.2 a (by omega) (by omega)
      have t1 := hx.2 (a + 1) (by omega) (by omega)
      have t2 := hx.2 (a + 2) (by omega) (by omega)
      simp (discharger := omega) only [nlit, iI_lit, iI_add, iI_sub, iI_mul, iI_neg, bI_z, bI_o, i10, i01, eq_self, bI_nar, nar_0, nar_1, bI_t, bI_f, Option.some.injEq, exists_eq_left', true_and, and_true, forall_eq, not_true_eq_false, not_false_eq_true, forall_const, false_implies, true_implies, Classical.not_not, if_true, if_false, Int.reduceEq, Int.reduceLT, Int.reduceLE, Int.reduceGT, Int.reduceGE, Int.reduceAdd, Int.reduceSub, Int.reduceMul, Int.reduceNeg, Int.reduceNe, Bool.true_and, Bool.and_true, Bool.false_and, Bool.and_false, BEq.rfl, Bool.true_eq_false, Bool.false_eq_true, c3]
      simp (discharger := first | decide | omega) only [x_own h, x_kd h, x_r h, x_m h, x_l h, x_k h, x_n h, x_i0, x_i h, x_u0 h, x_u h, xLen, xKd, nlit, iI_lit, iI_add, iI_sub, iI_mul, iI_neg, bI_z, bI_o, i10, i01, eq_self, bI_nar, nar_0, nar_1, up_at, up_f, Option.some.injEq, exists_eq_left', true_and, and_true, forall_eq, not_true_eq_false, not_false_eq_true, forall_const, false_implies, true_implies, Classical.not_not, if_true, if_false, Int.reduceEq, Int.reduceLT, Int.reduceLE, Int.reduceGT, Int.reduceGE, Int.reduceAdd, Int.reduceSub, Int.reduceMul, Int.reduceNeg, Int.reduceNe, eq_true i0, eq_true i1, eq_true i2, wp_X12_isResult_96, wp_X12_isResult_97, wp_X12_isResult_92, wp_X12_isResult_68]
      rw [t0.1, t1.1, t2.1, iI_eq (by omega) (by omega) (by decide) (by decide), iI_eq (by omega) (by omega) (by decide) (by decide), iI_eq (by omega) (by omega) (by decide) (by decide), iI_eq (by omega) (by omega) (by decide) (by decide), iI_eq (by omega) (by omega) (by decide) (by decide)]
      by_cases z1 : t (a + 1) = 45
      · by_cases z2 : t a = 49
        · by_cases z3 : t (a + 2) = 48
          · simpa [bI_t, bI_f, z1, z2, z3] using k
          · simpa [bI_t, bI_f, z1, z2, z3] using k
        · by_cases z4 : t a = 48
          · by_cases z3 : t (a + 2) = 49
            · simpa [bI_t, bI_f, z1, z4, z3] using k
            · simpa [bI_t, bI_f, z1, z4, z3] using k
          · simpa [bI_t, bI_f, z1, z2, z4] using k
      · simpa [bI_t, bI_f, z1] using k
    · rw [if_neg c3] at k
      by_cases c7 : e - a = 7
      · rw [if_pos c7] at k
        have i3 : vp_in (iI (a + 3)) 500 := iI_in (by omega) (by omega) (by omega)
        have t3 := hx.2 (a + 3) (by omega) (by omega)
        simp (discharger := omega) only [nlit, iI_lit, iI_add, iI_sub, iI_mul, iI_neg, bI_z, bI_o, i10, i01, eq_self, bI_nar, nar_0, nar_1, bI_t, bI_f, Option.some.injEq, exists_eq_left', true_and, and_true, forall_eq, not_true_eq_false, not_false_eq_true, forall_const, false_implies, true_implies, Classical.not_not, if_true, if_false, Int.reduceEq, Int.reduceLT, Int.reduceLE, Int.reduceGT, Int.reduceGE, Int.reduceAdd, Int.reduceSub, Int.reduceMul, Int.reduceNeg, Int.reduceNe, Bool.true_and, Bool.and_true, Bool.false_and, Bool.and_false, BEq.rfl, Bool.true_eq_false, Bool.false_eq_true, c7]
        refine q_isHalf h hx (by omega) ?_
        cases z1 : halfB t a
        · rw [z1] at k
          simp (discharger := omega) only [nlit, iI_lit, iI_add, iI_sub, iI_mul, iI_neg, bI_z, bI_o, i10, i01, eq_self, bI_nar, nar_0, nar_1, bI_t, bI_f, Option.some.injEq, exists_eq_left', true_and, and_true, forall_eq, not_true_eq_false, not_false_eq_true, forall_const, false_implies, true_implies, Classical.not_not, if_true, if_false, Int.reduceEq, Int.reduceLT, Int.reduceLE, Int.reduceGT, Int.reduceGE, Int.reduceAdd, Int.reduceSub, Int.reduceMul, Int.reduceNeg, Int.reduceNe, Bool.true_and, Bool.and_true, Bool.false_and, Bool.and_false, BEq.rfl, Bool.true_eq_false, Bool.false_eq_true, wp_X12_isResult_139, wp_X12_isResult_140]
          exact k
        · rw [z1] at k
          try simp (discharger := omega) only [nlit, iI_lit, iI_add, iI_sub, iI_mul, iI_neg, bI_z, bI_o, i10, i01, eq_self, bI_nar, nar_0, nar_1, bI_t, bI_f, Option.some.injEq, exists_eq_left', true_and, and_true, forall_eq, not_true_eq_false, not_false_eq_true, forall_const, false_implies, true_implies, Classical.not_not, if_true, if_false, Int.reduceEq, Int.reduceLT, Int.reduceLE, Int.reduceGT, Int.reduceGE, Int.reduceAdd, Int.reduceSub, Int.reduceMul, Int.reduceNeg, Int.reduceNe, Bool.true_and, Bool.and_true, Bool.false_and, Bool.and_false, BEq.rfl, Bool.true_eq_false, Bool.false_eq_true]
          simp (discharger := first | decide | omega) only [x_own h, x_kd h, x_r h, x_m h, x_l h, x_k h, x_n h, x_i0, x_i h, x_u0 h, x_u h, xLen, xKd, nlit, iI_lit, iI_add, iI_sub, iI_mul, iI_neg, bI_z, bI_o, i10, i01, eq_self, bI_nar, nar_0, nar_1, up_at, up_f, Option.some.injEq, exists_eq_left', true_and, and_true, forall_eq, not_true_eq_false, not_false_eq_true, forall_const, false_implies, true_implies, Classical.not_not, if_true, if_false, Int.reduceEq, Int.reduceLT, Int.reduceLE, Int.reduceGT, Int.reduceGE, Int.reduceAdd, Int.reduceSub, Int.reduceMul, Int.reduceNeg, Int.reduceNe, eq_true i3]
          rw [t3.1, iI_eq (by omega) (by omega) (by decide) (by decide)]
          by_cases z2 : t (a + 3) = 45
          · simp (discharger := omega) only [nlit, iI_lit, iI_add, iI_sub, iI_mul, iI_neg, bI_z, bI_o, i10, i01, eq_self, bI_nar, nar_0, nar_1, bI_t, bI_f, Option.some.injEq, exists_eq_left', true_and, and_true, forall_eq, not_true_eq_false, not_false_eq_true, forall_const, false_implies, true_implies, Classical.not_not, if_true, if_false, Int.reduceEq, Int.reduceLT, Int.reduceLE, Int.reduceGT, Int.reduceGE, Int.reduceAdd, Int.reduceSub, Int.reduceMul, Int.reduceNeg, Int.reduceNe, Bool.true_and, Bool.and_true, Bool.false_and, Bool.and_false, BEq.rfl, Bool.true_eq_false, Bool.false_eq_true, z2]
            refine q_isHalf h hx (by omega) ?_
            cases z3 : halfB t (a + 4)
            · rw [z3] at k
              simp (discharger := omega) only [nlit, iI_lit, iI_add, iI_sub, iI_mul, iI_neg, bI_z, bI_o, i10, i01, eq_self, bI_nar, nar_0, nar_1, bI_t, bI_f, Option.some.injEq, exists_eq_left', true_and, and_true, forall_eq, not_true_eq_false, not_false_eq_true, forall_const, false_implies, true_implies, Classical.not_not, if_true, if_false, Int.reduceEq, Int.reduceLT, Int.reduceLE, Int.reduceGT, Int.reduceGE, Int.reduceAdd, Int.reduceSub, Int.reduceMul, Int.reduceNeg, Int.reduceNe, Bool.true_and, Bool.and_true, Bool.false_and, Bool.and_false, BEq.rfl, Bool.true_eq_false, Bool.false_eq_true, wp_X12_isResult_139, wp_X12_isResult_140]
              simpa [bI_t, bI_f, z2] using k
            · rw [z3] at k
              simp (discharger := omega) only [nlit, iI_lit, iI_add, iI_sub, iI_mul, iI_neg, bI_z, bI_o, i10, i01, eq_self, bI_nar, nar_0, nar_1, bI_t, bI_f, Option.some.injEq, exists_eq_left', true_and, and_true, forall_eq, not_true_eq_false, not_false_eq_true, forall_const, false_implies, true_implies, Classical.not_not, if_true, if_false, Int.reduceEq, Int.reduceLT, Int.reduceLE, Int.reduceGT, Int.reduceGE, Int.reduceAdd, Int.reduceSub, Int.reduceMul, Int.reduceNeg, Int.reduceNe, Bool.true_and, Bool.and_true, Bool.false_and, Bool.and_false, BEq.rfl, Bool.true_eq_false, Bool.false_eq_true, wp_X12_isResult_140]
              simpa [bI_t, bI_f, z2] using k
          · simp (discharger := omega) only [nlit, iI_lit, iI_add, iI_sub, iI_mul, iI_neg, bI_z, bI_o, i10, i01, eq_self, bI_nar, nar_0, nar_1, bI_t, bI_f, Option.some.injEq, exists_eq_left', true_and, and_true, forall_eq, not_true_eq_false, not_false_eq_true, forall_const, false_implies, true_implies, Classical.not_not, if_true, if_false, Int.reduceEq, Int.reduceLT, Int.reduceLE, Int.reduceGT, Int.reduceGE, Int.reduceAdd, Int.reduceSub, Int.reduceMul, Int.reduceNeg, Int.reduceNe, Bool.true_and, Bool.and_true, Bool.false_and, Bool.and_false, BEq.rfl, Bool.true_eq_false, Bool.false_eq_true, z2, wp_X12_isResult_139, wp_X12_isResult_140]
            simpa [bI_t, bI_f, z2] using k
      · rw [if_neg c7] at k
        simp (discharger := omega) only [nlit, iI_lit, iI_add, iI_sub, iI_mul, iI_neg, bI_z, bI_o, i10, i01, eq_self, bI_nar, nar_0, nar_1, bI_t, bI_f, Option.some.injEq, exists_eq_left', true_and, and_true, forall_eq, not_true_eq_false, not_false_eq_true, forall_const, false_implies, true_implies, Classical.not_not, if_true, if_false, Int.reduceEq, Int.reduceLT, Int.reduceLE, Int.reduceGT, Int.reduceGE, Int.reduceAdd, Int.reduceSub, Int.reduceMul, Int.reduceNeg, Int.reduceNe, Bool.true_and, Bool.and_true, Bool.false_and, Bool.and_false, BEq.rfl, Bool.true_eq_false, Bool.false_eq_true, c1, c3, c7, wp_X12_isResult_139, wp_X12_isResult_140]
        exact k
end
