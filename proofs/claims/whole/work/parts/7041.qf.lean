/-- a byte of a long, from a place on -/
def byt (z : Int64) (sh : Int) : Int := (Int64.toInt32 ((jlshr z (iI sh)) &&& (255 : Int64))).toInt
theorem byt_i (z : Int64) (sh : Int) : Int64.toInt32 ((jlshr z (iI sh)) &&& (255 : Int64)) = iI (byt z sh) := (iI_of _).symm
theorem and255 (y : Int64) : 0 ≤ (Int64.toInt32 (y &&& 255)).toInt ∧ (Int64.toInt32 (y &&& 255)).toInt ≤ 255 := by
  have h1 : (Int64.toInt32 (y &&& 255)).toBitVec = (y.toBitVec &&& 255#64).setWidth 32 := by
    show (y &&& 255).toBitVec.signExtend 32 = _
    rw [BitVec.signExtend_eq_setWidth_of_le _ (by decide)]
    rfl
  have h2 : (y.toBitVec &&& 255#64).toNat ≤ 255 := by
    rw [BitVec.toNat_and]; exact Nat.and_le_right
  have h3 : (Int64.toInt32 (y &&& 255)).toInt = ((y.toBitVec &&& 255#64).toNat : Int) := by
    show (Int64.toInt32 (y &&& 255)).toBitVec.toInt = _
    rw [h1, BitVec.toInt_eq_toNat_cond, BitVec.toNat_setWidth, Nat.mod_eq_of_lt (by omega), if_pos (by omega)]
  rw [h3]
  omega
theorem byt_r (z : Int64) (sh : Int) : 0 ≤ byt z sh ∧ byt z sh ≤ 255 := and255 _
def tyN (z : Int64) : Nat → Int
  | 0 => 0
  | d + 1 => (if byt z (8 * d) = 0 then 0 else 1) + tyN z d
def tyOK (z : Int64) : Nat → Bool
  | 0 => true
  | d + 1 => (decide (byt z (8 * d) = 0) || inB (byt z (8 * d)) 32 126) && tyOK z d
/-- the text behind the bytes that are not 0 -/
def tyM (m : xM) (z : Int64) : Nat → xM
  | 0 => m
  | d + 1 => tyM (if byt z (8 * d) = 0 then m else up (up m 12 (m 50 13) (byt z (8 * d))) 50 13 (m 50 13 + 1)) z d
theorem tyN_r (z : Int64) : ∀ d : Nat, 0 ≤ tyN z d ∧ tyN z d ≤ d
  | 0 => by simp [tyN]
  | d + 1 => by have := tyN_r z d; unfold tyN; split <;> omega
theorem tyM_len (z : Int64) : ∀ (d : Nat) (m : xM), tyM m z d 50 13 = m 50 13 + tyN z d
  | 0, m => by simp [tyM, tyN]
  | d + 1, m => by
    unfold tyM tyN
    rw [tyM_len z d]
    split
    · omega
    · rw [up_at]; omega
section
variable {D : wD} {S : wS} {x : Nat} {A : Nat → Nat} {post : Int32 → wS → Prop}
theorem q_type_114 (h : XC D S x A) {z : Int64} : ∀ (n d : Nat) (m : xM), d < n → d ≤ 8 → (0 ≤ m 50 13 ∧ m 50 13 + tyN z d ≤ 500) → post (iI (tyM m z d 50 13)) (xS S x A (tyM m z d)) → wp_X12_type_114 D post n (xS S x A m) x z (iI (8 * d - 8)) := by
  intro n
  induction n with
  | zero => intro d m hd; omega
  | succ n ih =>
    intro d m hd h8 hl k
    unfold wp_X12_type_114
    rw [x_i0]
    simp (discharger := omega) only [nlit, iI_lit, iI_add, iI_sub, iI_mul, iI_neg, bI_z, bI_o, i10, i01, eq_self, bI_nar, nar_0, nar_1, bI_t, bI_f, Option.some.injEq, exists_eq_left', true_and, and_true, forall_eq, not_true_eq_false, not_false_eq_true, forall_const, false_implies, true_implies, Classical.not_not, if_true, if_false, Int.reduceEq, Int.reduceLT, Int.reduceLE, Int.reduceGT, Int.reduceGE, Int.reduceAdd, Int.reduceSub, Int.reduceMul, Int.reduceNeg, Int.reduceNe, Bool.true_and, Bool.and_true, Bool.false_and, Bool.and_false, BEq.rfl, Bool.true_eq_false, Bool.false_eq_true, byt_i, iI_lt]
    cases d with
    | zero =>
      have e : 8 * ((0 : Nat) : Int) - 8 < 0 := by decide
      unfold tyM at k
      simp only [e, true_implies, not_true_eq_false, false_implies, and_true]
      exact k
    | succ d =>
      have e : ¬ 8 * ((d + 1 : Nat) : Int) - 8 < 0 := by omega
      have e8 : 8 * ((d + 1 : Nat) : Int) - 8 = 8 * d := by omega
      have r := byt_r z (8 * d)
      simp only [e, false_implies, not_false_eq_true, true_implies, true_and]
      rw [e8]
      unfold tyM at k
      unfold tyN at hl
      have tn := tyN_r z d
      rw [iI_eq (by omega) (by omega) (by decide) (by decide)]
      have nx : ∀ m1, (0 ≤ m1 50 13 ∧ m1 50 13 + tyN z d ≤ 500) → post (iI (tyM m1 z d 50 13)) (xS S x A (tyM m1 z d)) → wp_X12_type_156 D post (wp_X12_type_114 D post n) (xS S x A m1) x z (iI (8 * d)) := by
        intro m1 q1 q2
        simp (discharger := omega) only [nlit, iI_lit, iI_add, iI_sub, iI_mul, iI_neg, bI_z, bI_o, i10, i01, eq_self, bI_nar, nar_0, nar_1, bI_t, bI_f, Option.some.injEq, exists_eq_left', true_and, and_true, forall_eq, not_true_eq_false, not_false_eq_true, forall_const, false_implies, true_implies, Classical.not_not, if_true, if_false, Int.reduceEq, Int.reduceLT, Int.reduceLE, Int.reduceGT, Int.reduceGE, Int.reduceAdd, Int.reduceSub, Int.reduceMul, Int.reduceNeg, Int.reduceNe, Bool.true_and, Bool.and_true, Bool.false_and, Bool.and_false, BEq.rfl, Bool.true_eq_false, Bool.false_eq_true, wp_X12_type_156]
        exact ih d m1 (by omega) (by omega) q1 q2
      by_cases c : byt z (8 * d) = 0
      · rw [if_pos c] at k hl
        simp (discharger := omega) only [nlit, iI_lit, iI_add, iI_sub, iI_mul, iI_neg, bI_z, bI_o, i10, i01, eq_self, bI_nar, nar_0, nar_1, bI_t, bI_f, Option.some.injEq, exists_eq_left', true_and, and_true, forall_eq, not_true_eq_false, not_false_eq_true, forall_const, false_implies, true_implies, Classical.not_not, if_true, if_false, Int.reduceEq, Int.reduceLT, Int.reduceLE, Int.reduceGT, Int.reduceGE, Int.reduceAdd, Int.reduceSub, Int.reduceMul, Int.reduceNeg, Int.reduceNe, Bool.true_and, Bool.and_true, Bool.false_and, Bool.and_false, BEq.rfl, Bool.true_eq_false, Bool.false_eq_true, c]
        exact nx m (by omega) k
      · rw [if_neg c] at k hl
        simp (discharger := omega) only [nlit, iI_lit, iI_add, iI_sub, iI_mul, iI_neg, bI_z, bI_o, i10, i01, eq_self, bI_nar, nar_0, nar_1, bI_t, bI_f, Option.some.injEq, exists_eq_left', true_and, and_true, forall_eq, not_true_eq_false, not_false_eq_true, forall_const, false_implies, true_implies, Classical.not_not, if_true, if_false, Int.reduceEq, Int.reduceLT, Int.reduceLE, Int.reduceGT, Int.reduceGE, Int.reduceAdd, Int.reduceSub, Int.reduceMul, Int.reduceNeg, Int.reduceNe, Bool.true_and, Bool.and_true, Bool.false_and, Bool.and_false, BEq.rfl, Bool.true_eq_false, Bool.false_eq_true, c]
        have i5 : vp_in (iI (m 50 13)) 500 := iI_in (by omega) (by omega) (by omega)
        have e13 : up m 12 (m 50 13) (byt z (8 * d)) 50 13 = m 50 13 := up_f m _ _ _ rfl
        simp (discharger := first | decide | omega) only [x_own h, x_kd h, x_r h, x_m h, x_l h, x_k h, x_n h, x_i0, x_i h, x_u0 h, x_u h, xLen, xKd, nlit, iI_lit, iI_add, iI_sub, iI_mul, iI_neg, bI_z, bI_o, i10, i01, eq_self, bI_nar, nar_0, nar_1, up_at, up_f, Option.some.injEq, exists_eq_left', true_and, and_true, forall_eq, not_true_eq_false, not_false_eq_true, forall_const, false_implies, true_implies, Classical.not_not, if_true, if_false, Int.reduceEq, Int.reduceLT, Int.reduceLE, Int.reduceGT, Int.reduceGE, Int.reduceAdd, Int.reduceSub, Int.reduceMul, Int.reduceNeg, Int.reduceNe, eq_true i5]
        refine nx _ (by rw [up_at]; omega) k
theorem q_type_9 (h : XC D S x A) {z : Int64} {m : xM} (hl : 0 ≤ m 50 13 ∧ m 50 13 ≤ 500)
    (k0 : tyOK z 8 = false → post (iI 0) (xS S x A (up m 50 0 1)))
    (k1 : tyOK z 8 = true → 500 < m 50 13 + tyN z 8 → post (iI 0) (xS S x A (up m 50 0 2)))
    (k2 : tyOK z 8 = true → ¬ 500 < m 50 13 + tyN z 8 → post (iI (m 50 13 + tyN z 8)) (xS S x A (tyM (up m 50 0 0) z 8))) :
    ∀ (n d : Nat) (many : Int) (are : Bool), d < n → d ≤ 8 → (0 ≤ many ∧ many + tyN z d = tyN z 8) → (are && tyOK z d) = tyOK z 8 → wp_X12_type_9 D post n (xS S x A m) x z (iI many) (iI (bI are)) (iI (8 * d - 8)) := by
  have t8 := tyN_r z 8
  intro n
  induction n with
  | zero => intro d many are hd; omega
  | succ n ih =>
    intro d many are hd h8 hmany hare
    have tn := tyN_r z d
    unfold wp_X12_type_9
    simp (discharger := omega) only [nlit, iI_lit, iI_add, iI_sub, iI_mul, iI_neg, bI_z, bI_o, i10, i01, eq_self, bI_nar, nar_0, nar_1, bI_t, bI_f, Option.some.injEq, exists_eq_left', true_and, and_true, forall_eq, not_true_eq_false, not_false_eq_true, forall_const, false_implies, true_implies, Classical.not_not, if_true, if_false, Int.reduceEq, Int.reduceLT, Int.reduceLE, Int.reduceGT, Int.reduceGE, Int.reduceAdd, Int.reduceSub, Int.reduceMul, Int.reduceNeg, Int.reduceNe, Bool.true_and, Bool.and_true, Bool.false_and, Bool.and_false, BEq.rfl, Bool.true_eq_false, Bool.false_eq_true, byt_i, iI_lt]
    cases d with
    | zero =>
      have e : 8 * ((0 : Nat) : Int) - 8 < 0 := by decide
      simp only [e, true_implies, not_true_eq_false, false_implies, and_true]
      rw [show tyOK z 0 = true from rfl, Bool.and_true] at hare
      rw [show tyN z 0 = 0 from rfl] at hmany
      rw [q_can h]
      simp (discharger := omega) only [nlit, iI_lit, iI_add, iI_sub, iI_mul, iI_neg, bI_z, bI_o, i10, i01, eq_self, bI_nar, nar_0, nar_1, bI_t, bI_f, Option.some.injEq, exists_eq_left', true_and, and_true, forall_eq, not_true_eq_false, not_false_eq_true, forall_const, false_implies, true_implies, Classical.not_not, if_true, if_false, Int.reduceEq, Int.reduceLT, Int.reduceLE, Int.reduceGT, Int.reduceGE, Int.reduceAdd, Int.reduceSub, Int.reduceMul, Int.reduceNeg, Int.reduceNe, Bool.true_and, Bool.and_true, Bool.false_and, Bool.and_false, BEq.rfl, Bool.true_eq_false, Bool.false_eq_true, wp_X12_type_108]
      cases are
      · simp (discharger := omega) only [nlit, iI_lit, iI_add, iI_sub, iI_mul, iI_neg, bI_z, bI_o, i10, i01, eq_self, bI_nar, nar_0, nar_1, bI_t, bI_f, Option.some.injEq, exists_eq_left', true_and, and_true, forall_eq, not_true_eq_false, not_false_eq_true, forall_const, false_implies, true_implies, Classical.not_not, if_true, if_false, Int.reduceEq, Int.reduceLT, Int.reduceLE, Int.reduceGT, Int.reduceGE, Int.reduceAdd, Int.reduceSub, Int.reduceMul, Int.reduceNeg, Int.reduceNe, Bool.true_and, Bool.and_true, Bool.false_and, Bool.and_false, BEq.rfl, Bool.true_eq_false, Bool.false_eq_true]
        exact k0 hare.symm
      · have k1 := k1 hare.symm
        have k2 := k2 hare.symm
        have e13 : up m 50 0 0 50 13 = m 50 13 := up_ne m (Or.inr (by decide))
        try simp (discharger := omega) only [nlit, iI_lit, iI_add, iI_sub, iI_mul, iI_neg, bI_z, bI_o, i10, i01, eq_self, bI_nar, nar_0, nar_1, bI_t, bI_f, Option.some.injEq, exists_eq_left', true_and, and_true, forall_eq, not_true_eq_false, not_false_eq_true, forall_const, false_implies, true_implies, Classical.not_not, if_true, if_false, Int.reduceEq, Int.reduceLT, Int.reduceLE, Int.reduceGT, Int.reduceGE, Int.reduceAdd, Int.reduceSub, Int.reduceMul, Int.reduceNeg, Int.reduceNe, Bool.true_and, Bool.and_true, Bool.false_and, Bool.and_false, BEq.rfl, Bool.true_eq_false, Bool.false_eq_true]
        rw [cn_true, x_i0]
        simp (discharger := omega) only [nlit, iI_lit, iI_add, iI_sub, iI_mul, iI_neg, bI_z, bI_o, i10, i01, eq_self, bI_nar, nar_0, nar_1, bI_t, bI_f, Option.some.injEq, exists_eq_left', true_and, and_true, forall_eq, not_true_eq_false, not_false_eq_true, forall_const, false_implies, true_implies, Classical.not_not, if_true, if_false, Int.reduceEq, Int.reduceLT, Int.reduceLE, Int.reduceGT, Int.reduceGE, Int.reduceAdd, Int.reduceSub, Int.reduceMul, Int.reduceNeg, Int.reduceNe, Bool.true_and, Bool.and_true, Bool.false_and, Bool.and_false, BEq.rfl, Bool.true_eq_false, Bool.false_eq_true, e13]
        rw [iI_lt (by omega) (by omega) (by omega) (by omega)]
        by_cases c : 500 < m 50 13 + tyN z 8
        · have : 500 < m 50 13 + many := by omega
          simp (discharger := omega) only [nlit, iI_lit, iI_add, iI_sub, iI_mul, iI_neg, bI_z, bI_o, i10, i01, eq_self, bI_nar, nar_0, nar_1, bI_t, bI_f, Option.some.injEq, exists_eq_left', true_and, and_true, forall_eq, not_true_eq_false, not_false_eq_true, forall_const, false_implies, true_implies, Classical.not_not, if_true, if_false, Int.reduceEq, Int.reduceLT, Int.reduceLE, Int.reduceGT, Int.reduceGE, Int.reduceAdd, Int.reduceSub, Int.reduceMul, Int.reduceNeg, Int.reduceNe, Bool.true_and, Bool.and_true, Bool.false_and, Bool.and_false, BEq.rfl, Bool.true_eq_false, Bool.false_eq_true, this, wp_X12_type_101]
          rw [q_can0 h, up_up]
          simp (discharger := omega) only [nlit, iI_lit, iI_add, iI_sub, iI_mul, iI_neg, bI_z, bI_o, i10, i01, eq_self, bI_nar, nar_0, nar_1, bI_t, bI_f, Option.some.injEq, exists_eq_left', true_and, and_true, forall_eq, not_true_eq_false, not_false_eq_true, forall_const, false_implies, true_implies, Classical.not_not, if_true, if_false, Int.reduceEq, Int.reduceLT, Int.reduceLE, Int.reduceGT, Int.reduceGE, Int.reduceAdd, Int.reduceSub, Int.reduceMul, Int.reduceNeg, Int.reduceNe, Bool.true_and, Bool.and_true, Bool.false_and, Bool.and_false, BEq.rfl, Bool.true_eq_false, Bool.false_eq_true, wp_X12_type_108]
          exact k1 c
        · have k2 := k2 c
          have : ¬ 500 < m 50 13 + many := by omega
          simp (discharger := omega) only [nlit, iI_lit, iI_add, iI_sub, iI_mul, iI_neg, bI_z, bI_o, i10, i01, eq_self, bI_nar, nar_0, nar_1, bI_t, bI_f, Option.some.injEq, exists_eq_left', true_and, and_true, forall_eq, not_true_eq_false, not_false_eq_true, forall_const, false_implies, true_implies, Classical.not_not, if_true, if_false, Int.reduceEq, Int.reduceLT, Int.reduceLE, Int.reduceGT, Int.reduceGE, Int.reduceAdd, Int.reduceSub, Int.reduceMul, Int.reduceNeg, Int.reduceNe, Bool.true_and, Bool.and_true, Bool.false_and, Bool.and_false, BEq.rfl, Bool.true_eq_false, Bool.false_eq_true, this, wp_X12_type_101]
          rw [q_can1 h, up_up]
          try simp (discharger := omega) only [nlit, iI_lit, iI_add, iI_sub, iI_mul, iI_neg, bI_z, bI_o, i10, i01, eq_self, bI_nar, nar_0, nar_1, bI_t, bI_f, Option.some.injEq, exists_eq_left', true_and, and_true, forall_eq, not_true_eq_false, not_false_eq_true, forall_const, false_implies, true_implies, Classical.not_not, if_true, if_false, Int.reduceEq, Int.reduceLT, Int.reduceLE, Int.reduceGT, Int.reduceGE, Int.reduceAdd, Int.reduceSub, Int.reduceMul, Int.reduceNeg, Int.reduceNe, Bool.true_and, Bool.and_true, Bool.false_and, Bool.and_false, BEq.rfl, Bool.true_eq_false, Bool.false_eq_true]
          refine ⟨9, ?_⟩
          have q := q_type_114 (post := post) (z := z) h 9 8 (up m 50 0 0) (by decide) (by decide) (by rw [e13]; omega) (by rw [tyM_len, e13]; exact k2)
          exact q
    | succ d =>
      have e : ¬ 8 * ((d + 1 : Nat) : Int) - 8 < 0 := by omega
      have e8 : 8 * ((d + 1 : Nat) : Int) - 8 = 8 * d := by omega
      have r := byt_r z (8 * d)
      simp only [e, false_implies, not_false_eq_true, true_implies, true_and]
      rw [e8]
      rw [show tyN z (d + 1) = (if byt z (8 * d) = 0 then 0 else 1) + tyN z d from rfl] at hmany
      rw [show tyOK z (d + 1) = ((decide (byt z (8 * d) = 0) || inB (byt z (8 * d)) 32 126) && tyOK z d) from rfl, ← Bool.and_assoc] at hare
      have k52 : ∀ a', a' = (are && (decide (byt z (8 * d) = 0) || inB (byt z (8 * d)) 32 126)) → wp_X12_type_52 D post (wp_X12_type_9 D post n) (xS S x A m) x z (iI many) (iI (8 * d)) (iI (byt z (8 * d))) (iI (bI a')) := by
        intro a' ha
        rw [← ha] at hare
        simp (discharger := omega) only [nlit, iI_lit, iI_add, iI_sub, iI_mul, iI_neg, bI_z, bI_o, i10, i01, eq_self, bI_nar, nar_0, nar_1, bI_t, bI_f, Option.some.injEq, exists_eq_left', true_and, and_true, forall_eq, not_true_eq_false, not_false_eq_true, forall_const, false_implies, true_implies, Classical.not_not, if_true, if_false, Int.reduceEq, Int.reduceLT, Int.reduceLE, Int.reduceGT, Int.reduceGE, Int.reduceAdd, Int.reduceSub, Int.reduceMul, Int.reduceNeg, Int.reduceNe, Bool.true_and, Bool.and_true, Bool.false_and, Bool.and_false, BEq.rfl, Bool.true_eq_false, Bool.false_eq_true, wp_X12_type_52, wp_X12_type_65]
        rw [iI_eq (by omega) (by omega) (by decide) (by decide)]
        by_cases c : byt z (8 * d) = 0
        · rw [if_pos c] at hmany
          simp (discharger := omega) only [nlit, iI_lit, iI_add, iI_sub, iI_mul, iI_neg, bI_z, bI_o, i10, i01, eq_self, bI_nar, nar_0, nar_1, bI_t, bI_f, Option.some.injEq, exists_eq_left', true_and, and_true, forall_eq, not_true_eq_false, not_false_eq_true, forall_const, false_implies, true_implies, Classical.not_not, if_true, if_false, Int.reduceEq, Int.reduceLT, Int.reduceLE, Int.reduceGT, Int.reduceGE, Int.reduceAdd, Int.reduceSub, Int.reduceMul, Int.reduceNeg, Int.reduceNe, Bool.true_and, Bool.and_true, Bool.false_and, Bool.and_false, BEq.rfl, Bool.true_eq_false, Bool.false_eq_true, c, Int.add_zero]
          exact ih d many a' (by omega) (by omega) (by omega) hare
        · rw [if_neg c] at hmany
          simp (discharger := omega) only [nlit, iI_lit, iI_add, iI_sub, iI_mul, iI_neg, bI_z, bI_o, i10, i01, eq_self, bI_nar, nar_0, nar_1, bI_t, bI_f, Option.some.injEq, exists_eq_left', true_and, and_true, forall_eq, not_true_eq_false, not_false_eq_true, forall_const, false_implies, true_implies, Classical.not_not, if_true, if_false, Int.reduceEq, Int.reduceLT, Int.reduceLE, Int.reduceGT, Int.reduceGE, Int.reduceAdd, Int.reduceSub, Int.reduceMul, Int.reduceNeg, Int.reduceNe, Bool.true_and, Bool.and_true, Bool.false_and, Bool.and_false, BEq.rfl, Bool.true_eq_false, Bool.false_eq_true, c]
          exact ih d (many + 1) a' (by omega) (by omega) (by omega) hare
      simp (discharger := omega) only [nlit, iI_lit, iI_add, iI_sub, iI_mul, iI_neg, bI_z, bI_o, i10, i01, eq_self, bI_nar, nar_0, nar_1, bI_t, bI_f, Option.some.injEq, exists_eq_left', true_and, and_true, forall_eq, not_true_eq_false, not_false_eq_true, forall_const, false_implies, true_implies, Classical.not_not, if_true, if_false, Int.reduceEq, Int.reduceLT, Int.reduceLE, Int.reduceGT, Int.reduceGE, Int.reduceAdd, Int.reduceSub, Int.reduceMul, Int.reduceNeg, Int.reduceNe, Bool.true_and, Bool.and_true, Bool.false_and, Bool.and_false, BEq.rfl, Bool.true_eq_false, Bool.false_eq_true, wp_X12_type_51, wp_X12_type_47]
      rw [iI_eq (by omega) (by omega) (by decide) (by decide)]
      cases are
      · simp (discharger := omega) only [nlit, iI_lit, iI_add, iI_sub, iI_mul, iI_neg, bI_z, bI_o, i10, i01, eq_self, bI_nar, nar_0, nar_1, bI_t, bI_f, Option.some.injEq, exists_eq_left', true_and, and_true, forall_eq, not_true_eq_false, not_false_eq_true, forall_const, false_implies, true_implies, Classical.not_not, if_true, if_false, Int.reduceEq, Int.reduceLT, Int.reduceLE, Int.reduceGT, Int.reduceGE, Int.reduceAdd, Int.reduceSub, Int.reduceMul, Int.reduceNeg, Int.reduceNe, Bool.true_and, Bool.and_true, Bool.false_and, Bool.and_false, BEq.rfl, Bool.true_eq_false, Bool.false_eq_true]
        exact k52 false (by simp)
      · simp (discharger := omega) only [nlit, iI_lit, iI_add, iI_sub, iI_mul, iI_neg, bI_z, bI_o, i10, i01, eq_self, bI_nar, nar_0, nar_1, bI_t, bI_f, Option.some.injEq, exists_eq_left', true_and, and_true, forall_eq, not_true_eq_false, not_false_eq_true, forall_const, false_implies, true_implies, Classical.not_not, if_true, if_false, Int.reduceEq, Int.reduceLT, Int.reduceLE, Int.reduceGT, Int.reduceGE, Int.reduceAdd, Int.reduceSub, Int.reduceMul, Int.reduceNeg, Int.reduceNe, Bool.true_and, Bool.and_true, Bool.false_and, Bool.and_false, BEq.rfl, Bool.true_eq_false, Bool.false_eq_true]
        by_cases c : byt z (8 * d) = 0
        · simp (discharger := omega) only [nlit, iI_lit, iI_add, iI_sub, iI_mul, iI_neg, bI_z, bI_o, i10, i01, eq_self, bI_nar, nar_0, nar_1, bI_t, bI_f, Option.some.injEq, exists_eq_left', true_and, and_true, forall_eq, not_true_eq_false, not_false_eq_true, forall_const, false_implies, true_implies, Classical.not_not, if_true, if_false, Int.reduceEq, Int.reduceLT, Int.reduceLE, Int.reduceGT, Int.reduceGE, Int.reduceAdd, Int.reduceSub, Int.reduceMul, Int.reduceNeg, Int.reduceNe, Bool.true_and, Bool.and_true, Bool.false_and, Bool.and_false, BEq.rfl, Bool.true_eq_false, Bool.false_eq_true, c]
          have := k52 true (by simp [c])
          rw [c] at this
          exact this
        · simp (discharger := omega) only [nlit, iI_lit, iI_add, iI_sub, iI_mul, iI_neg, bI_z, bI_o, i10, i01, eq_self, bI_nar, nar_0, nar_1, bI_t, bI_f, Option.some.injEq, exists_eq_left', true_and, and_true, forall_eq, not_true_eq_false, not_false_eq_true, forall_const, false_implies, true_implies, Classical.not_not, if_true, if_false, Int.reduceEq, Int.reduceLT, Int.reduceLE, Int.reduceGT, Int.reduceGE, Int.reduceAdd, Int.reduceSub, Int.reduceMul, Int.reduceNeg, Int.reduceNe, Bool.true_and, Bool.and_true, Bool.false_and, Bool.and_false, BEq.rfl, Bool.true_eq_false, Bool.false_eq_true, c]
          rw [q_in ⟨by omega, by omega⟩ (by decide) (by decide)]
          try simp (discharger := omega) only [nlit, iI_lit, iI_add, iI_sub, iI_mul, iI_neg, bI_z, bI_o, i10, i01, eq_self, bI_nar, nar_0, nar_1, bI_t, bI_f, Option.some.injEq, exists_eq_left', true_and, and_true, forall_eq, not_true_eq_false, not_false_eq_true, forall_const, false_implies, true_implies, Classical.not_not, if_true, if_false, Int.reduceEq, Int.reduceLT, Int.reduceLE, Int.reduceGT, Int.reduceGE, Int.reduceAdd, Int.reduceSub, Int.reduceMul, Int.reduceNeg, Int.reduceNe, Bool.true_and, Bool.and_true, Bool.false_and, Bool.and_false, BEq.rfl, Bool.true_eq_false, Bool.false_eq_true]
          cases c2 : inB (byt z (8 * d)) 32 126
          · simp (discharger := omega) only [nlit, iI_lit, iI_add, iI_sub, iI_mul, iI_neg, bI_z, bI_o, i10, i01, eq_self, bI_nar, nar_0, nar_1, bI_t, bI_f, Option.some.injEq, exists_eq_left', true_and, and_true, forall_eq, not_true_eq_false, not_false_eq_true, forall_const, false_implies, true_implies, Classical.not_not, if_true, if_false, Int.reduceEq, Int.reduceLT, Int.reduceLE, Int.reduceGT, Int.reduceGE, Int.reduceAdd, Int.reduceSub, Int.reduceMul, Int.reduceNeg, Int.reduceNe, Bool.true_and, Bool.and_true, Bool.false_and, Bool.and_false, BEq.rfl, Bool.true_eq_false, Bool.false_eq_true]
            exact k52 false (by simp [c, c2])
          · simp (discharger := omega) only [nlit, iI_lit, iI_add, iI_sub, iI_mul, iI_neg, bI_z, bI_o, i10, i01, eq_self, bI_nar, nar_0, nar_1, bI_t, bI_f, Option.some.injEq, exists_eq_left', true_and, and_true, forall_eq, not_true_eq_false, not_false_eq_true, forall_const, false_implies, true_implies, Classical.not_not, if_true, if_false, Int.reduceEq, Int.reduceLT, Int.reduceLE, Int.reduceGT, Int.reduceGE, Int.reduceAdd, Int.reduceSub, Int.reduceMul, Int.reduceNeg, Int.reduceNe, Bool.true_and, Bool.and_true, Bool.false_and, Bool.and_false, BEq.rfl, Bool.true_eq_false, Bool.false_eq_true]
            exact k52 true (by simp [c2])
theorem q_type (h : XC D S x A) {z : Int64} {m : xM} (hl : 0 ≤ m 50 13 ∧ m 50 13 ≤ 500)
    (k0 : tyOK z 8 = false → post (iI 0) (xS S x A (up m 50 0 1)))
    (k1 : tyOK z 8 = true → 500 < m 50 13 + tyN z 8 → post (iI 0) (xS S x A (up m 50 0 2)))
    (k2 : tyOK z 8 = true → ¬ 500 < m 50 13 + tyN z 8 → post (iI (m 50 13 + tyN z 8)) (xS S x A (tyM (up m 50 0 0) z 8))) : wp_X12_type D post (xS S x A m) x z := by
  unfold wp_X12_type wp_X12_type_0
  refine ⟨9, ?_⟩
  have q := q_type_9 (post := post) h hl k0 k1 k2 9 8 0 true (by decide) (by decide) (by omega) (by simp)
  rw [bI_t, show (8 * ((8 : Nat) : Int) - 8) = 56 from rfl] at q
  try simp (discharger := omega) only [nlit, iI_lit, iI_add, iI_sub, iI_mul, iI_neg, bI_z, bI_o, i10, i01, eq_self, bI_nar, nar_0, nar_1, bI_t, bI_f, Option.some.injEq, exists_eq_left', true_and, and_true, forall_eq, not_true_eq_false, not_false_eq_true, forall_const, false_implies, true_implies, Classical.not_not, if_true, if_false, Int.reduceEq, Int.reduceLT, Int.reduceLE, Int.reduceGT, Int.reduceGE, Int.reduceAdd, Int.reduceSub, Int.reduceMul, Int.reduceNeg, Int.reduceNe, Bool.true_and, Bool.and_true, Bool.false_and, Bool.and_false, BEq.rfl, Bool.true_eq_false, Bool.false_eq_true]
  exact q
end
