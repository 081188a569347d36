/-- the numbers that an int holds -/
abbrev i32 (z : Int) : Prop := -2147483648 ≤ z ∧ z < 2147483648
theorem toInt_i32 (z : Int32) : i32 z.toInt := ⟨Int32.le_toInt z, by have := Int32.toInt_lt z; omega⟩
def inB (v a b : Int) : Bool := decide (a ≤ v) && decide (v ≤ b)
/-- a position of the present game; the present one -/
def gv (m : xM) (k : Int) : Int → Int := vec m 8 (67 * k)
def pv (m : xM) : Int → Int := gv m (m 50 11)
def cn (m : xM) (w : Int) (b : Bool) : xM := up m 50 0 (if b then 0 else w)
/-- the present position comes to level 0 -/
def ldm (m : xM) : xM := putV m (67 * 0) (pv m)
abbrev RG (m : xM) (F R : Int) : Prop := XB m F R ∧ (0 ≤ m 50 11 ∧ m 50 11 ≤ 80) ∧ ∀ k, 0 ≤ k → k ≤ m 50 11 → okV F R (gv m k)
abbrev mvOK (F R : Int) (v : Int → Int) : Prop := goodG F R v ∧ (movesL F R v).length ≤ 320
theorem vec_clV (m : xM) (f : Nat) (a : Int) : clV (vec m f a) := fun k h => if_neg h
theorem cpy_vec (m : xM) (f : Nat) (a w : Int) : cpy m f a 3 w 67 = putV m w (vec m f a) := by
  funext r j
  unfold cpy putV vec
  by_cases c : r = 3 ∧ w ≤ j ∧ j < w + 67
  · rw [if_pos c, if_pos c, if_pos (by omega)]
  · rw [if_neg c, if_neg c]
theorem ldm_f (m : xM) {r : Nat} (j : Int) (h : (r == 3) = false) : ldm m r j = m r j := putV_f m _ _ j h
theorem ldm_lv (m : xM) : lv (ldm m) 0 = pv m := lv_putV m (vec_clV _ _ _)
theorem cn_f (m : xM) {w : Int} {b : Bool} {r : Nat} (j : Int) (h : (r == 50) = false) : cn m w b r j = m r j := up_f m 0 j _ h
theorem cn_r (m : xM) {w : Int} {b : Bool} {r : Nat} (h : (r == 50) = false) : cn m w b r = m r := up_r m 0 _ h
theorem cn_50 (m : xM) {w : Int} {b : Bool} {j : Int} (h : j ≠ 0) : cn m w b 50 j = m 50 j := up_ne m (Or.inr h)
theorem vec_row {m m1 : xM} {f : Nat} (h : m1 f = m f) (a : Int) : vec m1 f a = vec m f a := by
  funext k; unfold vec; rw [h]
section
variable {D : wD} {S : wS} {x : Nat} {A : Nat → Nat} {m : xM} {F R : Int} {post : Int32 → wS → Prop}
theorem RG.b (h : RG m F R) : XB m F R := h.1
theorem RG.m0 (h : RG m F R) : 0 ≤ m 50 11 ∧ m 50 11 ≤ 80 := h.2.1
theorem RG.v (h : RG m F R) : ∀ k, 0 ≤ k → k ≤ m 50 11 → okV F R (gv m k) := h.2.2
theorem RG.pv (h : RG m F R) : okV F R (pv m) := h.v _ h.m0.1 (by omega)
theorem XB.cn {w : Int} {b : Bool} (hB : XB m F R) : XB (cn m w b) F R := ⟨by rw [cn_50 m (by decide)]; exact hB.f, by rw [cn_50 m (by decide)]; exact hB.r, hB.f4, hB.f8, hB.r4, hB.r8⟩
theorem XB.ldm (hB : XB m F R) : XB (ldm m) F R := hB.put _ _
theorem RG.cn {w : Int} {b : Bool} (h : RG m F R) : RG (cn m w b) F R := by
  refine ⟨h.b.cn, by rw [cn_50 m (by decide)]; exact h.m0, fun k h1 h2 => ?_⟩
  rw [cn_50 m (by decide)] at h2
  have : gv (Jvm.Pilot.COpeningsCabinetLaw_law_r5693_3db0e9.cn m w b) k = gv m k := vec_row (cn_r m rfl) _
  rw [this]; exact h.v k h1 h2
theorem q_in {U : wS} {v a b : Int} (hv : i32 v) (ha : i32 a) (hb : i32 b) : wp_X12_in D post U (iI v) (iI a) (iI b) = post (iI (bI (inB v a b))) U := by
  unfold wp_X12_in wp_X12_in_0 inB
  simp (discharger := omega) only [nlit, iI_lit, iI_add, iI_sub, iI_mul, iI_neg, bI_z, bI_o, i10, i01, eq_self, bI_nar, nar_0, nar_1, bI_t, bI_f, Option.some.injEq, exists_eq_left', true_and, and_true, forall_eq, not_true_eq_false, not_false_eq_true, forall_const, false_implies, true_implies, Classical.not_not, if_true, if_false, Int.reduceEq, Int.reduceLT, Int.reduceLE, Int.reduceGT, Int.reduceGE, Int.reduceAdd, Int.reduceSub, Int.reduceMul, Int.reduceNeg, Int.reduceNe, Bool.true_and, Bool.and_true, Bool.false_and, Bool.and_false, BEq.rfl, Bool.true_eq_false, Bool.false_eq_true, iI_lt, wp_X12_in_14, wp_X12_in_15]
  by_cases c1 : v < a
  · have : ¬ a ≤ v := by omega
    simp (discharger := omega) only [nlit, iI_lit, iI_add, iI_sub, iI_mul, iI_neg, bI_z, bI_o, i10, i01, eq_self, bI_nar, nar_0, nar_1, bI_t, bI_f, Option.some.injEq, exists_eq_left', true_and, and_true, forall_eq, not_true_eq_false, not_false_eq_true, forall_const, false_implies, true_implies, Classical.not_not, if_true, if_false, Int.reduceEq, Int.reduceLT, Int.reduceLE, Int.reduceGT, Int.reduceGE, Int.reduceAdd, Int.reduceSub, Int.reduceMul, Int.reduceNeg, Int.reduceNe, Bool.true_and, Bool.and_true, Bool.false_and, Bool.and_false, BEq.rfl, Bool.true_eq_false, Bool.false_eq_true, c1, this, decide_false]
  · have h1 : a ≤ v := by omega
    by_cases c2 : b < v
    · have : ¬ v ≤ b := by omega
      simp (discharger := omega) only [nlit, iI_lit, iI_add, iI_sub, iI_mul, iI_neg, bI_z, bI_o, i10, i01, eq_self, bI_nar, nar_0, nar_1, bI_t, bI_f, Option.some.injEq, exists_eq_left', true_and, and_true, forall_eq, not_true_eq_false, not_false_eq_true, forall_const, false_implies, true_implies, Classical.not_not, if_true, if_false, Int.reduceEq, Int.reduceLT, Int.reduceLE, Int.reduceGT, Int.reduceGE, Int.reduceAdd, Int.reduceSub, Int.reduceMul, Int.reduceNeg, Int.reduceNe, Bool.true_and, Bool.and_true, Bool.false_and, Bool.and_false, BEq.rfl, Bool.true_eq_false, Bool.false_eq_true, c1, h1, c2, this, decide_false, decide_true]
    · have h2 : v ≤ b := by omega
      simp (discharger := omega) only [nlit, iI_lit, iI_add, iI_sub, iI_mul, iI_neg, bI_z, bI_o, i10, i01, eq_self, bI_nar, nar_0, nar_1, bI_t, bI_f, Option.some.injEq, exists_eq_left', true_and, and_true, forall_eq, not_true_eq_false, not_false_eq_true, forall_const, false_implies, true_implies, Classical.not_not, if_true, if_false, Int.reduceEq, Int.reduceLT, Int.reduceLE, Int.reduceGT, Int.reduceGE, Int.reduceAdd, Int.reduceSub, Int.reduceMul, Int.reduceNeg, Int.reduceNe, Bool.true_and, Bool.and_true, Bool.false_and, Bool.and_false, BEq.rfl, Bool.true_eq_false, Bool.false_eq_true, c1, h1, c2, h2, decide_true]
theorem q_can (h : XC D S x A) {b : Bool} {w : Int} : wp_X12_can D post (xS S x A m) x (iI (bI b)) (iI w) = post (iI (bI b)) (xS S x A (cn m w b)) := by
  have e : ∀ v, uI (xS S x A m) x 0 (iI v) = xS S x A (up m 50 0 v) := fun v => x_u0 h 0 v
  unfold wp_X12_can wp_X12_can_0
  simp (discharger := omega) only [nlit, iI_lit, iI_add, iI_sub, iI_mul, iI_neg, bI_z, bI_o, i10, i01, eq_self, bI_nar, nar_0, nar_1, bI_t, bI_f, Option.some.injEq, exists_eq_left', true_and, and_true, forall_eq, not_true_eq_false, not_false_eq_true, forall_const, false_implies, true_implies, Classical.not_not, if_true, if_false, Int.reduceEq, Int.reduceLT, Int.reduceLE, Int.reduceGT, Int.reduceGE, Int.reduceAdd, Int.reduceSub, Int.reduceMul, Int.reduceNeg, Int.reduceNe, Bool.true_and, Bool.and_true, Bool.false_and, Bool.and_false, BEq.rfl, Bool.true_eq_false, Bool.false_eq_true, wp_X12_can_10, e]
  cases b <;> simp [cn]
theorem q_isSquare (hB : XB m F R) {v : Int} (hv : i32 v) : wp_X12_isSquare D post (xS S x A m) x (iI v) = post (iI (bI (inB v 0 (F * R - 1)))) (xS S x A m) := by
  have hn := hB.n
  unfold wp_X12_isSquare wp_X12_isSquare_0
  rw [q_squares hB]
  simp (discharger := omega) only [nlit, iI_lit, iI_add, iI_sub, iI_mul, iI_neg, bI_z, bI_o, i10, i01, eq_self, bI_nar, nar_0, nar_1, bI_t, bI_f, Option.some.injEq, exists_eq_left', true_and, and_true, forall_eq, not_true_eq_false, not_false_eq_true, forall_const, false_implies, true_implies, Classical.not_not, if_true, if_false, Int.reduceEq, Int.reduceLT, Int.reduceLE, Int.reduceGT, Int.reduceGE, Int.reduceAdd, Int.reduceSub, Int.reduceMul, Int.reduceNeg, Int.reduceNe, Bool.true_and, Bool.and_true, Bool.false_and, Bool.and_false, BEq.rfl, Bool.true_eq_false, Bool.false_eq_true]
  rw [q_in hv (by decide) (by omega)]
  simp (discharger := omega) only [nlit, iI_lit, iI_add, iI_sub, iI_mul, iI_neg, bI_z, bI_o, i10, i01, eq_self, bI_nar, nar_0, nar_1, bI_t, bI_f, Option.some.injEq, exists_eq_left', true_and, and_true, forall_eq, not_true_eq_false, not_false_eq_true, forall_const, false_implies, true_implies, Classical.not_not, if_true, if_false, Int.reduceEq, Int.reduceLT, Int.reduceLE, Int.reduceGT, Int.reduceGE, Int.reduceAdd, Int.reduceSub, Int.reduceMul, Int.reduceNeg, Int.reduceNe, Bool.true_and, Bool.and_true, Bool.false_and, Bool.and_false, BEq.rfl, Bool.true_eq_false, Bool.false_eq_true]
theorem q_presentAt : wp_X12_presentAt D post (xS S x A m) x = post (iI (67 * m 50 11)) (xS S x A m) := by
  unfold wp_X12_presentAt wp_X12_presentAt_0
  rw [x_i0]
  simp (discharger := omega) only [nlit, iI_lit, iI_add, iI_sub, iI_mul, iI_neg, bI_z, bI_o, i10, i01, eq_self, bI_nar, nar_0, nar_1, bI_t, bI_f, Option.some.injEq, exists_eq_left', true_and, and_true, forall_eq, not_true_eq_false, not_false_eq_true, forall_const, false_implies, true_implies, Classical.not_not, if_true, if_false, Int.reduceEq, Int.reduceLT, Int.reduceLE, Int.reduceGT, Int.reduceGE, Int.reduceAdd, Int.reduceSub, Int.reduceMul, Int.reduceNeg, Int.reduceNe, Bool.true_and, Bool.and_true, Bool.false_and, Bool.and_false, BEq.rfl, Bool.true_eq_false, Bool.false_eq_true]
theorem q_loads {post : wS → Prop} (h : XC D S x A) (hm : 0 ≤ m 50 11 ∧ m 50 11 ≤ 80) (k : post (xS S x A (ldm m))) : wp_X12_loads D post (xS S x A m) x := by
  simp (discharger := first | decide | omega) only [x_own h, x_kd h, x_r h, x_m h, x_l h, x_k h, x_n h, x_i0, x_i h, x_u0 h, x_u h, xLen, xKd, nlit, iI_lit, iI_add, iI_sub, iI_mul, iI_neg, bI_z, bI_o, i10, i01, eq_self, bI_nar, nar_0, nar_1, up_at, up_f, Option.some.injEq, exists_eq_left', true_and, and_true, forall_eq, not_true_eq_false, not_false_eq_true, forall_const, false_implies, true_implies, Classical.not_not, if_true, if_false, Int.reduceEq, Int.reduceLT, Int.reduceLE, Int.reduceGT, Int.reduceGE, Int.reduceAdd, Int.reduceSub, Int.reduceMul, Int.reduceNeg, Int.reduceNe, wp_X12_loads, wp_X12_loads_0]
  rw [q_presentAt]
  simp (discharger := first | decide | omega) only [x_own h, x_kd h, x_r h, x_m h, x_l h, x_k h, x_n h, x_i0, x_i h, x_u0 h, x_u h, xLen, xKd, nlit, iI_lit, iI_add, iI_sub, iI_mul, iI_neg, bI_z, bI_o, i10, i01, eq_self, bI_nar, nar_0, nar_1, up_at, up_f, Option.some.injEq, exists_eq_left', true_and, and_true, forall_eq, not_true_eq_false, not_false_eq_true, forall_const, false_implies, true_implies, Classical.not_not, if_true, if_false, Int.reduceEq, Int.reduceLT, Int.reduceLE, Int.reduceGT, Int.reduceGE, Int.reduceAdd, Int.reduceSub, Int.reduceMul, Int.reduceNeg, Int.reduceNe]
  refine q_copies (f := 8) (g := 3) h (by decide) (by decide) (by omega) (by omega) (by omega) (by simp only [xLen]; omega) (by simp only [xLen]; omega) (fun e => by cases e) ?_
  rw [cpy_vec]
  exact k
theorem q_isAskable (h : XC D S x A) (hG : RG m F R) (k : post (iI (bI (properB F R (gv m 0)))) (xS S x A (ldm m))) : wp_X12_isAskable D post (xS S x A m) x := by
  have hm := hG.m0
  have e1 : putV m (67 * 0) (gv m 0) 50 11 = m 50 11 := putV_f m _ _ _ rfl
  have e2 : lv (putV m (67 * 0) (gv m 0)) 0 = gv m 0 := lv_putV m (vec_clV _ _ _)
  have e3 : ldm (putV m (67 * 0) (gv m 0)) = ldm m := by
    have : pv (putV m (67 * 0) (gv m 0)) = pv m := by
      unfold pv gv
      rw [putV_f m _ _ _ rfl]
      exact vec_row (putV_r m _ _ rfl) _
    unfold ldm
    rw [this, putV_putV]
  simp (discharger := first | decide | omega) only [x_own h, x_kd h, x_r h, x_m h, x_l h, x_k h, x_n h, x_i0, x_i h, x_u0 h, x_u h, xLen, xKd, nlit, iI_lit, iI_add, iI_sub, iI_mul, iI_neg, bI_z, bI_o, i10, i01, eq_self, bI_nar, nar_0, nar_1, up_at, up_f, Option.some.injEq, exists_eq_left', true_and, and_true, forall_eq, not_true_eq_false, not_false_eq_true, forall_const, false_implies, true_implies, Classical.not_not, if_true, if_false, Int.reduceEq, Int.reduceLT, Int.reduceLE, Int.reduceGT, Int.reduceGE, Int.reduceAdd, Int.reduceSub, Int.reduceMul, Int.reduceNeg, Int.reduceNe, wp_X12_isAskable, wp_X12_isAskable_0]
  refine q_copies (f := 8) (g := 3) h (by decide) (by decide) (by omega) (by omega) (by omega) (by simp only [xLen]; omega) (by simp only [xLen]; omega) (fun e => by cases e) ?_
  rw [cpy_vec]
  show wp_X12_isProperAt D _ (xS S x A (putV m (67 * 0) (gv m 0))) x (iI 0)
  refine q_isProperAt h (hG.b.put _ _) (by decide) (by rw [e2]; exact hG.v 0 (by decide) hm.1) ?_
  rw [e2]
  refine q_loads h (by rw [e1]; exact hm) ?_
  rw [e3]
  simp (discharger := omega) only [nlit, iI_lit, iI_add, iI_sub, iI_mul, iI_neg, bI_z, bI_o, i10, i01, eq_self, bI_nar, nar_0, nar_1, bI_t, bI_f, Option.some.injEq, exists_eq_left', true_and, and_true, forall_eq, not_true_eq_false, not_false_eq_true, forall_const, false_implies, true_implies, Classical.not_not, if_true, if_false, Int.reduceEq, Int.reduceLT, Int.reduceLE, Int.reduceGT, Int.reduceGE, Int.reduceAdd, Int.reduceSub, Int.reduceMul, Int.reduceNeg, Int.reduceNe, Bool.true_and, Bool.and_true, Bool.false_and, Bool.and_false, BEq.rfl, Bool.true_eq_false, Bool.false_eq_true]
  exact k
theorem gv_at {k j : Int} (hj : 0 ≤ j ∧ j < 67) : gv m k j = m 8 (67 * k + j) := if_pos hj
theorem q_pieceAt (h : XC D S x A) (hG : RG m F R) {v : Int} (hv : i32 v) (k : post (iI (if inB v 0 (F * R - 1) then pv m v else 0)) (xS S x A (cn m 1 (inB v 0 (F * R - 1))))) : wp_X12_pieceAt D post (xS S x A m) x (iI v) := by
  have hm := hG.m0
  have hn := hG.b.n
  unfold wp_X12_pieceAt wp_X12_pieceAt_0
  rw [q_isSquare hG.b hv]
  simp (discharger := omega) only [nlit, iI_lit, iI_add, iI_sub, iI_mul, iI_neg, bI_z, bI_o, i10, i01, eq_self, bI_nar, nar_0, nar_1, bI_t, bI_f, Option.some.injEq, exists_eq_left', true_and, and_true, forall_eq, not_true_eq_false, not_false_eq_true, forall_const, false_implies, true_implies, Classical.not_not, if_true, if_false, Int.reduceEq, Int.reduceLT, Int.reduceLE, Int.reduceGT, Int.reduceGE, Int.reduceAdd, Int.reduceSub, Int.reduceMul, Int.reduceNeg, Int.reduceNe, Bool.true_and, Bool.and_true, Bool.false_and, Bool.and_false, BEq.rfl, Bool.true_eq_false, Bool.false_eq_true]
  rw [q_can h]
  simp (discharger := omega) only [nlit, iI_lit, iI_add, iI_sub, iI_mul, iI_neg, bI_z, bI_o, i10, i01, eq_self, bI_nar, nar_0, nar_1, bI_t, bI_f, Option.some.injEq, exists_eq_left', true_and, and_true, forall_eq, not_true_eq_false, not_false_eq_true, forall_const, false_implies, true_implies, Classical.not_not, if_true, if_false, Int.reduceEq, Int.reduceLT, Int.reduceLE, Int.reduceGT, Int.reduceGE, Int.reduceAdd, Int.reduceSub, Int.reduceMul, Int.reduceNeg, Int.reduceNe, Bool.true_and, Bool.and_true, Bool.false_and, Bool.and_false, BEq.rfl, Bool.true_eq_false, Bool.false_eq_true, wp_X12_pieceAt_28]
  cases c : inB v 0 (F * R - 1)
  · rw [c] at k; simp only [iI_lit, bI_z, bI_o, i10, i01, eq_self, bI_nar, nar_0, nar_1, bI_t, bI_f, true_and, and_true, forall_eq, not_true_eq_false, not_false_eq_true, forall_const, false_implies, true_implies, Classical.not_not, if_true, if_false, Int.reduceEq, Int.reduceLT, Int.reduceLE, Int.reduceGT, Int.reduceGE, Int.reduceAdd, Int.reduceSub, Int.reduceMul, Int.reduceNeg, Int.reduceNe, Bool.true_and, Bool.and_true, Bool.false_and, Bool.and_false, Bool.true_or, Bool.or_true, Bool.false_or, Bool.or_false, BEq.rfl, decide_true, decide_false, decide_eq_true_eq, Bool.false_eq_true, Bool.true_eq_false, Bool.not_true, Bool.not_false] at k ⊢; exact k
  · rw [c] at k; simp only [iI_lit, bI_z, bI_o, i10, i01, eq_self, bI_nar, nar_0, nar_1, bI_t, bI_f, true_and, and_true, forall_eq, not_true_eq_false, not_false_eq_true, forall_const, false_implies, true_implies, Classical.not_not, if_true, if_false, Int.reduceEq, Int.reduceLT, Int.reduceLE, Int.reduceGT, Int.reduceGE, Int.reduceAdd, Int.reduceSub, Int.reduceMul, Int.reduceNeg, Int.reduceNe, Bool.true_and, Bool.and_true, Bool.false_and, Bool.and_false, Bool.true_or, Bool.or_true, Bool.false_or, Bool.or_false, BEq.rfl, decide_true, decide_false, decide_eq_true_eq, Bool.false_eq_true, Bool.true_eq_false, Bool.not_true, Bool.not_false] at k ⊢
    unfold inB at c
    simp at c
    simp (discharger := first | decide | omega) only [x_own h, x_kd h, x_r h, x_m h, x_l h, x_k h, x_n h, x_i0, x_i h, x_u0 h, x_u h, xLen, xKd, nlit, iI_lit, iI_add, iI_sub, iI_mul, iI_neg, bI_z, bI_o, i10, i01, eq_self, bI_nar, nar_0, nar_1, up_at, up_f, Option.some.injEq, exists_eq_left', true_and, and_true, forall_eq, not_true_eq_false, not_false_eq_true, forall_const, false_implies, true_implies, Classical.not_not, if_true, if_false, Int.reduceEq, Int.reduceLT, Int.reduceLE, Int.reduceGT, Int.reduceGE, Int.reduceAdd, Int.reduceSub, Int.reduceMul, Int.reduceNeg, Int.reduceNe]
    rw [q_presentAt, cn_50 m (by decide)]
    simp (discharger := first | decide | omega) only [x_own h, x_kd h, x_r h, x_m h, x_l h, x_k h, x_n h, x_i0, x_i h, x_u0 h, x_u h, xLen, xKd, nlit, iI_lit, iI_add, iI_sub, iI_mul, iI_neg, bI_z, bI_o, i10, i01, eq_self, bI_nar, nar_0, nar_1, up_at, up_f, Option.some.injEq, exists_eq_left', true_and, and_true, forall_eq, not_true_eq_false, not_false_eq_true, forall_const, false_implies, true_implies, Classical.not_not, if_true, if_false, Int.reduceEq, Int.reduceLT, Int.reduceLE, Int.reduceGT, Int.reduceGE, Int.reduceAdd, Int.reduceSub, Int.reduceMul, Int.reduceNeg, Int.reduceNe, eq_true (iI_in (a := 67 * m 50 11 + v) (n := 5427) (by omega) (by omega) (by omega))]
    rw [cn_f m _ rfl, ← gv_at (m := m) (k := m 50 11) (j := v) (by omega)]
    exact k
theorem q_isWhiteToMove (h : XC D S x A) (hG : RG m F R) (k : post (iI (bI (decide (pv m 64 = 1)))) (xS S x A (up m 50 0 0))) : wp_X12_isWhiteToMove D post (xS S x A m) x := by
  have hm := hG.m0
  have hs := hG.pv.s
  have e11 : up m 50 0 0 50 11 = m 50 11 := up_ne m (Or.inr (by decide))
  have e0 : uI (xS S x A m) x 0 (iI 0) = xS S x A (up m 50 0 0) := x_u0 h 0 0
  simp (discharger := first | decide | omega) only [x_own h, x_kd h, x_r h, x_m h, x_l h, x_k h, x_n h, x_i0, x_i h, x_u0 h, x_u h, xLen, xKd, nlit, iI_lit, iI_add, iI_sub, iI_mul, iI_neg, bI_z, bI_o, i10, i01, eq_self, bI_nar, nar_0, nar_1, up_at, up_f, Option.some.injEq, exists_eq_left', true_and, and_true, forall_eq, not_true_eq_false, not_false_eq_true, forall_const, false_implies, true_implies, Classical.not_not, if_true, if_false, Int.reduceEq, Int.reduceLT, Int.reduceLE, Int.reduceGT, Int.reduceGE, Int.reduceAdd, Int.reduceSub, Int.reduceMul, Int.reduceNeg, Int.reduceNe, wp_X12_isWhiteToMove, wp_X12_isWhiteToMove_0, e0]
  rw [q_presentAt, e11]
  simp (discharger := first | decide | omega) only [x_own h, x_kd h, x_r h, x_m h, x_l h, x_k h, x_n h, x_i0, x_i h, x_u0 h, x_u h, xLen, xKd, nlit, iI_lit, iI_add, iI_sub, iI_mul, iI_neg, bI_z, bI_o, i10, i01, eq_self, bI_nar, nar_0, nar_1, up_at, up_f, Option.some.injEq, exists_eq_left', true_and, and_true, forall_eq, not_true_eq_false, not_false_eq_true, forall_const, false_implies, true_implies, Classical.not_not, if_true, if_false, Int.reduceEq, Int.reduceLT, Int.reduceLE, Int.reduceGT, Int.reduceGE, Int.reduceAdd, Int.reduceSub, Int.reduceMul, Int.reduceNeg, Int.reduceNe, eq_true (iI_in (a := 67 * m 50 11 + 64) (n := 5427) (by omega) (by omega) (by omega)), wp_X12_isWhiteToMove_26]
  rw [← gv_at (m := m) (k := m 50 11) (j := 64) (by omega)]
  change 0 ≤ gv m (m 50 11) 64 ∧ gv m (m 50 11) 64 ≤ 1 at hs
  simp (discharger := omega) only [nlit, iI_lit, iI_add, iI_sub, iI_mul, iI_neg, bI_z, bI_o, i10, i01, eq_self, bI_nar, nar_0, nar_1, bI_t, bI_f, Option.some.injEq, exists_eq_left', true_and, and_true, forall_eq, not_true_eq_false, not_false_eq_true, forall_const, false_implies, true_implies, Classical.not_not, if_true, if_false, Int.reduceEq, Int.reduceLT, Int.reduceLE, Int.reduceGT, Int.reduceGE, Int.reduceAdd, Int.reduceSub, Int.reduceMul, Int.reduceNeg, Int.reduceNe, Bool.true_and, Bool.and_true, Bool.false_and, Bool.and_false, BEq.rfl, Bool.true_eq_false, Bool.false_eq_true, iI_eq]
  by_cases c : gv m (m 50 11) 64 = 1
  · have c2 : pv m 64 = 1 := c
    simp only [iI_lit, bI_z, bI_o, i10, i01, eq_self, bI_nar, nar_0, nar_1, bI_t, bI_f, true_and, and_true, forall_eq, not_true_eq_false, not_false_eq_true, forall_const, false_implies, true_implies, Classical.not_not, if_true, if_false, Int.reduceEq, Int.reduceLT, Int.reduceLE, Int.reduceGT, Int.reduceGE, Int.reduceAdd, Int.reduceSub, Int.reduceMul, Int.reduceNeg, Int.reduceNe, Bool.true_and, Bool.and_true, Bool.false_and, Bool.and_false, Bool.true_or, Bool.or_true, Bool.false_or, Bool.or_false, BEq.rfl, decide_true, decide_false, decide_eq_true_eq, Bool.false_eq_true, Bool.true_eq_false, Bool.not_true, Bool.not_false, c, c2] at k ⊢; exact k
  · have c2 : ¬ pv m 64 = 1 := c
    simp only [iI_lit, bI_z, bI_o, i10, i01, eq_self, bI_nar, nar_0, nar_1, bI_t, bI_f, true_and, and_true, forall_eq, not_true_eq_false, not_false_eq_true, forall_const, false_implies, true_implies, Classical.not_not, if_true, if_false, Int.reduceEq, Int.reduceLT, Int.reduceLE, Int.reduceGT, Int.reduceGE, Int.reduceAdd, Int.reduceSub, Int.reduceMul, Int.reduceNeg, Int.reduceNe, Bool.true_and, Bool.and_true, Bool.false_and, Bool.and_false, Bool.true_or, Bool.or_true, Bool.false_or, Bool.or_false, BEq.rfl, decide_true, decide_false, decide_eq_true_eq, Bool.false_eq_true, Bool.true_eq_false, Bool.not_true, Bool.not_false, c, c2] at k ⊢; exact k
theorem q_rights (h : XC D S x A) (hG : RG m F R) (k : post (iI (pv m 65)) (xS S x A (up m 50 0 0))) : wp_X12_rights D post (xS S x A m) x := by
  have hm := hG.m0
  have e11 : up m 50 0 0 50 11 = m 50 11 := up_ne m (Or.inr (by decide))
  have e0 : uI (xS S x A m) x 0 (iI 0) = xS S x A (up m 50 0 0) := x_u0 h 0 0
  simp (discharger := first | decide | omega) only [x_own h, x_kd h, x_r h, x_m h, x_l h, x_k h, x_n h, x_i0, x_i h, x_u0 h, x_u h, xLen, xKd, nlit, iI_lit, iI_add, iI_sub, iI_mul, iI_neg, bI_z, bI_o, i10, i01, eq_self, bI_nar, nar_0, nar_1, up_at, up_f, Option.some.injEq, exists_eq_left', true_and, and_true, forall_eq, not_true_eq_false, not_false_eq_true, forall_const, false_implies, true_implies, Classical.not_not, if_true, if_false, Int.reduceEq, Int.reduceLT, Int.reduceLE, Int.reduceGT, Int.reduceGE, Int.reduceAdd, Int.reduceSub, Int.reduceMul, Int.reduceNeg, Int.reduceNe, wp_X12_rights, wp_X12_rights_0, e0]
  rw [q_presentAt, e11]
  simp (discharger := first | decide | omega) only [x_own h, x_kd h, x_r h, x_m h, x_l h, x_k h, x_n h, x_i0, x_i h, x_u0 h, x_u h, xLen, xKd, nlit, iI_lit, iI_add, iI_sub, iI_mul, iI_neg, bI_z, bI_o, i10, i01, eq_self, bI_nar, nar_0, nar_1, up_at, up_f, Option.some.injEq, exists_eq_left', true_and, and_true, forall_eq, not_true_eq_false, not_false_eq_true, forall_const, false_implies, true_implies, Classical.not_not, if_true, if_false, Int.reduceEq, Int.reduceLT, Int.reduceLE, Int.reduceGT, Int.reduceGE, Int.reduceAdd, Int.reduceSub, Int.reduceMul, Int.reduceNeg, Int.reduceNe, eq_true (iI_in (a := 67 * m 50 11 + 65) (n := 5427) (by omega) (by omega) (by omega))]
  rw [← gv_at (m := m) (k := m 50 11) (j := 65) (by omega)]
  exact k
theorem q_passingSquare (h : XC D S x A) (hG : RG m F R) (k : post (iI (pv m 66)) (xS S x A (up m 50 0 0))) : wp_X12_passingSquare D post (xS S x A m) x := by
  have hm := hG.m0
  have e11 : up m 50 0 0 50 11 = m 50 11 := up_ne m (Or.inr (by decide))
  have e0 : uI (xS S x A m) x 0 (iI 0) = xS S x A (up m 50 0 0) := x_u0 h 0 0
  simp (discharger := first | decide | omega) only [x_own h, x_kd h, x_r h, x_m h, x_l h, x_k h, x_n h, x_i0, x_i h, x_u0 h, x_u h, xLen, xKd, nlit, iI_lit, iI_add, iI_sub, iI_mul, iI_neg, bI_z, bI_o, i10, i01, eq_self, bI_nar, nar_0, nar_1, up_at, up_f, Option.some.injEq, exists_eq_left', true_and, and_true, forall_eq, not_true_eq_false, not_false_eq_true, forall_const, false_implies, true_implies, Classical.not_not, if_true, if_false, Int.reduceEq, Int.reduceLT, Int.reduceLE, Int.reduceGT, Int.reduceGE, Int.reduceAdd, Int.reduceSub, Int.reduceMul, Int.reduceNeg, Int.reduceNe, wp_X12_passingSquare, wp_X12_passingSquare_0, e0]
  rw [q_presentAt, e11]
  simp (discharger := first | decide | omega) only [x_own h, x_kd h, x_r h, x_m h, x_l h, x_k h, x_n h, x_i0, x_i h, x_u0 h, x_u h, xLen, xKd, nlit, iI_lit, iI_add, iI_sub, iI_mul, iI_neg, bI_z, bI_o, i10, i01, eq_self, bI_nar, nar_0, nar_1, up_at, up_f, Option.some.injEq, exists_eq_left', true_and, and_true, forall_eq, not_true_eq_false, not_false_eq_true, forall_const, false_implies, true_implies, Classical.not_not, if_true, if_false, Int.reduceEq, Int.reduceLT, Int.reduceLE, Int.reduceGT, Int.reduceGE, Int.reduceAdd, Int.reduceSub, Int.reduceMul, Int.reduceNeg, Int.reduceNe, eq_true (iI_in (a := 67 * m 50 11 + 66) (n := 5427) (by omega) (by omega) (by omega))]
  rw [← gv_at (m := m) (k := m 50 11) (j := 66) (by omega)]
  exact k
theorem RG.up0 (h : RG m F R) (w : Int) : RG (up m 50 0 w) F R := by
  have e : ∀ {j : Int}, j ≠ 0 → up m 50 0 w 50 j = m 50 j := fun h => up_ne m (Or.inr h)
  refine ⟨⟨by rw [e (by decide)]; exact h.b.f, by rw [e (by decide)]; exact h.b.r, h.b.2.2⟩, by rw [e (by decide)]; exact h.m0, fun k h1 h2 => ?_⟩
  rw [e (by decide)] at h2
  have : gv (up m 50 0 w) k = gv m k := vec_row (up_r m _ _ rfl) _
  rw [this]; exact h.v k h1 h2
theorem pv_up0 (w : Int) : pv (up m 50 0 w) = pv m := by
  unfold pv gv
  rw [up_ne m (Or.inr (by decide))]
  exact vec_row (up_r m _ _ rfl) _
theorem pv_cn {w : Int} {b : Bool} : pv (Jvm.Pilot.COpeningsCabinetLaw_law_r5693_3db0e9.cn m w b) = pv m := pv_up0 _
theorem q_isProper (h : XC D S x A) (hG : RG m F R) (k : post (iI (bI (properB F R (pv m)))) (xS S x A (ldm (up m 50 0 0)))) : wp_X12_isProper D post (xS S x A m) x := by
  have hG0 := hG.up0 0
  have e0 : uI (xS S x A m) x 0 (iI 0) = xS S x A (up m 50 0 0) := x_u0 h 0 0
  simp (discharger := first | decide | omega) only [x_own h, x_kd h, x_r h, x_m h, x_l h, x_k h, x_n h, x_i0, x_i h, x_u0 h, x_u h, xLen, xKd, nlit, iI_lit, iI_add, iI_sub, iI_mul, iI_neg, bI_z, bI_o, i10, i01, eq_self, bI_nar, nar_0, nar_1, up_at, up_f, Option.some.injEq, exists_eq_left', true_and, and_true, forall_eq, not_true_eq_false, not_false_eq_true, forall_const, false_implies, true_implies, Classical.not_not, if_true, if_false, Int.reduceEq, Int.reduceLT, Int.reduceLE, Int.reduceGT, Int.reduceGE, Int.reduceAdd, Int.reduceSub, Int.reduceMul, Int.reduceNeg, Int.reduceNe, wp_X12_isProper, wp_X12_isProper_0, e0]
  refine q_loads h hG0.m0 ?_
  refine q_isProperAt h hG0.b.ldm (by decide) (by rw [ldm_lv]; exact hG0.pv) ?_
  rw [ldm_lv, pv_up0]
  simp (discharger := omega) only [nlit, iI_lit, iI_add, iI_sub, iI_mul, iI_neg, bI_z, bI_o, i10, i01, eq_self, bI_nar, nar_0, nar_1, bI_t, bI_f, Option.some.injEq, exists_eq_left', true_and, and_true, forall_eq, not_true_eq_false, not_false_eq_true, forall_const, false_implies, true_implies, Classical.not_not, if_true, if_false, Int.reduceEq, Int.reduceLT, Int.reduceLE, Int.reduceGT, Int.reduceGE, Int.reduceAdd, Int.reduceSub, Int.reduceMul, Int.reduceNeg, Int.reduceNe, Bool.true_and, Bool.and_true, Bool.false_and, Bool.and_false, BEq.rfl, Bool.true_eq_false, Bool.false_eq_true]
  exact k
theorem q_isAttacked (h : XC D S x A) (hG : RG m F R) {v by_ : Int} (hv : i32 v) (hb : i32 by_)
    (k0 : inB v 0 (F * R - 1) = false → post (iI 0) (xS S x A (Jvm.Pilot.COpeningsCabinetLaw_law_r5693_3db0e9.cn m 1 false)))
    (k1 : inB v 0 (F * R - 1) = true → post (iI (bI (atkB F R (pv m) v (if by_ = 0 then 0 else 1)))) (xS S x A (ldm (Jvm.Pilot.COpeningsCabinetLaw_law_r5693_3db0e9.cn m 1 true)))) : wp_X12_isAttacked D post (xS S x A m) x (iI v) (iI by_) := by
  have hn := hG.b.n
  unfold wp_X12_isAttacked wp_X12_isAttacked_0
  rw [q_isSquare hG.b hv]
  simp (discharger := omega) only [nlit, iI_lit, iI_add, iI_sub, iI_mul, iI_neg, bI_z, bI_o, i10, i01, eq_self, bI_nar, nar_0, nar_1, bI_t, bI_f, Option.some.injEq, exists_eq_left', true_and, and_true, forall_eq, not_true_eq_false, not_false_eq_true, forall_const, false_implies, true_implies, Classical.not_not, if_true, if_false, Int.reduceEq, Int.reduceLT, Int.reduceLE, Int.reduceGT, Int.reduceGE, Int.reduceAdd, Int.reduceSub, Int.reduceMul, Int.reduceNeg, Int.reduceNe, Bool.true_and, Bool.and_true, Bool.false_and, Bool.and_false, BEq.rfl, Bool.true_eq_false, Bool.false_eq_true]
  rw [q_can h]
  simp (discharger := omega) only [nlit, iI_lit, iI_add, iI_sub, iI_mul, iI_neg, bI_z, bI_o, i10, i01, eq_self, bI_nar, nar_0, nar_1, bI_t, bI_f, Option.some.injEq, exists_eq_left', true_and, and_true, forall_eq, not_true_eq_false, not_false_eq_true, forall_const, false_implies, true_implies, Classical.not_not, if_true, if_false, Int.reduceEq, Int.reduceLT, Int.reduceLE, Int.reduceGT, Int.reduceGE, Int.reduceAdd, Int.reduceSub, Int.reduceMul, Int.reduceNeg, Int.reduceNe, Bool.true_and, Bool.and_true, Bool.false_and, Bool.and_false, BEq.rfl, Bool.true_eq_false, Bool.false_eq_true]
  cases c : inB v 0 (F * R - 1)
  · simp (discharger := omega) only [nlit, iI_lit, iI_add, iI_sub, iI_mul, iI_neg, bI_z, bI_o, i10, i01, eq_self, bI_nar, nar_0, nar_1, bI_t, bI_f, Option.some.injEq, exists_eq_left', true_and, and_true, forall_eq, not_true_eq_false, not_false_eq_true, forall_const, false_implies, true_implies, Classical.not_not, if_true, if_false, Int.reduceEq, Int.reduceLT, Int.reduceLE, Int.reduceGT, Int.reduceGE, Int.reduceAdd, Int.reduceSub, Int.reduceMul, Int.reduceNeg, Int.reduceNe, Bool.true_and, Bool.and_true, Bool.false_and, Bool.and_false, BEq.rfl, Bool.true_eq_false, Bool.false_eq_true]; exact k0 c
  · have k1 := k1 c
    have hc := c
    unfold inB at hc
    simp at hc
    simp (discharger := omega) only [nlit, iI_lit, iI_add, iI_sub, iI_mul, iI_neg, bI_z, bI_o, i10, i01, eq_self, bI_nar, nar_0, nar_1, bI_t, bI_f, Option.some.injEq, exists_eq_left', true_and, and_true, forall_eq, not_true_eq_false, not_false_eq_true, forall_const, false_implies, true_implies, Classical.not_not, if_true, if_false, Int.reduceEq, Int.reduceLT, Int.reduceLE, Int.reduceGT, Int.reduceGE, Int.reduceAdd, Int.reduceSub, Int.reduceMul, Int.reduceNeg, Int.reduceNe, Bool.true_and, Bool.and_true, Bool.false_and, Bool.and_false, BEq.rfl, Bool.true_eq_false, Bool.false_eq_true]
    have hG1 := hG.cn (w := 1) (b := true)
    refine q_loads h hG1.m0 ?_
    simp (discharger := omega) only [nlit, iI_lit, iI_add, iI_sub, iI_mul, iI_neg, bI_z, bI_o, i10, i01, eq_self, bI_nar, nar_0, nar_1, bI_t, bI_f, Option.some.injEq, exists_eq_left', true_and, and_true, forall_eq, not_true_eq_false, not_false_eq_true, forall_const, false_implies, true_implies, Classical.not_not, if_true, if_false, Int.reduceEq, Int.reduceLT, Int.reduceLE, Int.reduceGT, Int.reduceGE, Int.reduceAdd, Int.reduceSub, Int.reduceMul, Int.reduceNeg, Int.reduceNe, Bool.true_and, Bool.and_true, Bool.false_and, Bool.and_false, BEq.rfl, Bool.true_eq_false, Bool.false_eq_true, iI_eq, wp_X12_isAttacked_31]
    by_cases c2 : by_ = 0
    · rw [if_pos c2] at k1
      simp (discharger := omega) only [nlit, iI_lit, iI_add, iI_sub, iI_mul, iI_neg, bI_z, bI_o, i10, i01, eq_self, bI_nar, nar_0, nar_1, bI_t, bI_f, Option.some.injEq, exists_eq_left', true_and, and_true, forall_eq, not_true_eq_false, not_false_eq_true, forall_const, false_implies, true_implies, Classical.not_not, if_true, if_false, Int.reduceEq, Int.reduceLT, Int.reduceLE, Int.reduceGT, Int.reduceGE, Int.reduceAdd, Int.reduceSub, Int.reduceMul, Int.reduceNeg, Int.reduceNe, Bool.true_and, Bool.and_true, Bool.false_and, Bool.and_false, BEq.rfl, Bool.true_eq_false, Bool.false_eq_true, c2]
      refine q_isAttackedBy h hG1.b.ldm (by decide) (by rw [ldm_lv]; exact hG1.pv) (by omega) (by decide) ?_
      rw [ldm_lv, pv_cn]
      simp (discharger := omega) only [nlit, iI_lit, iI_add, iI_sub, iI_mul, iI_neg, bI_z, bI_o, i10, i01, eq_self, bI_nar, nar_0, nar_1, bI_t, bI_f, Option.some.injEq, exists_eq_left', true_and, and_true, forall_eq, not_true_eq_false, not_false_eq_true, forall_const, false_implies, true_implies, Classical.not_not, if_true, if_false, Int.reduceEq, Int.reduceLT, Int.reduceLE, Int.reduceGT, Int.reduceGE, Int.reduceAdd, Int.reduceSub, Int.reduceMul, Int.reduceNeg, Int.reduceNe, Bool.true_and, Bool.and_true, Bool.false_and, Bool.and_false, BEq.rfl, Bool.true_eq_false, Bool.false_eq_true]
      exact k1
    · rw [if_neg c2] at k1
      simp (discharger := omega) only [nlit, iI_lit, iI_add, iI_sub, iI_mul, iI_neg, bI_z, bI_o, i10, i01, eq_self, bI_nar, nar_0, nar_1, bI_t, bI_f, Option.some.injEq, exists_eq_left', true_and, and_true, forall_eq, not_true_eq_false, not_false_eq_true, forall_const, false_implies, true_implies, Classical.not_not, if_true, if_false, Int.reduceEq, Int.reduceLT, Int.reduceLE, Int.reduceGT, Int.reduceGE, Int.reduceAdd, Int.reduceSub, Int.reduceMul, Int.reduceNeg, Int.reduceNe, Bool.true_and, Bool.and_true, Bool.false_and, Bool.and_false, BEq.rfl, Bool.true_eq_false, Bool.false_eq_true, c2]
      refine q_isAttackedBy h hG1.b.ldm (by decide) (by rw [ldm_lv]; exact hG1.pv) (by omega) (by decide) ?_
      rw [ldm_lv, pv_cn]
      simp (discharger := omega) only [nlit, iI_lit, iI_add, iI_sub, iI_mul, iI_neg, bI_z, bI_o, i10, i01, eq_self, bI_nar, nar_0, nar_1, bI_t, bI_f, Option.some.injEq, exists_eq_left', true_and, and_true, forall_eq, not_true_eq_false, not_false_eq_true, forall_const, false_implies, true_implies, Classical.not_not, if_true, if_false, Int.reduceEq, Int.reduceLT, Int.reduceLE, Int.reduceGT, Int.reduceGE, Int.reduceAdd, Int.reduceSub, Int.reduceMul, Int.reduceNeg, Int.reduceNe, Bool.true_and, Bool.and_true, Bool.false_and, Bool.and_false, BEq.rfl, Bool.true_eq_false, Bool.false_eq_true]
      exact k1
end
