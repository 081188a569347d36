/-- the board's size, as the reference keeps it -/
abbrev XB (m : xM) (F R : Int) : Prop := m 50 1 = F ∧ m 50 2 = R ∧ 4 ≤ F ∧ F ≤ 8 ∧ 4 ≤ R ∧ R ≤ 8
theorem XB.f {m : xM} {F R : Int} (h : XB m F R) : m 50 1 = F := h.1
theorem XB.r {m : xM} {F R : Int} (h : XB m F R) : m 50 2 = R := h.2.1
theorem XB.f4 {m : xM} {F R : Int} (h : XB m F R) : 4 ≤ F := h.2.2.1
theorem XB.f8 {m : xM} {F R : Int} (h : XB m F R) : F ≤ 8 := h.2.2.2.1
theorem XB.r4 {m : xM} {F R : Int} (h : XB m F R) : 4 ≤ R := h.2.2.2.2.1
theorem XB.r8 {m : xM} {F R : Int} (h : XB m F R) : R ≤ 8 := h.2.2.2.2.2
def dist (a b : Int) : Int := if b ≤ a then a - b else b - a
def kindO (p : Int) : Int := if p ≤ 6 then p else p - 6
def isOfB (p s : Int) : Bool := if p = 0 then false else if 6 < p then (0 : Int) = s else (1 : Int) = s
section
variable {D : wD} {S : wS} {x : Nat} {A : Nat → Nat} {m : xM} {post : Int32 → wS → Prop} {F R : Int}
theorem q_squares (hB : XB m F R) : wp_X12_squares D post (xS S x A m) x = post (iI (F * R)) (xS S x A m) := by
  simp only [wp_X12_squares, wp_X12_squares_0, x_i0, iI_mul]
  rw [show m 50 (1 : Nat) = F from hB.f, show m 50 (2 : Nat) = R from hB.r]
theorem q_distance {U : wS} {a b : Int} (ha : 0 ≤ a ∧ a < 1000) (hb : 0 ≤ b ∧ b < 1000) : wp_X12_distance D post U (iI a) (iI b) = post (iI (dist a b)) U := by
  simp (discharger := omega) only [wp_X12_distance, wp_X12_distance_0, wp_X12_distance_14, iI_le, iI_sub, dist]
  by_cases h : b ≤ a <;> simp [h]
theorem q_kindOf {U : wS} {p : Int} (hp : 0 ≤ p ∧ p ≤ 12) : wp_X12_kindOf D post U (iI p) = post (iI (kindO p)) U := by
  simp (discharger := omega) only [wp_X12_kindOf, wp_X12_kindOf_0, wp_X12_kindOf_14, iI_lit, iI_le, iI_sub, kindO]
  by_cases h : p ≤ 6 <;> simp [h]
theorem q_isOf {U : wS} {p s : Int} (hp : 0 ≤ p ∧ p ≤ 12) (hs : 0 ≤ s ∧ s ≤ 1) : wp_X12_isOf D post U (iI p) (iI s) = post (iI (bI (isOfB p s))) U := by
  simp (discharger := omega) only [wp_X12_isOf, wp_X12_isOf_0, wp_X12_isOf_15, wp_X12_isOf_23, wp_X12_isOf_24, iI_lit, iI_lt, iI_eq, nar_0, nar_1, isOfB]
  rcases (show s = 0 ∨ s = 1 by omega) with rfl | rfl <;> by_cases h : p = 0 <;> by_cases h2 : 6 < p <;> simp [h, h2, bI]
theorem q_fileOf (hB : XB m F R) {a : Int} (ha : 0 ≤ a ∧ a < 100000) : wp_X12_fileOf D post (xS S x A m) x (iI a) = post (iI (a % F)) (xS S x A m) := by
  have h4 := hB.f4; have h8 := hB.f8
  have : iI F ≠ iI 0 := by rw [ne_eq, iI_eq] <;> omega
  simp only [wp_X12_fileOf, wp_X12_fileOf_0, x_i0]
  rw [show m 50 ((1 : Nat) : Int) = F from hB.f, iI_rem (by omega) (by omega) (by omega) (by omega)]
  exact propext (and_iff_right this)
theorem q_rankOf (hB : XB m F R) {a : Int} (ha : 0 ≤ a ∧ a < 100000) : wp_X12_rankOf D post (xS S x A m) x (iI a) = post (iI (a / F)) (xS S x A m) := by
  have h4 := hB.f4; have h8 := hB.f8
  have : iI F ≠ iI 0 := by rw [ne_eq, iI_eq] <;> omega
  simp only [wp_X12_rankOf, wp_X12_rankOf_0, x_i0]
  rw [show m 50 ((1 : Nat) : Int) = F from hB.f, iI_div (by omega) (by omega) (by omega) (by omega)]
  exact propext (and_iff_right this)
/-- a place of a level -/
def vec (m : xM) (f : Nat) (a k : Int) : Int := if 0 ≤ k ∧ k < 67 then m f (a + k) else 0
def lv (m : xM) (l : Int) : Int → Int := vec m 3 (67 * l)
theorem lvec_at (m : xM) {l k : Int} (hk : 0 ≤ k ∧ k < 67) : lv m l k = m 3 (67 * l + k) := if_pos hk
theorem q_on (h : XC D S x A) {l k : Int} (hl : 0 ≤ l ∧ l < 8) (hk : 0 ≤ k ∧ k < 67) (h8 : 67 * l + k < 536) : wp_X12_on D post (xS S x A m) x (iI l) (iI k) = post (iI (lv m l k)) (xS S x A m) := by
  simp (discharger := first | decide | omega) only [x_own h, x_kd h, x_r h, x_m h, x_l h, x_k h, x_n h, x_i0, x_i h, x_u0 h, x_u h, xLen, xKd, nlit, iI_lit, iI_add, iI_sub, iI_mul, iI_neg, bI_z, bI_o, i10, i01, eq_self, bI_nar, nar_0, nar_1, up_at, up_f, Option.some.injEq, exists_eq_left', true_and, and_true, forall_eq, not_true_eq_false, not_false_eq_true, forall_const, false_implies, true_implies, Classical.not_not, if_true, if_false, Int.reduceEq, Int.reduceLT, Int.reduceLE, Int.reduceGT, Int.reduceGE, Int.reduceAdd, Int.reduceSub, Int.reduceMul, Int.reduceNeg, Int.reduceNe, wp_X12_on, wp_X12_on_0, eq_true (iI_in (a := 67 * l + k) (n := 536) (by omega) (by omega) (by omega))]
  rw [lvec_at m hk]
theorem q_side (h : XC D S x A) {l : Int} (hl : 0 ≤ l ∧ l < 8) : wp_X12_side D post (xS S x A m) x (iI l) = post (iI (lv m l 64)) (xS S x A m) := by
  simp (discharger := first | decide | omega) only [x_own h, x_kd h, x_r h, x_m h, x_l h, x_k h, x_n h, x_i0, x_i h, x_u0 h, x_u h, xLen, xKd, nlit, iI_lit, iI_add, iI_sub, iI_mul, iI_neg, bI_z, bI_o, i10, i01, eq_self, bI_nar, nar_0, nar_1, up_at, up_f, Option.some.injEq, exists_eq_left', true_and, and_true, forall_eq, not_true_eq_false, not_false_eq_true, forall_const, false_implies, true_implies, Classical.not_not, if_true, if_false, Int.reduceEq, Int.reduceLT, Int.reduceLE, Int.reduceGT, Int.reduceGE, Int.reduceAdd, Int.reduceSub, Int.reduceMul, Int.reduceNeg, Int.reduceNe, wp_X12_side, wp_X12_side_0, eq_true (iI_in (a := 67 * l + 64) (n := 536) (by omega) (by omega) (by omega))]
  rw [lvec_at m (by omega)]
end
