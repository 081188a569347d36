/-! PHASE 3, A POSITION OF THE CLASS: four sets of squares, side, rights, passing square -/
def kbit (v : Int → Int) (b k : Int) : Bool := decide (kindO (v k) / b % 2 = 1)
def plW (v : Int → Int) : Int64 := zS (fun k => isOfB (v k) 1)
def plK (v : Int → Int) (b : Int) : Int64 := zS (kbit v b)
abbrev PAt (c : cM) (p : Nat) (v : Int → Int) : Prop := c.2 p 1 = plW v ∧ c.2 p 2 = plK v 1 ∧ c.2 p 3 = plK v 2 ∧ c.2 p 4 = plK v 4 ∧ c.1 p 5 = v 64 ∧ c.1 p 6 = v 65 ∧ c.1 p 7 = v 66
abbrev isP (p : Nat) : Prop := cOk p = true ∧ ckd p = 12 ∧ sfr p 0 = some 1 ∧ p < 52
/-- the pieces of a row are pieces -/
abbrev okP (v : Int → Int) : Prop := ∀ k : Int, 0 ≤ k → k < 64 → 0 ≤ v k ∧ v k ≤ 12
def occB (v : Int → Int) (k : Int) : Bool := !decide (v k = 0)
theorem kind_cases {p : Int} (h : 0 ≤ p ∧ p ≤ 12) : p = 0 ∨ p = 1 ∨ p = 2 ∨ p = 3 ∨ p = 4 ∨ p = 5 ∨ p = 6 ∨ p = 7 ∨ p = 8 ∨ p = 9 ∨ p = 10 ∨ p = 11 ∨ p = 12 := by omega
theorem occ_bits {v : Int → Int} (hv : okP v) {k : Int} (h0 : 0 ≤ k) (h1 : k < 64) : (kbit v 1 k || kbit v 2 k || kbit v 4 k) = occB v k := by
  unfold kbit occB
  rcases kind_cases (hv k h0 h1) with h | h | h | h | h | h | h | h | h | h | h | h | h <;> rw [h] <;> rfl
theorem side_bits {v : Int → Int} (hv : okP v) {k : Int} (h0 : 0 ≤ k) (h1 : k < 64) : (occB v k && !isOfB (v k) 1) = isOfB (v k) 0 := by
  unfold occB
  rcases kind_cases (hv k h0 h1) with h | h | h | h | h | h | h | h | h | h | h | h | h <;> rw [h] <;> rfl
theorem pl_occ {v : Int → Int} (hv : okP v) : plK v 1 ||| plK v 2 ||| plK v 4 = zS (occB v) := by
  unfold plK
  rw [zS_or, zS_or]
  exact zS_congr fun k h0 h1 => occ_bits hv h0 h1
section
variable {D : wD} {S : wS} {o : Nat → Nat} {c : cM} {p : Nat} {v : Int → Int}
theorem q_occupied {post : Int64 → wS → Prop} (h : CC D S o) (hp : isP p) (hv : okP v) (hA : PAt c p v) : wp_X7_occupied D post (cS S o c) (o p) = post (zS (occB v)) (cS S o c) := by
  unfold wp_X7_occupied wp_X7_occupied_0
  rw [c_j0 h hp.1, c_j0 h hp.1, c_j0 h hp.1, ← pl_occ hv]
  rw [show c.2 p ((2 : Nat) : Int) = _ from hA.2.1, show c.2 p ((3 : Nat) : Int) = _ from hA.2.2.1, show c.2 p ((4 : Nat) : Int) = _ from hA.2.2.2.1]
def sd (s : Int) : Int := if s = 0 then 0 else 1
theorem pl_side {v : Int → Int} (hv : okP v) : zS (occB v) &&& (plW v ^^^ (-1)) = zS (fun k => isOfB (v k) 0) := by
  unfold plW
  rw [zS_not, zS_and]
  exact zS_congr fun k h0 h1 => side_bits hv h0 h1
theorem q_ofSide {post : Int64 → wS → Prop} (h : CC D S o) (hp : isP p) (hv : okP v) (hA : PAt c p v) {s : Int} (hs : s = 0 ∨ s = 1) : wp_X7_ofSide D post (cS S o c) (o p) (iI s) = post (zS (fun k => isOfB (v k) s)) (cS S o c) := by
  unfold wp_X7_ofSide wp_X7_ofSide_0 wp_X7_ofSide_34
  rw [c_j0 h hp.1, c_j0 h hp.1, c_j0 h hp.1, c_j0 h hp.1]
  rw [show c.2 p ((1 : Nat) : Int) = _ from hA.1, show c.2 p ((2 : Nat) : Int) = _ from hA.2.1, show c.2 p ((3 : Nat) : Int) = _ from hA.2.2.1, show c.2 p ((4 : Nat) : Int) = _ from hA.2.2.2.1, pl_occ hv, pl_side hv]
  rcases hs with rfl | rfl
  · simp (discharger := omega) only [nlit, iI_lit, iI_add, iI_sub, iI_mul, iI_neg, bI_z, bI_o, i10, i01, eq_self, bI_nar, nar_0, nar_1, bI_t, bI_f, Option.some.injEq, exists_eq_left', true_and, and_true, forall_eq, not_true_eq_false, not_false_eq_true, forall_const, false_implies, true_implies, Classical.not_not, if_true, if_false, Int.reduceEq, Int.reduceLT, Int.reduceLE, Int.reduceGT, Int.reduceGE, Int.reduceAdd, Int.reduceSub, Int.reduceMul, Int.reduceNeg, Int.reduceNe, Bool.true_and, Bool.and_true, Bool.false_and, Bool.and_false, BEq.rfl, Bool.true_eq_false, Bool.false_eq_true]
  · simp (discharger := omega) only [nlit, iI_lit, iI_add, iI_sub, iI_mul, iI_neg, bI_z, bI_o, i10, i01, eq_self, bI_nar, nar_0, nar_1, bI_t, bI_f, Option.some.injEq, exists_eq_left', true_and, and_true, forall_eq, not_true_eq_false, not_false_eq_true, forall_const, false_implies, true_implies, Classical.not_not, if_true, if_false, Int.reduceEq, Int.reduceLT, Int.reduceLE, Int.reduceGT, Int.reduceGE, Int.reduceAdd, Int.reduceSub, Int.reduceMul, Int.reduceNeg, Int.reduceNe, Bool.true_and, Bool.and_true, Bool.false_and, Bool.and_false, BEq.rfl, Bool.true_eq_false, Bool.false_eq_true]; rfl
theorem kind_bits {v : Int → Int} (hv : okP v) {q k : Int} (hq : 1 ≤ q ∧ q ≤ 6) (h0 : 0 ≤ k) (h1 : k < 64) :
    (((occB v k && (if q % 2 = 1 then kbit v 1 k else !kbit v 1 k)) && (if q / 2 % 2 = 1 then kbit v 2 k else !kbit v 2 k)) && (if q / 4 % 2 = 1 then kbit v 4 k else !kbit v 4 k)) = decide (kindO (v k) = q) := by
  unfold occB kbit
  rcases (show q = 1 ∨ q = 2 ∨ q = 3 ∨ q = 4 ∨ q = 5 ∨ q = 6 by omega) with rfl | rfl | rfl | rfl | rfl | rfl <;>
  (rcases kind_cases (hv k h0 h1) with h | h | h | h | h | h | h | h | h | h | h | h | h <;> rw [h] <;> rfl)
theorem q_ofKind {post : Int64 → wS → Prop} (h : CC D S o) (hp : isP p) (hv : okP v) (hA : PAt c p v) {q : Int} (hq : 1 ≤ q ∧ q ≤ 6) : wp_X7_ofKind D post (cS S o c) (o p) (iI q) = post (zS (fun k => decide (kindO (v k) = q))) (cS S o c) := by
  have e : zS (fun k => decide (kindO (v k) = q)) = ((zS (occB v) &&& (if q % 2 = 1 then plK v 1 else plK v 1 ^^^ (-1))) &&& (if q / 2 % 2 = 1 then plK v 2 else plK v 2 ^^^ (-1))) &&& (if q / 4 % 2 = 1 then plK v 4 else plK v 4 ^^^ (-1)) := by
    have t : ∀ (b : Prop) [Decidable b] (P : Int → Bool), (if b then zS P else zS P ^^^ (-1)) = zS (fun k => if b then P k else !P k) := fun b _ P => by
      split
      · rfl
      · exact zS_not P
    unfold plK
    rw [t, t, t, zS_and, zS_and, zS_and]
    exact zS_congr fun k h0 h1 => (kind_bits hv hq h0 h1).symm
  rw [e]
  unfold wp_X7_ofKind wp_X7_ofKind_0 wp_X7_ofKind_37 wp_X7_ofKind_61 wp_X7_ofKind_85
  rw [c_j0 h hp.1, c_j0 h hp.1, c_j0 h hp.1]
  rw [show c.2 p ((2 : Nat) : Int) = _ from hA.2.1, show c.2 p ((3 : Nat) : Int) = _ from hA.2.2.1, show c.2 p ((4 : Nat) : Int) = _ from hA.2.2.2.1, pl_occ hv]
  have l1 : (iI q &&& (1 : Int32) = 0) = ¬ (q % 2 = 1) := by
    rcases (show q = 1 ∨ q = 2 ∨ q = 3 ∨ q = 4 ∨ q = 5 ∨ q = 6 by omega) with rfl | rfl | rfl | rfl | rfl | rfl <;> decide
  have l2 : (iI q &&& (2 : Int32) = 0) = ¬ (q / 2 % 2 = 1) := by
    rcases (show q = 1 ∨ q = 2 ∨ q = 3 ∨ q = 4 ∨ q = 5 ∨ q = 6 by omega) with rfl | rfl | rfl | rfl | rfl | rfl <;> decide
  have l4 : (iI q &&& (4 : Int32) = 0) = ¬ (q / 4 % 2 = 1) := by
    rcases (show q = 1 ∨ q = 2 ∨ q = 3 ∨ q = 4 ∨ q = 5 ∨ q = 6 by omega) with rfl | rfl | rfl | rfl | rfl | rfl <;> decide
  simp only [l1, l2, l4, forall_eq]
  by_cases c1 : q % 2 = 1 <;> by_cases c2 : q / 2 % 2 = 1 <;> by_cases c4 : q / 4 % 2 = 1 <;> simp only [c1, c2, c4, if_true, if_false, not_true_eq_false, not_false_eq_true, true_implies, false_implies, true_and, and_true]
theorem nr0 : narrow .boolean (.int (0 : Int32)) = .int 0 := of_eq_true nar_0
theorem nr1 : narrow .boolean (.int (1 : Int32)) = .int 1 := of_eq_true nar_1
theorem q_contains {U : wS} {post : Int32 → wS → Prop} (P : Int → Bool) {k : Int} (hk : 0 ≤ k ∧ k < 64) : wp_X11_contains D post U (zS P) (iI k) = post (iI (bI (P k))) U := by
  unfold wp_X11_contains wp_X11_contains_0 wp_X11_contains_15
  rw [zS_bit P hk]
  cases P k
  · simp only [Bool.false_eq_true, if_false, show lg_cmp 0 0 = 0 from by decide, not_true_eq_false, false_implies, true_implies, and_true]
    exact propext (and_iff_right nr0)
  · simp only [if_true, show (lg_cmp 1 0 = 0) = False from by decide, not_false_eq_true, false_implies, true_implies, true_and]
    exact propext (and_iff_right nr1)
theorem q_kindOn {post : Int32 → wS → Prop} (h : CC D S o) (hp : isP p) (hv : okP v) (hA : PAt c p v) {k : Int} (hk : 0 ≤ k ∧ k < 64) : wp_X7_kindOn D post (cS S o c) (o p) (iI k) = post (iI (kindO (v k))) (cS S o c) := by
  unfold wp_X7_kindOn wp_X7_kindOn_0
  rw [c_j0 h hp.1, c_j0 h hp.1, c_j0 h hp.1]
  rw [show c.2 p ((2 : Nat) : Int) = _ from hA.2.1, show c.2 p ((3 : Nat) : Int) = _ from hA.2.2.1, show c.2 p ((4 : Nat) : Int) = _ from hA.2.2.2.1]
  unfold plK
  rw [zS_bit _ hk, zS_bit _ hk, zS_bit _ hk]
  congr 1
  unfold kbit
  rcases kind_cases (hv k hk.1 hk.2) with h | h | h | h | h | h | h | h | h | h | h | h | h <;> rw [h] <;> decide
theorem q_pieceOn {post : Int32 → wS → Prop} (h : CC D S o) (hp : isP p) (hv : okP v) (hA : PAt c p v) {k : Int} (hk : 0 ≤ k ∧ k < 64) : wp_X7_pieceOn D post (cS S o c) (o p) (iI k) = post (iI (v k)) (cS S o c) := by
  unfold wp_X7_pieceOn wp_X7_pieceOn_0 wp_X7_pieceOn_21 wp_X7_pieceOn_29
  rw [q_kindOn h hp hv hA hk, c_j0 h hp.1, show c.2 p ((1 : Nat) : Int) = _ from hA.1]
  unfold plW
  rw [q_contains _ hk]
  rcases kind_cases (hv k hk.1 hk.2) with h | h | h | h | h | h | h | h | h | h | h | h | h <;> rw [h] <;> simp (discharger := omega) only [nlit, iI_lit, iI_add, iI_sub, iI_mul, iI_neg, bI_z, bI_o, i10, i01, eq_self, bI_nar, nar_0, nar_1, bI_t, bI_f, Option.some.injEq, exists_eq_left', true_and, and_true, forall_eq, not_true_eq_false, not_false_eq_true, forall_const, false_implies, true_implies, Classical.not_not, if_true, if_false, Int.reduceEq, Int.reduceLT, Int.reduceLE, Int.reduceGT, Int.reduceGE, Int.reduceAdd, Int.reduceSub, Int.reduceMul, Int.reduceNeg, Int.reduceNe, Bool.true_and, Bool.and_true, Bool.false_and, Bool.and_false, BEq.rfl, Bool.true_eq_false, Bool.false_eq_true, kindO, isOfB, show (iI 1 = iI 0) = False from by decide, show (iI 2 = iI 0) = False from by decide, show (iI 3 = iI 0) = False from by decide, show (iI 4 = iI 0) = False from by decide, show (iI 5 = iI 0) = False from by decide, show (iI 6 = iI 0) = False from by decide, decide_true, decide_false]
theorem q_bitCount {U : wS} {post : Int32 → wS → Prop} (P : Int → Bool) : wp_J13_bitCount_95d88 D post U (zS P) = post (iI (zcnt P)) U := by
  unfold wp_J13_bitCount_95d88 wp_J13_bitCount_95d88_0
  have key : ∀ x1 x2 x3 x4 x5 x6 : Int64, x1 = zS P - (jlushr (zS P) (1 : Int32) &&& 6148914691236517205) → x2 = (x1 &&& 3689348814741910323) + (jlushr x1 (2 : Int32) &&& 3689348814741910323) → x3 = (x2 + jlushr x2 (4 : Int32)) &&& 1085102592571150095 →
      x4 = x3 + jlushr x3 (8 : Int32) → x5 = x4 + jlushr x4 (16 : Int32) → x6 = x5 + jlushr x5 (32 : Int32) → Int64.toInt32 x6 &&& (127 : Int32) = iI (zcnt P) := by
    intro x1 x2 x3 x4 x5 x6 e1 e2 e3 e4 e5 e6
    rw [z_low7, zcount e1 e2 e3 e4 e5 e6, zu_S, ← zcnt_n]
  simp only [forall_eq]
  exact congrArg (fun z => post z U) (key _ _ _ _ _ _ rfl rfl rfl rfl rfl rfl)
end
