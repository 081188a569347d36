/-! PHASE 3, POSITIONS SAVED IN ROWS OF LONGS -/
def zI (a : Int) : Int64 := Int64.ofInt a
theorem zI_toInt {a : Int} (h1 : -9223372036854775808 ≤ a) (h2 : a < 9223372036854775808) : (zI a).toInt = a := Int64.toInt_ofInt_of_le h1 h2
theorem zI_add (a b : Int) : zI a + zI b = zI (a + b) := (Int64.ofInt_add a b).symm
theorem zI_mul (a b : Int) : zI a * zI b = zI (a * b) := (Int64.ofInt_mul a b).symm
theorem zI_of {a : Int} (h1 : -2147483648 ≤ a) (h2 : a < 2147483648) : Int32.toInt64 (iI a) = zI a := by
  apply Int64.toInt_inj.mp
  rw [zI_toInt (by omega) (by omega), Int32.toInt_toInt64, iI_toInt h1 h2]
theorem zI_32 (a : Int) : Int64.toInt32 (zI a) = iI a := Int64.toInt32_ofInt
theorem zI_inj {a b : Int} (h1 : -2147483648 ≤ a ∧ a < 2147483648) (h2 : -2147483648 ≤ b ∧ b < 2147483648) : (zI a = zI b) = (a = b) := by
  apply propext
  constructor
  · intro h
    have := congrArg Int64.toInt h
    rwa [zI_toInt (by omega) (by omega), zI_toInt (by omega) (by omega)] at this
  · intro h; rw [h]
def restI (v : Int → Int) : Int := v 64 + 2 * v 65 + 32 * (v 66 + 1)
def gJ (U : wS) (y : Nat) (a : Int) : Int64 := sJ U y (iI a).toNatClampNeg
/-- the position that a row of longs holds at a place -/
abbrev SV (U : wS) (y : Nat) (i : Int) (w : Int → Int) : Prop := gJ U y (i * 5) = plW w ∧ gJ U y (i * 5 + 1) = plK w 1 ∧ gJ U y (i * 5 + 2) = plK w 2 ∧ gJ U y (i * 5 + 3) = plK w 4 ∧ gJ U y (i * 5 + 4) = zI (restI w)
abbrev PO (U : wS) (a : Nat) (v : Int → Int) : Prop := sJ U a 1 = plW v ∧ sJ U a 2 = plK v 1 ∧ sJ U a 3 = plK v 2 ∧ sJ U a 4 = plK v 4 ∧ sI U a 5 = iI (v 64) ∧ sI U a 6 = iI (v 65) ∧ sI U a 7 = iI (v 66)
/-- the ranges of a position -/
abbrev rgV (v : Int → Int) : Prop := okP v ∧ (0 ≤ v 64 ∧ v 64 ≤ 1) ∧ (0 ≤ v 65 ∧ v 65 ≤ 15) ∧ (-1 ≤ v 66 ∧ v 66 < 64)
theorem okV.rg {F R : Int} {v : Int → Int} (h : okV F R v) (hn : F * R ≤ 64) : rgV v := ⟨h.p, h.s, h.r, ⟨h.e.1, by have := h.e.2; omega⟩⟩
theorem pl_eq {v w : Int → Int} (hv : okP v) (hw : okP w) : (plW v = plW w ∧ plK v 1 = plK w 1 ∧ plK v 2 = plK w 2 ∧ plK v 4 = plK w 4) ↔ ∀ k : Int, 0 ≤ k → k < 64 → v k = w k := by
  constructor
  · intro ⟨h1, h2, h3, h4⟩ k k0 k1
    have a1 := zS_inj h1 k0 k1
    have a2 := zS_inj h2 k0 k1
    have a3 := zS_inj h3 k0 k1
    have a4 := zS_inj h4 k0 k1
    unfold kbit at a2 a3 a4
    rcases kind_cases (hv k k0 k1) with e | e | e | e | e | e | e | e | e | e | e | e | e <;> rw [e] at a1 a2 a3 a4 ⊢ <;>
    (rcases kind_cases (hw k k0 k1) with e | e | e | e | e | e | e | e | e | e | e | e | e <;> rw [e] at a1 a2 a3 a4 ⊢ <;> first | rfl | exact absurd a1 (by decide) | exact absurd a2 (by decide) | exact absurd a3 (by decide) | exact absurd a4 (by decide))
  · intro h
    refine ⟨zS_congr fun k k0 k1 => by rw [h k k0 k1], zS_congr fun k k0 k1 => by unfold kbit; rw [h k k0 k1], zS_congr fun k k0 k1 => by unfold kbit; rw [h k k0 k1], zS_congr fun k k0 k1 => by unfold kbit; rw [h k k0 k1]⟩
theorem rest_inj {v w : Int → Int} (hv : rgV v) (hw : rgV w) : restI v = restI w ↔ v 64 = w 64 ∧ v 65 = w 65 ∧ v 66 = w 66 := by
  have := hv.2; have := hw.2
  unfold restI
  omega
theorem restI_r {v : Int → Int} (hv : rgV v) : 0 ≤ restI v ∧ restI v < 2112 := by have := hv.2; unfold restI; omega
theorem same_iff {v w : Int → Int} : sameB v w = true ↔ (∀ k : Int, 0 ≤ k → k < 64 → v k = w k) ∧ v 64 = w 64 ∧ v 65 = w 65 ∧ v 66 = w 66 := by
  unfold sameB
  rw [allL_iff]
  constructor
  · intro h
    exact ⟨fun k k0 k1 => by simpa using h k k0 (by omega), by simpa using h 64 (by decide) (by decide), by simpa using h 65 (by decide) (by decide), by simpa using h 66 (by decide) (by decide)⟩
  · intro ⟨h1, h2, h3, h4⟩ k k0 k1
    by_cases a : k < 64
    · simpa using h1 k k0 a
    · rcases (show k = 64 ∨ k = 65 ∨ k = 66 by omega) with e | e | e <;> rw [e] <;> simpa
theorem same_pl {v w : Int → Int} (hv : rgV v) (hw : rgV w) : sameB v w = true ↔ plW v = plW w ∧ plK v 1 = plK w 1 ∧ plK v 2 = plK w 2 ∧ plK v 4 = plK w 4 ∧ restI v = restI w := by
  rw [same_iff, ← pl_eq hv.1 hw.1, rest_inj hv hw]
  constructor
  · intro ⟨⟨a, b, c, d⟩, e⟩; exact ⟨a, b, c, d, e⟩
  · intro ⟨a, b, c, d, e⟩; exact ⟨⟨a, b, c, d⟩, e⟩
section
variable {D : wD} {U : wS} {a y : Nat} {v w : Int → Int}
theorem q_rest {post : Int64 → wS → Prop} (hv : rgV v) (hA : PO U a v) : wp_X7_rest D post U a = post (zI (restI v)) U := by
  obtain ⟨h1, h2, h3, h4, h5, h6, h7⟩ := hA
  have := hv.2
  have key : ∀ t : Int, t = v 64 → wp_X7_rest_12 D post U a (iI t) = post (zI (restI v)) U := by
    intro t ht
    unfold wp_X7_rest_12
    rw [h6, h7, show (2 : Int32) = iI 2 from rfl, show (1 : Int32) = iI 1 from rfl, iI_mul, iI_add, iI_add, zI_of (by omega) (by omega), zI_of (by omega) (by omega), show (32 : Int64) = zI 32 from rfl, zI_mul, zI_add]
    congr 1
    unfold restI
    congr 1
    omega
  unfold wp_X7_rest wp_X7_rest_0
  rw [h5, show (0 : Int32) = iI 0 from rfl, iI_eq (by omega) (by omega) (by decide) (by decide), show (1 : Int32) = iI 1 from rfl]
  apply propext
  by_cases z : v 64 = 0
  · rw [← key 0 z.symm]; exact ⟨fun h => h.1 z, fun h => ⟨fun _ => h, fun q => absurd z q⟩⟩
  · rw [← key 1 (by omega)]; exact ⟨fun h => h.2 z, fun h => ⟨fun q => absurd q z, fun _ => h⟩⟩
/-- where a place of a row lies -/
theorem sv_in {n : Nat} {i : Int} (hi : 0 ≤ i ∧ i * 5 + 5 ≤ (n : Int)) (hn : n < 1000000) {j : Int} (hj : 0 ≤ j ∧ j < 5) : vp_in (iI (i * 5 + j)) n := by
  exact iI_in (by omega) (by omega) (by omega)
theorem same_comm (v w : Int → Int) : sameB v w = sameB w v := by
  unfold sameB
  exact congrArg (fun f => allL f 0 67) (funext fun j => decide_eq_decide.mpr eq_comm)
theorem q_isSavedAt {post : Int32 → wS → Prop} (hA : PO U a v) (hv : rgV v) {i : Int} (hS : SV U y i w) (hw : rgV w) (hi : 0 ≤ i ∧ i * 5 + 5 ≤ (sN U y : Int)) (hn : sN U y < 1000000) (k : post (iI (bI (sameB w v))) U) : wp_X7_isSavedAt D post U a y (iI i) := by
  obtain ⟨h1, h2, h3, h4, h5, h6, h7⟩ := id hA
  obtain ⟨s0, s1, s2, s3, s4⟩ := hS
  unfold gJ at s0 s1 s2 s3 s4
  unfold wp_X7_isSavedAt wp_X7_isSavedAt_0 wp_X7_isSavedAt_20 wp_X7_isSavedAt_89 wp_X7_isSavedAt_90
  intro x1 e1
  have e1 : x1 = iI (i * 5) := by rw [e1, show (5 : Int32) = iI 5 from rfl, iI_mul]
  rw [e1]
  rw [show (0 : Int32) = iI 0 from rfl, show (5 : Int32) = iI 5 from rfl, show (1 : Int32) = iI 1 from rfl, show (2 : Int32) = iI 2 from rfl, show (3 : Int32) = iI 3 from rfl, show (4 : Int32) = iI 4 from rfl]
  simp only [iI_add]
  rw [s0, s1, s2, s3, s4, h1, h2, h3, h4]
  have nl : (Int32.ofNat (sN U y)) = iI ((sN U y : Nat) : Int) := rfl
  rw [nl]
  have iv := fun {j : Int} (hj : 0 ≤ j ∧ j < 5) => sv_in hi hn hj
  have iv0 := iv (j := 0) (by decide)
  rw [Int.add_zero] at iv0
  refine ⟨fun q => absurd ((iI_lt (by omega) (by omega) (by decide) (by decide)).mp q) (by omega), fun _ => ⟨fun q => absurd ((iI_lt (by omega) (by omega) (by decide) (by decide)).mp q) (by omega), fun _ => ⟨fun _ => ⟨iv0, ?_⟩, fun q => absurd ((iI_le (by omega) (by omega) (by omega) (by omega)).mpr (by omega)) q⟩⟩⟩
  have hf : ¬ (plW v = plW w ∧ plK v 1 = plK w 1 ∧ plK v 2 = plK w 2 ∧ plK v 4 = plK w 4 ∧ restI v = restI w) → narrow .boolean (.int (iI 0)) = .int (iI 0) ∧ post (iI 0) U := fun q => by
    have : sameB w v = false := by
      cases z : sameB w v
      · rfl
      · exact absurd ((same_pl hv hw).mp (by rw [same_comm]; exact z)) q
    rw [this] at k
    exact ⟨nr0, k⟩
  have lz : ∀ x y : Int64, (lg_cmp x y = iI 0) = (x = y) := fun x y => propext (lg_cmp_eq x y)
  simp only [lz]
  refine ⟨fun q => hf fun z => q z.1.symm, fun q1 => ⟨iv (by decide), fun q => hf fun z => q z.2.1.symm, fun q2 => ⟨iv (by decide), fun q => hf fun z => q z.2.2.1.symm, fun q3 => ⟨iv (by decide), fun q => hf fun z => q z.2.2.2.1.symm, fun q4 => ⟨iv (by decide), ?_⟩⟩⟩⟩⟩
  rw [q_rest hv hA, zI_inj (by have := restI_r hw; omega) (by have := restI_r hv; omega)]
  refine ⟨fun q => hf fun z => q z.2.2.2.2.symm, fun q5 => ?_⟩
  have : sameB w v = true := by rw [same_comm]; exact (same_pl hv hw).mpr ⟨q1.symm, q2.symm, q3.symm, q4.symm, q5.symm⟩
  rw [this] at k
  exact ⟨nr1, k⟩
theorem q_isLike {post : Int32 → wS → Prop} {b : Nat} (hA : PO U a v) (hv : rgV v) (hB : PO U b w) (hw : rgV w) (k : post (iI (bI (sameB v w))) U) : wp_X7_isLike D post U a b := by
  obtain ⟨h1, h2, h3, h4, h5, h6, h7⟩ := id hA
  obtain ⟨g1, g2, g3, g4, g5, g6, g7⟩ := id hB
  have r1 := hv.2; have r2 := hw.2
  unfold wp_X7_isLike wp_X7_isLike_0 wp_X7_isLike_85 wp_X7_isLike_86
  rw [h1, h2, h3, h4, h5, h6, h7, g1, g2, g3, g4, g5, g6, g7, iI_eq (by omega) (by omega) (by omega) (by omega), iI_eq (by omega) (by omega) (by omega) (by omega), iI_eq (by omega) (by omega) (by omega) (by omega)]
  simp only [lg_cmp_eq]
  have hf : ¬ (plW v = plW w ∧ plK v 1 = plK w 1 ∧ plK v 2 = plK w 2 ∧ plK v 4 = plK w 4 ∧ v 64 = w 64 ∧ v 65 = w 65 ∧ v 66 = w 66) → narrow .boolean (.int (0 : Int32)) = .int (0 : Int32) ∧ post (0 : Int32) U := fun q => by
    have : sameB v w = false := by
      cases z : sameB v w
      · rfl
      · have y := (same_pl hv hw).mp z
        exact absurd ⟨y.1, y.2.1, y.2.2.1, y.2.2.2.1, (rest_inj hv hw).mp y.2.2.2.2⟩ q
    rw [this] at k
    exact ⟨nr0, k⟩
  refine ⟨fun q => hf fun z => q z.1, fun q1 => ⟨fun q => hf fun z => q z.2.1, fun q2 => ⟨fun q => hf fun z => q z.2.2.1, fun q3 => ⟨fun q => hf fun z => q z.2.2.2.1, fun q4 => ⟨fun q => hf fun z => q z.2.2.2.2.1, fun q5 => ⟨fun q => hf fun z => q z.2.2.2.2.2.1, fun q6 => ⟨fun q => hf fun z => q z.2.2.2.2.2.2, fun q7 => ?_⟩⟩⟩⟩⟩⟩⟩
  have : sameB v w = true := (same_pl hv hw).mpr ⟨q1, q2, q3, q4, (rest_inj hv hw).mpr ⟨q5, q6, q7⟩⟩
  rw [this] at k
  exact ⟨nr1, k⟩
end
