section
variable {D : wD} {S : wS} {o : Nat → Nat} {c : cM} {F R : Int} {p : Nat} {v : Int → Int}
theorem isP11 : isP 11 := by decide
theorem q_materialC {post : Int32 → wS → Prop} (h : CC D S o) (hB : BG c F R) (hv : okP v) (hb : brd F R v) (hA : PAt c 11 v) {s : Int} (hs : s = 0 ∨ s = 1) (k : post (iI (matB F R v s)) (cS S o c)) : wp_X11_material D post (cS S o c) (o 0) (iI s) := by
  have hm := hB.m
  unfold wp_X11_material wp_X11_material_0
  refine ⟨o 11, c_r h rfl, (c_m h (by decide)).mpr trivial, c_k h (by decide), ?_⟩
  rw [q_ofSide h isP11 hv hA hs]
  refine ⟨o 11, c_r h rfl, (c_m h (by decide)).mpr trivial, c_k h (by decide), ?_⟩
  rw [show (2 : Int32) = iI 2 from rfl, q_ofKind h isP11 hv hA (by decide), zS_and, q_bitCount]
  refine ⟨o 11, c_r h rfl, (c_m h (by decide)).mpr trivial, c_k h (by decide), ?_⟩
  rw [show (3 : Int32) = iI 3 from rfl, q_ofKind h isP11 hv hA (by decide), zS_and, q_bitCount]
  refine ⟨o 11, c_r h rfl, (c_m h (by decide)).mpr trivial, c_k h (by decide), ?_⟩
  rw [show (4 : Int32) = iI 4 from rfl, q_ofKind h isP11 hv hA (by decide)]
  refine ⟨o 11, c_r h rfl, (c_m h (by decide)).mpr trivial, c_k h (by decide), ?_⟩
  rw [show (5 : Int32) = iI 5 from rfl, q_ofKind h isP11 hv hA (by decide), zS_or, zS_and, q_bitCount]
  refine ⟨o 11, c_r h rfl, (c_m h (by decide)).mpr trivial, c_k h (by decide), ?_⟩
  rw [show (6 : Int32) = iI 6 from rfl, q_ofKind h isP11 hv hA (by decide), zS_and, q_bitCount]
  rw [← mat_z (by omega) hv hb] at k
  rw [show (9 : Int32) = iI 9 from rfl, iI_mul, iI_mul, iI_mul, iI_add, iI_add, iI_add]
  exact k
theorem q_setOf {post : Int64 → wS → Prop} (h : CC D S o) (hF : c.1 1 0 = F) (hR : c.1 1 1 = R) (hm : 4 ≤ F ∧ F ≤ 8 ∧ 4 ≤ R ∧ R ≤ 8) {f r : Int} (hf : i32 f) (hr : i32 r) : wp_X0_setOf D post (cS S o c) (o 1) (iI f) (iI r) = post (zS (setB F R f r)) (cS S o c) := by
  unfold wp_X0_setOf wp_X0_setOf_0 wp_X0_setOf_28 wp_X0_setOf_29 wp_X0_setOf_48
  have e0 : sI (cS S o c) (o 1) 0 = iI F := by rw [c_i0 h (by decide)]; exact congrArg iI hF
  have e1 : sI (cS S o c) (o 1) 1 = iI R := by rw [c_i0 h (by decide)]; exact congrArg iI hR
  rw [e0, e1]
  have l0 : (iI f < 0) = (f < 0) := by rw [show (0 : Int32) = iI 0 from rfl, iI_lt hf.1 hf.2 (by decide) (by decide)]
  have l1 : (iI r < 0) = (r < 0) := by rw [show (0 : Int32) = iI 0 from rfl, iI_lt hr.1 hr.2 (by decide) (by decide)]
  have l2 : (iI F ≤ iI f) = (F ≤ f) := by rw [iI_le (by omega) (by omega) hf.1 hf.2]
  have l3 : (iI R ≤ iI r) = (R ≤ r) := by rw [iI_le (by omega) (by omega) hr.1 hr.2]
  simp only [l0, l1, l2, l3, show ((1 : Int32) = 0) = False from by decide, not_false_eq_true, true_implies, false_implies, true_and, and_true]
  by_cases a0 : f < 0
  · rw [show zS (setB F R f r) = 0 from (zS_0 _).mpr (fun k _ _ => by unfold setB; rw [decide_eq_false (show ¬ 0 ≤ f by omega)]; rfl)]
    simp only [a0, true_implies, not_true_eq_false, false_implies, and_true]
  by_cases a1 : F ≤ f
  · rw [show zS (setB F R f r) = 0 from (zS_0 _).mpr (fun k _ _ => by unfold setB; rw [decide_eq_false (show ¬ f < F by omega), Bool.and_false]; rfl)]
    simp only [a0, a1, true_implies, not_true_eq_false, not_false_eq_true, false_implies, and_true, true_and]
  by_cases a2 : r < 0
  · rw [show zS (setB F R f r) = 0 from (zS_0 _).mpr (fun k _ _ => by unfold setB; rw [decide_eq_false (show ¬ 0 ≤ r by omega), Bool.and_false]; rfl)]
    simp only [a0, a1, a2, true_implies, not_true_eq_false, not_false_eq_true, false_implies, and_true, true_and]
  by_cases a3 : R ≤ r
  · rw [show zS (setB F R f r) = 0 from (zS_0 _).mpr (fun k _ _ => by unfold setB; rw [decide_eq_false (show ¬ r < R by omega), Bool.and_false]; rfl)]
    simp only [a0, a1, a2, a3, true_implies, not_true_eq_false, not_false_eq_true, false_implies, and_true, true_and]
  simp only [a0, a1, a2, a3, true_implies, not_true_eq_false, not_false_eq_true, false_implies, and_true, true_and]
  rcases (show F = 4 ∨ F = 5 ∨ F = 6 ∨ F = 7 ∨ F = 8 by omega) with q | q | q | q | q <;>
  · have hn : 0 ≤ r * F + f ∧ r * F + f < 64 := by subst q; omega
    rw [iI_mul, iI_add, zS_one hn, show zS (setB F R f r) = zS (fun k => decide (k = r * F + f)) from zS_congr (fun k _ _ => by unfold setB; rw [decide_eq_true (show 0 ≤ f by omega), decide_eq_true (show f < F by omega), decide_eq_true (show 0 ≤ r by omega), decide_eq_true (show r < R by omega)]; rfl)]
def fileU (F R f : Int) (d : Int) (k : Int) : Bool := decide (k % F = f) && decide (0 ≤ k) && decide (k / F < d)
theorem q_sof_5 {post : Int64 → wS → Prop} (h : CC D S o) (hB : BG c F R) {f : Int} (hf : 0 ≤ f ∧ f < F) (x1 : Int32) (hx : x1 = iI f) : ∀ (n d : Nat) (j : Int), d < n → 0 ≤ j → j + d = R → post (zS (fileU F R f R)) (cS S o c) →
    wp_X0_squaresOfFile_5 D post n (cS S o c) (o 1) x1 (zS (fileU F R f j)) (iI j) := by
  have h4 := hB.f4; have h8 := hB.f8; have r4 := hB.r4; have r8 := hB.r8
  have e1 : sI (cS S o c) (o 1) 1 = iI R := by rw [c_i0 h (by decide)]; exact congrArg iI hB.r
  intro n
  induction n with
  | zero => intro d j hd; omega
  | succ n ih =>
    intro d j hd h0 hj k
    unfold wp_X0_squaresOfFile_5
    rw [e1, iI_le (by omega) (by omega) (by omega) (by omega)]
    refine ⟨fun q => ?_, fun q => ?_⟩
    · rw [show j = R by omega]; exact k
    · rw [hx, q_setOf h hB.f hB.r ⟨h4, h8, r4, r8⟩ ⟨by omega, by omega⟩ ⟨by omega, by omega⟩, zS_or]
      intro x4 e4 x5 e5
      rw [e4, e5, show (1 : Int32) = iI 1 from rfl, iI_add]
      have := ih (d - 1) (j + 1) (by omega) (by omega) (by omega) k
      rw [hx] at this
      rw [show zS (fun k => fileU F R f j k || setB F R f j k) = zS (fileU F R f (j + 1)) from zS_congr fun k k0 k1 => ?_]
      · exact this
      · have g1 := Int.emod_lt_of_pos k (show 0 < F by omega)
        have g0 := Int.emod_nonneg k (show F ≠ 0 by omega)
        have g2 := Int.mul_ediv_add_emod k F
        unfold fileU setB
        rw [decide_eq_true (show 0 ≤ f by omega), decide_eq_true (show f < F by omega), decide_eq_true (show 0 ≤ j by omega), decide_eq_true (show j < R by omega), decide_eq_true k0]
        have e : (k = j * F + f) ↔ (k % F = f ∧ k / F = j) := by
          constructor
          · intro z
            rw [z]
            exact ⟨by rw [Int.add_comm, Int.add_mul_emod_self_right]; exact Int.emod_eq_of_lt hf.1 hf.2, by rw [Int.add_comm, Int.add_mul_ediv_right _ _ (by omega), Int.ediv_eq_zero_of_lt hf.1 hf.2]; omega⟩
          · intro ⟨z1, z2⟩
            rw [z1, z2, Int.mul_comm] at g2; omega
        rw [show decide (k = j * F + f) = (decide (k % F = f) && decide (k / F = j)) by rw [← Bool.decide_and]; exact decide_eq_decide.mpr e]
        by_cases z1 : k % F = f <;> by_cases z2 : k / F = j
        · simp [z1, z2]; omega
        · simp [z1, z2]; omega
        · simp [z1]
        · simp [z1]
theorem q_isOpenFileC {post : Int32 → wS → Prop} {xp : String → wS → Prop} (h : CC D S o) (hB : BG c F R) (hv : okP v) (hb : brd F R v) (hA : PAt c 11 v) {f : Int} (hf : i32 f)
    (k0 : inB f 0 (F - 1) = false → xp "java/lang/IndexOutOfBoundsException" (cS S o c)) (k1 : inB f 0 (F - 1) = true → post (iI (bI (openB F R v f))) (cS S o c)) : wp_X11_isOpenFile D post xp (cS S o c) (o 0) (iI f) := by
  have h4 := hB.f4; have h8 := hB.f8; have r4 := hB.r4; have r8 := hB.r8
  have e0 : sI (cS S o c) (o 1) 0 = iI F := by rw [c_i0 h (by decide)]; exact congrArg iI hB.f
  unfold wp_X11_isOpenFile wp_X11_isOpenFile_0 wp_X11_isOpenFile_15
  have l0 : (iI f < 0) = (f < 0) := by rw [show (0 : Int32) = iI 0 from rfl, iI_lt hf.1 hf.2 (by decide) (by decide)]
  rw [l0]
  refine ⟨fun q => k0 (by unfold inB; rw [decide_eq_false (by omega)]; rfl), fun q => ⟨o 1, c_r h rfl, (c_m h (by decide)).mpr trivial, c_k h (by decide), ?_⟩⟩
  rw [e0, iI_lt hf.1 hf.2 (by omega) (by omega)]
  refine ⟨fun q2 => ?_, fun q2 => k0 (by unfold inB; rw [decide_eq_false (show ¬ f ≤ F - 1 by omega), Bool.and_false])⟩
  refine ⟨o 11, c_r h rfl, (c_m h (by decide)).mpr trivial, c_k h (by decide), ?_⟩
  rw [show (6 : Int32) = iI 6 from rfl, q_ofKind h isP11 hv hA (by decide)]
  refine ⟨o 1, c_r h rfl, (c_m h (by decide)).mpr trivial, c_k h (by decide), ?_⟩
  unfold wp_X0_squaresOfFile wp_X0_squaresOfFile_0
  refine ⟨9, ?_⟩
  rw [show (0 : Int64) = zS (fileU F R f 0) from ((zS_0 _).mpr (fun k k0 _ => by unfold fileU; have := Int.ediv_nonneg k0 (show 0 ≤ F by omega); rw [decide_eq_false (show ¬ k / F < 0 by omega), Bool.and_false])).symm]
  refine q_sof_5 h hB ⟨by omega, q2⟩ (iI f) rfl 9 R.toNat 0 (by omega) (by decide) (by omega) ?_
  have hin : inB f 0 (F - 1) = true := by unfold inB; rw [decide_eq_true (by omega), decide_eq_true (by omega)]; rfl
  have k := k1 hin
  rw [zS_and]
  simp only [lg_cmp_eq]
  unfold wp_X11_isOpenFile_53
  have e : (zS (fun k => decide (kindO (v k) = 6) && fileU F R f R k) = zS (fileU F R f 0)) = (openB F R v f = true) := by
    rw [show zS (fileU F R f 0) = 0 from (zS_0 _).mpr (fun k k0 _ => by unfold fileU; have := Int.ediv_nonneg k0 (show 0 ≤ F by omega); rw [decide_eq_false (show ¬ k / F < 0 by omega), Bool.and_false]), zS_0]
    apply propext
    unfold openB
    rw [allL_iff]
    constructor
    · intro z j j0 j1
      have hr : 0 ≤ F * j + f ∧ F * j + f < F * R := by
        rcases (show F = 4 ∨ F = 5 ∨ F = 6 ∨ F = 7 ∨ F = 8 by omega) with q | q | q | q | q <;> (subst q; omega)
      have hm := hB.m
      have := z (F * j + f) hr.1 (by omega)
      have d1 : (F * j + f) % F = f := by rw [Int.add_comm, Int.add_mul_emod_self_left]; exact Int.emod_eq_of_lt (by omega) q2
      have d2 : (F * j + f) / F = j := by rw [Int.add_comm, Int.add_mul_ediv_left _ _ (by omega), Int.ediv_eq_zero_of_lt (by omega) q2]; omega
      unfold fileU at this
      rw [d1, d2, decide_eq_true (rfl : f = f), decide_eq_true hr.1, decide_eq_true (show j < R by omega), Bool.and_true, Bool.and_true, Bool.and_true] at this
      rw [this]; rfl
    · intro z k k0 k1
      unfold fileU
      by_cases c1 : k % F = f
      · by_cases c2 : k / F < R
        · have := z (k / F) (Int.ediv_nonneg k0 (by omega)) (by omega)
          have g2 := Int.mul_ediv_add_emod k F
          rw [show F * (k / F) + f = k by omega] at this
          rw [Bool.not_eq_true'] at this
          rw [this]; rfl
        · rw [decide_eq_false c2, Bool.and_false, Bool.and_false]
      · rw [decide_eq_false c1]; simp
  simp only [show ∀ x : Int64, (lg_cmp x (zS (fileU F R f 0)) = 0) = (x = zS (fileU F R f 0)) from fun x => propext (lg_cmp_eq _ _), e]
  cases w : openB F R v f
  · rw [w] at k; exact ⟨fun _ => ⟨nr0, k⟩, fun z => absurd z (by decide)⟩
  · rw [w] at k; exact ⟨fun z => absurd rfl z, fun _ => ⟨nr1, k⟩⟩
end
