/-! PHASE 3: more letters at once -/
def capM (cap need : Nat) : Nat := if need ≤ cap then cap else 2 * cap + 2
section
variable {D : wD} {U : wS} {a y : Nat} {L : List Int}
theorem q_ensureK {post : wS → Prop} {bc bs : Nat} (h : SB U a y L) (hc : sN U y < 100000) {q : Nat} (hq : 1 ≤ q ∧ q ≤ sN U y) (hb : sN U y < L.length + q → 1 ≤ bc ∧ 2 * sN U y + 2 ≤ bs)
    (k : ∀ U' y', EX D U U' [a, y] → SB U' a y' L → (y' = y ∨ ¬ wM D U y') → sN U' y' = capM (sN U y) (L.length + q) → post U') : wp_J5_ensureCapacityInternal_d00df D post bc bs U a (iI (L.length + q)) := by
  by_cases hr : L.length + q ≤ sN U y
  · refine q_ensure0 h (by omega) (by omega) (k U y EX.rf h (Or.inl rfl) ?_)
    unfold capM; rw [if_pos hr]
  obtain ⟨⟨h1, h2⟩, ⟨h3, h4, h5, h6⟩, ⟨h7, h8⟩, h9, h10, h11⟩ := id h
  have ne := h.ne
  have hL : sN U y < L.length + q := by omega
  have hb := hb hL
  unfold wp_J5_ensureCapacityInternal_d00df wp_J5_ensureCapacityInternal_d00df_0 wp_J5_ensureCapacityInternal_d00df_38
  refine ⟨y, h3, Or.inl h4, h5, ?_⟩
  intro x2 e2
  rw [h7, shr0, show Int32.ofNat (sN U y) = iI ((sN U y : Nat) : Int) from rfl] at e2
  rw [e2, iI_sub, show (0 : Int32) = iI 0 from rfl, iI_le (by omega) (by omega) (by decide) (by decide)]
  refine ⟨fun q => absurd q (by omega), fun _ => ⟨y, h3, Or.inl h4, h5, ?_⟩⟩
  unfold wp_J5_newCapacity_0f7a4 wp_J5_newCapacity_0f7a4_0
  refine ⟨y, h3, Or.inl h4, h5, ?_⟩
  intro z2 f2 z3 f3 z4 f4
  rw [h7, shl0] at f3
  rw [f3, f2, show Int32.ofNat (sN U y) = iI ((sN U y : Nat) : Int) from rfl, iI_sub] at f4
  rw [f4, f2, h7, shl0, show Int32.ofNat (sN U y) = iI ((sN U y : Nat) : Int) from rfl, show (2 : Int32) = iI 2 from rfl, iI_add]
  unfold wp_J8_newLength_cabcc wp_J8_newLength_cabcc_0
  intro w1 g1
  have g1 : w1 = iI (2 * sN U y + 2) := by
    rw [g1, if_pos ((iI_lt (by omega) (by omega) (by omega) (by omega)).mpr (by omega)), iI_add]
    congr 1; omega
  rw [g1, show (0 : Int32) = iI 0 from rfl, show (2147483639 : Int32) = iI 2147483639 from rfl, iI_le (by omega) (by omega) (by decide) (by decide), iI_lt (by decide) (by decide) (by omega) (by omega)]
  refine ⟨fun q => absurd q (by omega), fun _ => ⟨fun q => absurd q (by omega), fun _ => ?_⟩⟩
  dsimp only
  rw [show (2147483647 : Int32) = iI 2147483647 from rfl, iI_eq (a := 2 * ((sN U y : Nat) : Int) + 2) (by omega) (by omega) (by decide) (by decide)]
  refine ⟨fun _ => ?_, fun q => absurd q (by omega)⟩
  rw [h7, shr0]
  refine ⟨bc, bs, Nat.le_refl _, Nat.le_refl _, ?_⟩
  rw [shl0]
  unfold wp_J7_copyOf_9075b wp_J7_copyOf_9075b_0
  have nn : (iI (2 * ((sN U y : Nat) : Int) + 2)).toNatClampNeg = 2 * sN U y + 2 := by have := iI_nat (a := 2 * ((sN U y : Nat) : Int) + 2) (by omega) (by omega); omega
  rw [show Int32.ofNat (sN U y) = iI ((sN U y : Nat) : Int) from rfl, iI_eq (by omega) (by omega) (by omega) (by omega)]
  refine ⟨fun _ => ?_, fun q => absurd q (by omega)⟩
  rw [show (0 : Int32) = iI 0 from rfl, iI_lt (by omega) (by omega) (by decide) (by decide), nn]
  refine ⟨by omega, by omega, hb.1, hb.2, ?_⟩
  intro y2 hy2 S3 e3
  have ey : y ≠ y2 := fun z => hy2 (z ▸ Or.inl h4)
  have ea : a ≠ y2 := fun z => hy2 (z ▸ Or.inl h1)
  have hN : sN S3 y = sN U y := by rw [e3]; exact va_up_ne _ _ ey
  have hN2 : sN S3 y2 = 2 * sN U y + 2 := by rw [e3]; exact va_up_self _ _ _
  have hI3 : sI S3 y = sI U y := by rw [e3]; exact va_up_ne _ _ ey
  rw [hN, show Int32.ofNat (sN U y) = iI ((sN U y : Nat) : Int) from rfl]
  have hif : (if iI (2 * ((sN U y : Nat) : Int) + 2) < iI ((sN U y : Nat) : Int) then iI (2 * ((sN U y : Nat) : Int) + 2) else iI ((sN U y : Nat) : Int)) = iI ((sN U y : Nat) : Int) := if_neg (fun q => absurd ((iI_lt (by omega) (by omega) (by omega) (by omega)).mp q) (by omega))
  rw [hif]
  have n0 : (iI 0).toNatClampNeg = 0 := by decide
  have n1 : (iI ((sN U y : Nat) : Int)).toNatClampNeg = sN U y := by have := iI_nat (a := ((sN U y : Nat) : Int)) (by omega) (by omega); omega
  rw [n0, n1, hN2]
  refine ⟨by rw [e3]; exact List.mem_append_right _ (List.mem_singleton.mpr rfl), by decide, by decide, fun q => absurd ((iI_lt (by omega) (by omega) (by decide) (by decide)).mp q) (by omega), by omega, by omega, fun i hi => by rw [hI3, Nat.zero_add]; exact h11 i hi, ?_⟩
  intro S6 e6 S11 e11
  have hE3 : EX D U S3 [a, y] := by rw [e3]; exact EX.rf.nA hy2 _ _
  have hE6 : EX D U S6 [a, y] := by
    rw [e6]
    refine ⟨⟨hE3.1.1, hE3.1.2⟩, fun b hb hn => ?_⟩
    have e := hE3.2 b hb hn
    have nb : b ≠ y2 := fun z => hy2 (z ▸ hb)
    exact ⟨(va_up_ne _ _ nb).trans e.1, e.2⟩
  have hE : EX D U S11 [a, y] := by rw [e11]; exact hE6.uR (fun _ => by simp) 0 (some y2)
  have iy2 : sI S11 y2 = va_cpy (sI U y) (sI S3 y2) 0 0 (sN U y) := by
    rw [e11, e6]
    show va_up (sI S3) y2 (va_cpy (sI S3 y) (sI S3 y2) 0 0 (sN U y)) y2 = _
    rw [va_up_self, hI3]
  have ia : sI S11 a = sI U a := by
    rw [e11, e6]
    show va_up (sI S3) y2 (va_cpy (sI S3 y) (sI S3 y2) 0 0 (sN U y)) a = _
    rw [va_up_ne _ _ ea, e3]; exact va_up_ne _ _ ea
  have z3 : ∀ j, sI S3 y2 j = 0 := by intro j; rw [e3]; show va_up (sI U) y2 (fun _ => 0) y2 j = 0; rw [va_up_self]
  have nS : sN S11 y2 = 2 * sN U y + 2 := by rw [e11, e6]; exact hN2
  refine k S11 y2 hE ⟨⟨hE.L h1, by rw [hE.k (Or.inl h1), h2]⟩, ⟨?_, ?_, ?_, ?_⟩, ⟨by rw [ia, h7], by rw [ia, h8]⟩, fun j hj => ?_, h10, fun j hj => ?_⟩ (Or.inr hy2) ?_
  · rw [e11, uR_self]
  · rw [e11, e6, e3]; exact List.mem_append_right _ (List.mem_singleton.mpr rfl)
  · rw [e11, e6, e3]; exact va_up_self _ _ _
  · rw [nS]; omega
  · rw [iy2]; unfold va_cpy; rw [if_pos (by omega), Nat.zero_add, Nat.sub_zero]; exact h9 j hj
  · rw [iy2]; unfold va_cpy
    split
    · rw [Nat.zero_add, Nat.sub_zero]; exact h11 j (by omega)
    · rw [z3]; decide
  · rw [nS]; unfold capM; rw [if_neg hr]
end
