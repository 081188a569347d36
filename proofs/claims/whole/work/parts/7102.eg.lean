section
variable {D : wD} {U : wS} {a y : Nat} {els : List Nat}
/-- room of a row of games behind the need of one more -/
def capA (cap len : Nat) : Nat := if len < cap then cap else if cap = 0 then 10 else cap + cap / 2
theorem shr1 : ∀ n : Nat, n < 100 → (iI (n : Int)) >>> ((1 : Int32) &&& 31) = iI ((n / 2 : Nat) : Int) := by decide +kernel
theorem AL.put (h : AL D U a y els) (hy : y ∈ sL U ∧ 10 ≤ sN U y) (hr : els.length < sN U y) {g : Nat} (hg : g ∈ sL U ∧ sK U g = 8) : AL D (uI (uR U y els.length (some g)) a 2 (iI (els.length + 1))) a y (els ++ [g]) := by
  obtain ⟨⟨h1, h2⟩, ⟨h3, h4, h5, h6, h7⟩, h8, h9, h10⟩ := id h
  have ne := h.ne
  refine ⟨⟨h1, h2⟩, ⟨?_, h4, h5, ?_, Or.inl hy⟩, ?_, fun j hj => ?_, fun x hx => ?_⟩
  · show sR (uR U y els.length (some g)) a 1 = some y
    rw [uR_a _ _ _ ne]; exact h3
  · show (els ++ [g]).length ≤ sN U y
    simp; omega
  · rw [uI_self]; simp
  · show sR (uR U y els.length (some g)) y j = _
    by_cases z : j = els.length
    · rw [z, uR_self]; simp
    · rw [uR_j _ _ _ z, h9 j hj]
      by_cases w : j < els.length
      · rw [List.getElem?_append_left w]
      · rw [List.getElem?_eq_none (by omega), List.getElem?_eq_none (by simp; omega)]
  · rcases List.mem_append.mp hx with q | q
    · exact h10 x q
    · rw [List.mem_singleton.mp q]; exact hg
theorem q_addA {post : Int32 → wS → Prop} {K : List Nat} {bc bs : Nat} (h : AL D U a y els) (hl : els.length < 60) (hc : sN U y < 90) {g : Nat} (hg : g ∈ sL U ∧ sK U g = 8) (hb : els.length = sN U y → 1 ≤ bc ∧ capA (sN U y) els.length ≤ bs)
    (hKa : a ∈ K) (hKy : els.length < sN U y → y ∈ K) (k : ∀ U' y', EX D U U' K → AL D U' a y' (els ++ [g]) → (y' = y ∨ ¬ wM D U y') → sN U' y' = capA (sN U y) els.length → post 1 U') : wp_Jx4a65c_add_9ea2d D post bc bs U a (some g) := by
  obtain ⟨⟨h1, h2⟩, ⟨h3, h4, h5, h6, h7⟩, h8, h9, h10⟩ := id h
  have ne := h.ne
  have ma : wM D U a := Or.inl h1
  unfold wp_Jx4a65c_add_9ea2d wp_Jx4a65c_add_9ea2d_0
  intro S1 e1
  have hE1 : EX D U S1 K := by rw [e1]; exact EX.rf.uI (fun _ => hKa) _ _
  have hA1 : AL D S1 a y els := by
    rw [e1]
    exact ⟨⟨h1, h2⟩, ⟨h3, h4, h5, h6, h7⟩, by rw [uI_j _ _ _ (by decide)]; exact h8, h9, h10⟩
  refine ⟨y, by rw [e1]; exact h3, by rw [e1]; exact h4, by rw [e1]; exact h5, bc, bs, Nat.le_refl _, Nat.le_refl _, ?_⟩
  have hg1 : g ∈ sL S1 ∧ sK S1 g = 8 := by rw [e1]; exact hg
  have hN1 : sN S1 y = sN U y := by rw [e1]; rfl
  have at11 : ∀ (bc bs : Nat) (U2 : wS) (y2 : Nat), EX D U U2 K → AL D U2 a y2 els → (y2 = y ∨ ¬ wM D U y2) → y2 ∈ sL U2 ∧ 10 ≤ sN U2 y2 → els.length < sN U2 y2 → sN U2 y2 < 200 → sN U2 y2 = capA (sN U y) els.length →
      wp_Jx4a65c_add_72be8_11 D (fun S_4 => narrow .boolean (.int (1 : Int32)) = .int (1 : Int32) ∧ post (1 : Int32) S_4) bc bs U2 a (some g) (some y2) (iI els.length) := by
    intro bc bs U2 y2 a1 a2 a3 a4 a5 a5' a6
    unfold wp_Jx4a65c_add_72be8_11
    have hg2 : g ∈ sL U2 ∧ sK U2 g = 8 := ⟨a1.L hg.1, by rw [a1.k (Or.inl hg.1)]; exact hg.2⟩
    refine ⟨y2, rfl, Or.inl a4.1, a2.2.1.2.2.1, a4.1, iI_in (by omega) (by omega) (by omega), fun q hq => ?_, ?_⟩
    · injection hq with hq; rw [← hq]; exact ⟨hg2.1, by rw [hg2.2]; decide⟩
    intro S4 e4 S5 e5
    have nl : (iI (els.length : Int)).toNatClampNeg = els.length := by have := iI_nat (a := (els.length : Int)) (by omega) (by omega); omega
    rw [nl] at e4
    rw [e4, show (1 : Int32) = iI 1 from rfl, iI_add] at e5
    rw [e5]
    refine ⟨nr1, k _ y2 ?_ (a2.put a4 a5 hg2) a3 a6⟩
    refine (a1.uR (fun hm => ?_) _ _).uI (fun _ => hKa) _ _
    rcases a3 with e | e
    · rw [e]
      refine hKy ?_
      rw [e, a1.n h4] at a5
      exact a5
    · exact absurd hm e
  unfold wp_Jx4a65c_add_72be8 wp_Jx4a65c_add_72be8_0
  rw [hA1.2.2.1, hN1, show Int32.ofNat (sN U y) = iI ((sN U y : Nat) : Int) from rfl, iI_eq (by omega) (by omega) (by omega) (by omega)]
  refine ⟨fun q => ?_, fun q => ⟨bc, bs, Nat.le_refl _, Nat.le_refl _, ?_⟩⟩
  · have hy : y ∈ sL U ∧ 10 ≤ sN U y := by
      rcases h7 with w | w
      · exact w
      · rw [w.2] at h6 q; omega
    refine at11 _ _ S1 y hE1 hA1 (Or.inl rfl) ⟨hE1.L hy.1, by rw [hN1]; exact hy.2⟩ (by rw [hN1]; omega) (by omega) ?_
    rw [hN1]; unfold capA; rw [if_pos (by omega)]
  · have hcap : els.length = sN U y := by omega
    have hb := hb hcap
    unfold capA at hb
    rw [if_neg (by omega)] at hb
    unfold wp_Jx4a65c_grow_d5877 wp_Jx4a65c_grow_d5877_0
    refine ⟨bc, bs, Nat.le_refl _, Nat.le_refl _, ?_⟩
    unfold wp_Jx4a65c_grow_92f84 wp_Jx4a65c_grow_92f84_0
    refine ⟨y, hA1.2.1.1, hA1.2.1.2.1, hA1.2.1.2.2.1, ?_⟩
    intro x2 e2
    rw [hN1, show Int32.ofNat (sN U y) = iI ((sN U y : Nat) : Int) from rfl] at e2
    rw [e2, hA1.2.2.1, show (1 : Int32) = iI 1 from rfl, iI_add, show (0 : Int32) = iI 0 from rfl, iI_lt (by decide) (by decide) (by omega) (by omega)]
    refine ⟨fun q0 => ?_, fun q0 => ⟨y, hA1.2.1.1, hA1.2.1.2.1, hA1.2.1.2.2.1, ?_⟩⟩
    · have hy : y ∈ sL U ∧ 10 ≤ sN U y := by
        rcases h7 with w | w
        · exact w
        · rw [w.2] at q0; omega
      rw [if_neg (by omega)] at hb
      unfold wp_Jx4a65c_grow_92f84_20 wp_J8_newLength_cabcc wp_J8_newLength_cabcc_0
      intro w1 g1
      rw [iI_sub, shr1 _ (by omega)] at g1
      have g1 : w1 = iI ((sN U y + sN U y / 2 : Nat) : Int) := by
        rw [g1, if_pos ((iI_lt (by omega) (by omega) (by omega) (by omega)).mpr (by omega)), iI_add]
        congr 1
      rw [g1, show (0 : Int32) = iI 0 from rfl, show (2147483639 : Int32) = iI 2147483639 from rfl, iI_le (by omega) (by omega) (by decide) (by decide), iI_lt (by decide) (by decide) (by omega) (by omega)]
      refine ⟨fun q => absurd q (by omega), fun _ => ⟨fun q => absurd q (by omega), fun _ => ⟨y, hA1.2.1.1, hA1.2.1.2.1, hA1.2.1.2.2.1, bc, bs, Nat.le_refl _, Nat.le_refl _, ?_⟩⟩⟩
      unfold wp_J7_copyOf_1904c wp_J7_copyOf_1904c_0
      intro y1 f1
      refine ⟨bc, bs, Nat.le_refl _, Nat.le_refl _, ?_⟩
      unfold wp_J7_copyOf_6403c wp_J7_copyOf_6403c_0
      intro y1' f1'
      rw [f1, f1']
      refine ⟨fun _ => ?_, fun q => absurd rfl q⟩
      have nn : (iI ((sN U y + sN U y / 2 : Nat) : Int)).toNatClampNeg = sN U y + sN U y / 2 := by have := iI_nat (a := ((sN U y + sN U y / 2 : Nat) : Int)) (by omega) (by omega); omega
      rw [show (0 : Int32) = iI 0 from rfl, nn]
      refine ⟨fun q => absurd ((iI_lt (by omega) (by omega) (by decide) (by decide)).mp q) (by omega), by omega, hb.1, hb.2, ?_⟩
      intro y3 hy3 S4 e4
      have ey : y ≠ y3 := fun z => hy3 (z ▸ hE1.M h4)
      have ea : a ≠ y3 := fun z => hy3 (z ▸ hE1.M ma)
      have hN : sN S4 y = sN U y := by rw [e4]; exact (va_up_ne _ _ ey).trans hN1
      have hN3 : sN S4 y3 = sN U y + sN U y / 2 := by rw [e4]; exact va_up_self _ _ _
      have hR : sR S4 y = sR S1 y := by rw [e4]; exact va_up_ne _ _ ey
      have hR3 : ∀ j, sR S4 y3 j = none := by intro j; rw [e4]; show va_up (sR S1) y3 (fun _ => none) y3 j = none; rw [va_up_self]
      have hE4 : EX D U S4 K := by rw [e4]; exact hE1.nA hy3 _ _
      rw [hN, show Int32.ofNat (sN U y) = iI ((sN U y : Nat) : Int) from rfl]
      have hif : (if iI ((sN U y + sN U y / 2 : Nat) : Int) < iI ((sN U y : Nat) : Int) then iI ((sN U y + sN U y / 2 : Nat) : Int) else iI ((sN U y : Nat) : Int)) = iI ((sN U y : Nat) : Int) := if_neg (fun q => absurd ((iI_lt (by omega) (by omega) (by omega) (by omega)).mp q) (by omega))
      rw [hif]
      have n0 : (iI 0).toNatClampNeg = 0 := by decide
      have n1 : (iI ((sN U y : Nat) : Int)).toNatClampNeg = sN U y := by have := iI_nat (a := ((sN U y : Nat) : Int)) (by omega) (by omega); omega
      rw [n0, n1, hN3]
      refine ⟨hE4.L hy.1, by rw [e4]; exact List.mem_append_right _ (List.mem_singleton.mpr rfl), by decide, by decide, fun q => absurd ((iI_lt (by omega) (by omega) (by decide) (by decide)).mp q) (by omega), by omega, by omega, ?_, ?_⟩
      · intro i hi q hq
        rw [hR, Nat.zero_add, hA1.2.2.2.1 i (by rw [hN1]; exact hi)] at hq
        have hm := h10 q (List.mem_of_getElem? hq)
        exact ⟨hE4.M (Or.inl hm.1), by rw [hE4.k (Or.inl hm.1)]; exact hm.2⟩
      intro S7 e7 S8 e8
      have hE7 : EX D U S7 K := by
        rw [e7]
        refine ⟨⟨hE4.1.1, hE4.1.2⟩, fun b hb hn => ?_⟩
        have e := hE4.2 b hb hn
        have nb : b ≠ y3 := fun z => hy3 (z ▸ hE1.M hb)
        exact ⟨e.1, e.2.1, (va_up_ne _ _ nb).trans e.2.2⟩
      have hE8 : EX D U S8 K := by rw [e8]; exact hE7.uR (fun _ => hKa) 1 (some y3)
      have r3 : sR S8 y3 = va_cpy (sR S4 y) (sR S4 y3) 0 0 (sN U y) := by
        rw [e8, uR_a _ _ _ (Ne.symm ea), e7]
        show va_up (sR S4) y3 _ y3 = _
        rw [va_up_self]
      have nS : sN S8 y3 = sN U y + sN U y / 2 := by rw [e8, e7]; exact hN3
      have iS : sI S8 a = sI S1 a := by rw [e8, e7, e4]; exact va_up_ne _ _ ea
      refine at11 _ _ S8 y3 hE8 ⟨⟨hE8.L h1, by rw [hE8.k ma, h2]⟩, ⟨by rw [e8, uR_self], Or.inl ?_, ?_, by rw [nS]; omega, Or.inl ⟨?_, by rw [nS]; omega⟩⟩, by rw [iS]; exact hA1.2.2.1, fun j hj => ?_, fun q hq => ⟨hE8.L (h10 q hq).1, by rw [hE8.k (Or.inl (h10 q hq).1)]; exact (h10 q hq).2⟩⟩ (Or.inr fun z => hy3 (hE1.M z)) ⟨?_, by rw [nS]; omega⟩ (by rw [nS]; omega) (by rw [nS]; omega) ?_
      · rw [e8, e7, e4]; exact List.mem_append_right _ (List.mem_singleton.mpr rfl)
      · rw [e8, e7, e4]; exact va_up_self _ _ _
      · rw [e8, e7, e4]; exact List.mem_append_right _ (List.mem_singleton.mpr rfl)
      · rw [r3]; unfold va_cpy
        by_cases z : j < sN U y
        · rw [if_pos (by omega), Nat.zero_add, Nat.sub_zero, hR]; exact hA1.2.2.2.1 j (by rw [hN1]; exact z)
        · rw [if_neg (by omega), hR3, List.getElem?_eq_none (by omega)]
      · rw [e8, e7, e4]; exact List.mem_append_right _ (List.mem_singleton.mpr rfl)
      · rw [nS]; unfold capA; rw [if_neg (by omega), if_neg (by omega)]
    · have z0 : sN U y = 0 := by omega
      have e106 : y = D.2.2.1 106 := by
        rcases h7 with w | w
        · omega
        · exact w.1
      intro y5 f5
      rw [f5, ← e106]
      refine ⟨fun _ => ?_, fun q => absurd rfl q⟩
      rw [if_pos z0] at hb
      have hif : (if (10 : Int32) < iI ((els.length : Int) + 1) then iI ((els.length : Int) + 1) else (10 : Int32)) = iI 10 := if_neg (fun q => absurd ((iI_lt (a := 10) (by decide) (by decide) (by omega) (by omega)).mp q) (by omega))
      rw [hif]
      refine ⟨by decide, by decide, hb.1, hb.2, ?_⟩
      intro y7 hy7 S8 e8 S10 e10
      have ey : y ≠ y7 := fun z => hy7 (z ▸ hE1.M h4)
      have ea : a ≠ y7 := fun z => hy7 (z ▸ hE1.M ma)
      have hE8 : EX D U S8 K := by rw [e8]; exact hE1.nA hy7 _ _
      have hE10 : EX D U S10 K := by rw [e10]; exact hE8.uR (fun _ => hKa) 1 (some y7)
      have nS : sN S10 y7 = 10 := by rw [e10, e8]; exact va_up_self _ _ _
      have iS : sI S10 a = sI S1 a := by rw [e10, e8]; exact va_up_ne _ _ ea
      have rS : ∀ j, sR S10 y7 j = none := by
        intro j
        rw [e10, uR_a _ _ _ (Ne.symm ea), e8]
        show va_up (sR S1) y7 (fun _ => none) y7 j = none
        rw [va_up_self]
      have el0 : els = [] := List.length_eq_zero_iff.mp (by omega)
      refine at11 _ _ S10 y7 hE10 ⟨⟨hE10.L h1, by rw [hE10.k ma, h2]⟩, ⟨by rw [e10, uR_self], Or.inl ?_, ?_, by rw [nS]; omega, Or.inl ⟨?_, by rw [nS]; omega⟩⟩, by rw [iS]; exact hA1.2.2.1, fun j hj => ?_, fun q hq => ⟨hE10.L (h10 q hq).1, by rw [hE10.k (Or.inl (h10 q hq).1)]; exact (h10 q hq).2⟩⟩ (Or.inr fun z => hy7 (hE1.M z)) ⟨?_, by rw [nS]; omega⟩ (by rw [nS]; omega) (by rw [nS]; omega) ?_
      · rw [e10, e8]; exact List.mem_append_right _ (List.mem_singleton.mpr rfl)
      · rw [e10, e8]; exact va_up_self _ _ _
      · rw [e10, e8]; exact List.mem_append_right _ (List.mem_singleton.mpr rfl)
      · rw [rS, el0]; rfl
      · rw [e10, e8]; exact List.mem_append_right _ (List.mem_singleton.mpr rfl)
      · rw [nS]; unfold capA; rw [if_neg (by omega), if_pos z0]
end
