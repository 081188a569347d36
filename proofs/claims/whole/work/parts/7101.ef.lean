/-! PHASE 3, LISTS OF GAMES -/
/-- an ArrayList at a with the row y, that holds the games els -/
abbrev AL (D : wD) (U : wS) (a y : Nat) (els : List Nat) : Prop := (a ∈ sL U ∧ sK U a = 4) ∧ (sR U a 1 = some y ∧ wM D U y ∧ sK U y = 24 ∧ els.length ≤ sN U y ∧ ((y ∈ sL U ∧ 10 ≤ sN U y) ∨ (y = D.2.2.1 106 ∧ sN U y = 0))) ∧ sI U a 2 = iI els.length ∧ (∀ j : Nat, j < sN U y → sR U y j = els[j]?) ∧ ∀ g ∈ els, g ∈ sL U ∧ sK U g = 8
section
variable {D : wD} {U : wS} {a y : Nat} {els : List Nat} {post : Int32 → wS → Prop}
theorem AL.ne (h : AL D U a y els) : a ≠ y := fun e => by have := h.1.2; rw [e, h.2.1.2.2.1] at this; exact absurd this (by decide)
theorem AL.ex {U' : wS} {K : List Nat} (he : EX D U U' K) (ha : a ∉ K) (hy : y ∉ K) (h : AL D U a y els) : AL D U' a y els := by
  obtain ⟨⟨h1, h2⟩, ⟨h3, h4, h5, h6, h7⟩, h8, h9, h10⟩ := h
  have ma : wM D U a := Or.inl h1
  refine ⟨⟨he.L h1, by rw [he.k ma, h2]⟩, ⟨by rw [he.r ma ha, h3], he.M h4, by rw [he.k h4, h5], by rw [he.n h4]; exact h6, ?_⟩, by rw [he.i ma ha, h8], fun j hj => by rw [he.n h4] at hj; rw [he.r h4 hy]; exact h9 j hj, fun g hg => ⟨he.L (h10 g hg).1, by rw [he.k (Or.inl (h10 g hg).1)]; exact (h10 g hg).2⟩⟩
  rcases h7 with q | q
  · exact Or.inl ⟨he.L q.1, by rw [he.n h4]; exact q.2⟩
  · exact Or.inr ⟨q.1, by rw [he.n h4]; exact q.2⟩
theorem q_sizeA (h : AL D U a y els) (k : post (iI els.length) U) : wp_Jx4a65c_size_8abf5 D post U a := by
  unfold wp_Jx4a65c_size_8abf5 wp_Jx4a65c_size_8abf5_0
  rw [h.2.2.1]; exact k
theorem q_getA {post : Option Nat → wS → Prop} (h : AL D U a y els) (hc : sN U y < 100000) {i : Int} (hi : 0 ≤ i ∧ i < els.length) (k : post els[i.toNat]? U) : wp_Jx4a65c_get_915e3 D post U a (iI i) := by
  obtain ⟨⟨h1, h2⟩, ⟨h3, h4, h5, h6, h7⟩, h8, h9, h10⟩ := id h
  unfold wp_Jx4a65c_get_915e3 wp_Jx4a65c_get_915e3_0 wp_J15_checkIndex_7cf53 wp_J15_checkIndex_7cf53_0 wp_J3_checkIndex_8e157 wp_J3_checkIndex_8e157_0
  rw [h8, show (0 : Int32) = iI 0 from rfl]
  refine ⟨fun q => absurd ((iI_lt (by omega) (by omega) (by decide) (by decide)).mp q) (by omega), fun _ => ⟨fun _ => ?_, fun q => absurd ((iI_lt (by omega) (by omega) (by omega) (by omega)).mpr hi.2) q⟩⟩
  unfold wp_Jx4a65c_elementData_915e3 wp_Jx4a65c_elementData_915e3_0
  refine ⟨y, h3, h4, h5, iI_in (by omega) (by omega) (by omega), ?_⟩
  intro g3 e3
  have hj : (iI i).toNatClampNeg = i.toNat := by have := iI_nat hi.1 (show i < 2147483648 by omega); omega
  rw [hj, h9 _ (by omega)] at e3
  rw [e3]; exact k
theorem q_clearA {post : wS → Prop} {K : List Nat} (h : AL D U a y els) (hc : sN U y < 100000) (hKa : a ∈ K) (hKy : els.length ≠ 0 → y ∈ K) (k : ∀ U', EX D U U' K → AL D U' a y [] → post U') : wp_Jx4a65c_clear_da8c8 D post U a := by
  obtain ⟨⟨h1, h2⟩, ⟨h3, h4, h5, h6, h7⟩, h8, h9, h10⟩ := id h
  have ne := h.ne
  have ma : wM D U a := Or.inl h1
  unfold wp_Jx4a65c_clear_da8c8 wp_Jx4a65c_clear_da8c8_0
  intro S1 e1
  refine ⟨y, by rw [e1]; exact h3, by rw [e1]; exact h4, by rw [e1]; exact h5, ?_⟩
  intro x3 e3
  rw [e1, uI_j _ _ _ (by decide), h8] at e3
  intro S4 e4
  rw [e3]
  have hE0 : EX D U S4 K := by
    rw [e4, e1]
    exact (EX.rf.uI (fun _ => hKa) _ _).uI (fun _ => hKa) _ _
  have hR0 : sR S4 = sR U := by rw [e4, e1]; rfl
  have hI0 : sI S4 a 2 = iI 0 := by rw [e4, uI_self]; rfl
  refine ⟨els.length + 1, ?_⟩
  have loop : ∀ (n d : Nat) (j : Int) (U1 : wS), d < n → j + d = els.length → 0 ≤ j → EX D U U1 K → sR U1 a = sR U a → sI U1 a 2 = iI 0 → (∀ i : Nat, (i : Int) < j → sR U1 y i = none) → (∀ i : Nat, j ≤ (i : Int) → sR U1 y i = sR U y i) →
      wp_Jx4a65c_clear_da8c8_27 D post n U1 y (iI els.length) (iI j) := by
    intro n
    induction n with
    | zero => intro d j U1 hd; omega
    | succ n ih =>
      intro d j U1 hd hj h0 hE hr hi hlo hhi
      unfold wp_Jx4a65c_clear_da8c8_27
      rw [iI_le (by omega) (by omega) (by omega) (by omega)]
      refine ⟨fun q => ?_, fun q => ?_⟩
      · refine k U1 hE ⟨⟨hE.L h1, by rw [hE.k ma, h2]⟩, ⟨by rw [hr, h3], hE.M h4, by rw [hE.k h4, h5], Nat.zero_le _, ?_⟩, hi, fun i hi' => ?_, fun g hg => absurd hg List.not_mem_nil⟩
        · rcases h7 with w | w
          · exact Or.inl ⟨hE.L w.1, by rw [hE.n h4]; exact w.2⟩
          · exact Or.inr ⟨w.1, by rw [hE.n h4]; exact w.2⟩
        · by_cases z : (i : Int) < j
          · rw [hlo i z]; rfl
          · rw [hE.n h4] at hi'
            rw [hhi i (by omega), h9 i hi', List.getElem?_eq_none (by omega)]; rfl
      · have hy : y ∈ sL U := by
          rcases h7 with w | w
          · exact w.1
          · rw [w.2] at h6; omega
        refine ⟨hE.L hy, by rw [hE.n h4]; exact iI_in h0 (by omega) (by omega), fun g hg => absurd hg (by simp), ?_⟩
        intro S3 f3 x4 f4
        have hj' : (iI j).toNatClampNeg = j.toNat := by have := iI_nat h0 (show j < 2147483648 by omega); omega
        rw [f4, f3, hj', show (1 : Int32) = iI 1 from rfl, iI_add]
        refine ih (d - 1) (j + 1) _ (by omega) (by omega) (by omega) (hE.uR (fun _ => hKy (by omega)) _ _) ?_ hi (fun i hi' => ?_) (fun i hi' => ?_)
        · rw [uR_a _ _ _ ne]; exact hr
        · by_cases z : i = j.toNat
          · rw [z, uR_self]
          · rw [uR_j _ _ _ z]; exact hlo i (by omega)
        · rw [uR_j _ _ _ (by omega)]; exact hhi i (by omega)
  exact loop (els.length + 1) els.length 0 S4 (by omega) (by omega) (by decide) hE0 (by rw [hR0]) hI0 (fun i hi => absurd hi (by omega)) (fun i _ => by rw [hR0])
end
