/-! PHASE 5: the constants stay -/
section
variable {D : wD} {U U' : wS} {o : Nat → Nat} {c : cM} {b L : Nat} {xs : Nat → Int32}
/-- what was there at the start is as it was -/
abbrev CST (D : wD) (U : wS) : Prop := EX D D.2.2.2 U []
theorem CST.of (h : CST D U) {K : List Nat} (he : EX D U U' K) (hK : ∀ a ∈ K, a ∉ D.2.1) (h0 : sL D.2.2.2 = []) : CST D U' :=
  h.trans he (fun a _ z => z) (fun a ha z => by
    rcases ha with q | q
    · rw [h0] at q; exact absurd q List.not_mem_nil
    · exact absurd q (hK a z))
theorem CST.st (hD : wDok D b L xs) (h : CST D U) {i : Nat} (hi : i < 47) {W : List Int} (hW : stB (stP.getD i 0) = W.map iI) (hr : ∀ x ∈ W, 0 ≤ x ∧ x < 128) (hl : W.length < 1000) : ST D U (D.2.2.1 i) W := by
  obtain ⟨a1, a2, a3, v, a4, a5, a6, a7, a8⟩ := hD.1 i hi
  have m0 : ∀ a, a ∈ D.2.1 → wM D D.2.2.2 a := fun a ha => Or.inr ha
  rw [hW, List.length_map] at a7 a8
  refine ⟨⟨Or.inr a1, by rw [h.k (m0 _ a1)]; exact a2⟩, by rw [h.i (m0 _ a1) List.not_mem_nil]; exact a3, hl, ⟨v, by rw [h.r (m0 _ a1) List.not_mem_nil]; exact a4, Or.inr a5, by rw [h.k (m0 _ a5)]; exact a6, by rw [h.n (m0 _ a5)]; exact a7, fun j hj => ?_⟩, hr⟩
  rw [h.i (m0 _ a5) List.not_mem_nil, a8 j hj, getD_el (by rw [List.length_map]; exact hj), List.getElem_map, getD_el hj]
theorem CST.row (hD : wDok D b L xs) (h : CST D U) {k : Nat} (hk : k < 6) : sN U (D.2.2.1 (100 + k)) = (stI k).length ∧ wM D U (D.2.2.1 (100 + k)) ∧ ∀ j, j < (stI k).length → sI U (D.2.2.1 (100 + k)) j = (stI k).getD j 0 := by
  obtain ⟨a1, a2, a3, a4⟩ := hD.2.1 k hk
  exact ⟨by rw [h.n (Or.inr a1)]; exact a3, Or.inr a1, fun j hj => by rw [h.i (Or.inr a1) List.not_mem_nil]; exact a4 j hj⟩
/-- the script -/
theorem CST.scr (hD : wDok D b L xs) (h : CST D U) : wM D U b ∧ sN U b = L ∧ ∀ j, j < L → sI U b j = xs j := by
  obtain ⟨a1, a2, a3, a4⟩ := hD.2.2.2.1
  exact ⟨Or.inr a1, by rw [h.n (Or.inr a1)]; exact a3, fun j hj => by rw [h.i (Or.inr a1) List.not_mem_nil]; exact a4 j hj⟩
/-- the class's cells are none of the start's -/
theorem CST.cls (h : CST D U) (ho : ∀ n, n < 52 → o n ∉ D.2.1) (h0 : sL D.2.2.2 = []) (hu : U = cS U o c) (c' : cM) : CST D (cS U o c') := by
  have e := c_ex (D := D) (S := U) (o := o) c c'
  rw [← hu] at e
  exact h.of e (fun a ha => by
    obtain ⟨n, hn, e⟩ := List.mem_map.mp ha
    rw [← e]
    exact ho n (cOk_lt (by simpa [cOk] using hn))) h0
theorem CST.all (hD : wDok D b L xs) (h : ∀ c, CST D (cS U o c)) : (∀ c, ST D (cS U o c) (D.2.2.1 0) usualL) ∧ (∀ c, ST D (cS U o c) (D.2.2.1 1) pcsL) ∧ (∀ c, ST D (cS U o c) (D.2.2.1 10) [75, 81, 107, 113]) ∧ (∀ c, ST D (cS U o c) (D.2.2.1 8) [32, 119, 32]) ∧ (∀ c, ST D (cS U o c) (D.2.2.1 9) [32, 98, 32]) ∧ TKS D U o ∧ RW D U o ∧ ∀ c, DG D (cS U o c) := by
  refine ⟨fun c => (h c).st hD (by decide) rfl (by decide) (by decide), fun c => (h c).st hD (by decide) rfl (by decide) (by decide), fun c => (h c).st hD (by decide) rfl (by decide) (by decide), fun c => (h c).st hD (by decide) rfl (by decide) (by decide), fun c => (h c).st hD (by decide) rfl (by decide) (by decide), fun c => ⟨(h c).st hD (by decide) rfl (by decide) (by decide), (h c).st hD (by decide) rfl (by decide) (by decide), (h c).st hD (by decide) rfl (by decide) (by decide), (h c).st hD (by decide) rfl (by decide) (by decide), (h c).st hD (by decide) rfl (by decide) (by decide)⟩, fun c => ⟨fun k hk => ?_, fun j j0 j1 => ?_⟩, fun c => ?_⟩
  · rw [((h c).row hD (show k < 6 by omega)).1]
    rcases (show k = 0 ∨ k = 1 ∨ k = 2 ∨ k = 3 by omega) with rfl | rfl | rfl | rfl <;> rfl
  · have g : ∀ k, k < 4 → sI (cS U o c) (D.2.2.1 (100 + k)) (iI j).toNatClampNeg = (stI k).getD j.toNat 0 := fun k hk => by
      have ej : (iI j).toNatClampNeg = j.toNat := by have := iI_nat j0 (show j < 2147483648 by omega); omega
      rw [ej]
      refine ((h c).row hD (show k < 6 by omega)).2.2 _ ?_
      rcases (show k = 0 ∨ k = 1 ∨ k = 2 ∨ k = 3 by omega) with rfl | rfl | rfl | rfl <;> (show _ < 8; omega)
    rw [show D.2.2.1 100 = D.2.2.1 (100 + 0) from rfl, g 0 (by decide), g 1 (by decide), g 2 (by decide), g 3 (by decide)]
    rcases (show j = 0 ∨ j = 1 ∨ j = 2 ∨ j = 3 ∨ j = 4 ∨ j = 5 ∨ j = 6 ∨ j = 7 by omega) with rfl | rfl | rfl | rfl | rfl | rfl | rfl | rfl <;> decide
  · obtain ⟨g1, g2, g3⟩ := (h c).row hD (show 4 < 6 by decide)
    refine ⟨g2, g1, fun n n0 n1 => ?_⟩
    have en : (iI n).toNatClampNeg = n.toNat := by have := iI_nat n0 (show n < 2147483648 by omega); omega
    rw [en, show D.2.2.1 104 = D.2.2.1 (100 + 4) from rfl, g3 _ (show n.toNat < 100 by omega)]
    rcases (show n = 0 ∨ n = 1 ∨ n = 2 ∨ n = 3 ∨ n = 4 ∨ n = 5 ∨ n = 6 ∨ n = 7 ∨ n = 8 ∨ n = 9 by omega) with rfl | rfl | rfl | rfl | rfl | rfl | rfl | rfl | rfl | rfl <;> decide
end
