/-! PHASE 3, STRINGS AND STRING BUILDERS -/
/-- a StringBuilder at a with the row y, that holds the bytes L -/
abbrev SB (U : wS) (a y : Nat) (L : List Int) : Prop := (a ∈ sL U ∧ sK U a = 1) ∧ (sR U a 0 = some y ∧ y ∈ sL U ∧ sK U y = 20 ∧ L.length ≤ sN U y) ∧ (sI U a 1 = iI 0 ∧ sI U a 3 = iI L.length) ∧ (∀ j : Nat, j < L.length → sI U y j = iI (L.getD j 0)) ∧ (∀ x ∈ L, 0 ≤ x ∧ x < 128) ∧ ∀ j : Nat, j < sN U y → fits .byte (.int (sI U y j)) = true
section
variable {D : wD} {U : wS} {a y : Nat} {L : List Int} {post : Int32 → wS → Prop}
theorem SB.ne (h : SB U a y L) : a ≠ y := fun e => by have := h.1.2; rw [e, h.2.1.2.2.1] at this; exact absurd this (by decide)
theorem SB.ex {U' : wS} {K : List Nat} (he : EX D U U' K) (ha : a ∉ K) (hy : y ∉ K) (h : SB U a y L) : SB U' a y L := by
  obtain ⟨⟨h1, h2⟩, ⟨h3, h4, h5, h6⟩, ⟨h7, h8⟩, h9, h10, h11⟩ := h
  have ma : wM D U a := Or.inl h1
  have my : wM D U y := Or.inl h4
  refine ⟨⟨he.L h1, by rw [he.k ma, h2]⟩, ⟨by rw [he.r ma ha, h3], he.L h4, by rw [he.k my, h5], by rw [he.n my]; exact h6⟩, ⟨by rw [he.i ma ha, h7], by rw [he.i ma ha, h8]⟩, fun j hj => by rw [he.i my hy]; exact h9 j hj, h10, fun j hj => by rw [he.n my] at hj; rw [he.i my hy]; exact h11 j hj⟩
theorem q_lenB (h : SB U a y L) (k : post (iI L.length) U) : wp_J4_length_8abf5 D post U a := by
  unfold wp_J4_length_8abf5 wp_J4_length_8abf5_0 wp_J5_length_8abf5 wp_J5_length_8abf5_0
  rw [h.2.2.1.2]
  exact k
theorem shr0 (x : Int32) : x >>> (iI 0 &&& 31) = x := by
  rw [show (iI 0 &&& 31 : Int32) = 0 from by decide]
  exact Int32.shiftRight_zero
theorem shl0 (x : Int32) : x <<< (iI 0 &&& 31) = x := by
  rw [show (iI 0 &&& 31 : Int32) = 0 from by decide]
  exact Int32.shiftLeft_zero
theorem ji2c_b {x : Int} (h : 0 ≤ x ∧ x < 128) : ji2c (iI x &&& (255 : Int32)) = iI x ∧ narrow .char (.int (iI x)) = .int (iI x) := by
  have e : ∀ n : Nat, n < 128 → ji2c (iI (n : Int) &&& (255 : Int32)) = iI (n : Int) ∧ narrow .char (.int (iI (n : Int))) = .int (iI (n : Int)) := by decide +kernel
  have := e x.toNat (by omega)
  rwa [Int.toNat_of_nonneg h.1] at this
theorem q_checkIx {post : wS → Prop} {i n : Int} (hi : 0 ≤ i ∧ i < n) (hn : n < 2147483648) (k : post U) : wp_J0_checkIndex_df160 D post U (iI i) (iI n) := by
  unfold wp_J0_checkIndex_df160 wp_J0_checkIndex_df160_0 wp_J3_checkIndex_8e157 wp_J3_checkIndex_8e157_0
  intro g
  rw [show (0 : Int32) = iI 0 from rfl, iI_lt (by omega) (by omega) (by decide) (by decide), iI_lt (by omega) (by omega) (by omega) (by omega)]
  exact ⟨fun q => absurd q (by omega), fun _ => ⟨fun _ => k, fun q => absurd hi.2 q⟩⟩
theorem q_charB (h : SB U a y L) (hc : sN U y < 1000000) {i : Int} (hi : 0 ≤ i ∧ i < L.length) (k : post (iI (L.getD i.toNat 0)) U) : wp_J4_charAt_5068e D post U a (iI i) := by
  obtain ⟨⟨h1, h2⟩, ⟨h3, h4, h5, h6⟩, ⟨h7, h8⟩, h9, h10, h11⟩ := id h
  unfold wp_J4_charAt_5068e wp_J4_charAt_5068e_0 wp_J5_charAt_5068e wp_J5_charAt_5068e_0
  intro x1 e1
  rw [h7] at e1
  rw [e1]
  refine ⟨y, h3, Or.inl h4, h5, ?_⟩
  intro x3 e3
  rw [shr0, h8, show Int32.ofNat (sN U y) = iI ((sN U y : Nat) : Int) from rfl, if_neg (fun q => absurd ((iI_lt (by omega) (by omega) (by omega) (by omega)).mp q) (by omega))] at e3
  rw [e3]
  refine q_checkIx hi (by omega) ?_
  refine ⟨fun q => absurd rfl q, fun _ => ⟨iI_in (by omega) (by omega) (by omega), ?_⟩⟩
  have hj : (iI i).toNatClampNeg = i.toNat := by have := iI_nat hi.1 (show i < 2147483648 by omega); omega
  have hb : 0 ≤ L.getD i.toNat 0 ∧ L.getD i.toNat 0 < 128 := by
    rw [List.getD_eq_getElem?_getD, List.getElem?_eq_getElem (by omega)]
    exact h10 _ (List.getElem_mem _)
  rw [hj, h9 _ (by omega), (ji2c_b hb).1]
  exact ⟨(ji2c_b hb).2, (ji2c_b hb).2, k⟩
theorem q_isLatinB (h : SB U a y L) : wp_J5_isLatin1_aae02 D post U a = post 1 U := by
  unfold wp_J5_isLatin1_aae02 wp_J5_isLatin1_aae02_0 wp_J5_isLatin1_aae02_17 wp_J5_isLatin1_aae02_18
  rw [h.2.2.1.1]
  apply propext
  exact ⟨fun z => ((z.2 (by decide)).2 rfl).2, fun z => ⟨fun q => absurd q (by decide), fun _ => ⟨fun q => absurd rfl q, fun _ => ⟨nr1, z⟩⟩⟩⟩
theorem q_ensure0 {post : wS → Prop} {bc bs : Nat} (h : SB U a y L) (hc : sN U y < 1000000) {n : Int} (hn : 0 ≤ n ∧ n ≤ sN U y) (k : post U) : wp_J5_ensureCapacityInternal_d00df D post bc bs U a (iI n) := by
  obtain ⟨⟨h1, h2⟩, ⟨h3, h4, h5, h6⟩, ⟨h7, h8⟩, h9, h10, h11⟩ := id h
  unfold wp_J5_ensureCapacityInternal_d00df wp_J5_ensureCapacityInternal_d00df_0 wp_J5_ensureCapacityInternal_d00df_38
  refine ⟨y, h3, Or.inl h4, h5, ?_⟩
  intro x2 e2
  rw [h7, shr0, show Int32.ofNat (sN U y) = iI ((sN U y : Nat) : Int) from rfl] at e2
  rw [e2, iI_sub, show (0 : Int32) = iI 0 from rfl, iI_le (by omega) (by omega) (by decide) (by decide)]
  exact ⟨fun _ => k, fun q => absurd q (by omega)⟩
theorem q_clearB {post : wS → Prop} {bc bs : Nat} (h : SB U a y L) (hc : sN U y < 1000000) (k : ∀ U', EX D U U' [a] → SB U' a y [] → post U') : wp_J4_setLength_d00df D post bc bs U a (0 : Int32) := by
  obtain ⟨⟨h1, h2⟩, ⟨h3, h4, h5, h6⟩, ⟨h7, h8⟩, h9, h10, h11⟩ := id h
  have ne := h.ne
  unfold wp_J4_setLength_d00df wp_J4_setLength_d00df_0
  refine ⟨bc, bs, Nat.le_refl _, Nat.le_refl _, ?_⟩
  unfold wp_J5_setLength_d00df wp_J5_setLength_d00df_0
  refine ⟨fun _ => ⟨bc, bs, Nat.le_refl _, Nat.le_refl _, ?_⟩, fun q => absurd (by decide) q⟩
  rw [show (0 : Int32) = iI 0 from rfl]
  refine q_ensure0 h hc (by omega) ?_
  have fin : ∀ U2, EX D U U2 [a] → (sR U2 a = sR U a) → sI U2 y = sI U y → sI U2 a 1 = iI 0 → wp_J5_setLength_d00df_76 D post (bc - bc) (bs - bs) U2 a (iI 0) := by
    intro U2 he hr hi h1'
    unfold wp_J5_setLength_d00df_76
    intro S1 e1
    rw [e1]
    have he' : EX D U (uI U2 a 3 (iI 0)) [a] := he.uI (fun _ => List.mem_singleton.mpr rfl) 3 (iI 0)
    refine k _ he' ⟨⟨he'.L h1, by rw [he'.k (Or.inl h1), h2]⟩, ⟨?_, he'.L h4, by rw [he'.k (Or.inl h4), h5], Nat.zero_le _⟩, ⟨?_, ?_⟩, fun j hj => absurd hj (Nat.not_lt_zero _), fun x hx => absurd hx (List.not_mem_nil), fun j hj => ?_⟩
    · show sR U2 a 0 = some y
      rw [hr, h3]
    · rw [uI_j _ _ _ (by decide), h1']
    · rw [uI_self]; rfl
    · rw [he'.n (Or.inl h4)] at hj
      rw [uI_a _ _ _ (Ne.symm ne), hi]
      exact h11 j hj
  rw [h8, iI_le (by decide) (by decide) (by omega) (by omega), iI_le (by omega) (by omega) (by decide) (by decide)]
  refine ⟨fun _ => ⟨fun _ => fin U EX.rf rfl rfl h7, fun _ => ⟨nr1, by decide, ?_⟩⟩, fun q => absurd (by omega) q⟩
  intro S8 e8
  rw [e8]
  refine fin _ (EX.rf.uI (fun _ => List.mem_singleton.mpr rfl) _ _) rfl (uI_a _ _ _ (Ne.symm ne)) ?_
  rw [uI_j _ _ _ (by decide), h7]
end
