/-- a string at a that holds the bytes L -/
abbrev ST (D : wD) (U : wS) (a : Nat) (L : List Int) : Prop := (wM D U a ∧ sK U a = 0) ∧ sI U a 1 = iI 0 ∧ L.length < 1000 ∧ (∃ v : Nat, sR U a 0 = some v ∧ wM D U v ∧ sK U v = 20 ∧ sN U v = L.length ∧ ∀ j : Nat, j < L.length → sI U v j = iI (L.getD j 0)) ∧ ∀ x ∈ L, 0 ≤ x ∧ x < 128
def pcsL : List Int := [32, 75, 81, 82, 66, 78, 80, 107, 113, 114, 98, 110, 112]
def usualL : List Int := [82, 78, 66, 81, 75, 66, 78, 82]
section
variable {D : wD} {U : wS} {a : Nat} {L : List Int} {post : Int32 → wS → Prop}
theorem getD_b {L : List Int} (h : ∀ x ∈ L, 0 ≤ x ∧ x < 128) {j : Nat} (hj : j < L.length) : 0 ≤ L.getD j 0 ∧ L.getD j 0 < 128 := by
  rw [List.getD_eq_getElem?_getD, List.getElem?_eq_getElem hj]
  exact h _ (List.getElem_mem _)
theorem q_coderS (h : ST D U a L) (k : post (iI 0) U) : wp_J0_coder_7d493 D post U a := by
  unfold wp_J0_coder_7d493 wp_J0_coder_7d493_0 wp_J0_coder_7d493_14
  rw [h.2.1]
  exact ⟨fun q => absurd q (by decide), fun _ => ⟨by decide, k⟩⟩
theorem q_latinS (h : ST D U a L) : wp_J0_isLatin1_aae02 D post U a = post 1 U := by
  unfold wp_J0_isLatin1_aae02 wp_J0_isLatin1_aae02_0 wp_J0_isLatin1_aae02_17 wp_J0_isLatin1_aae02_18
  rw [h.2.1]
  apply propext
  exact ⟨fun z => ((z.2 (by decide)).2 rfl).2, fun z => ⟨fun q => absurd q (by decide), fun _ => ⟨fun q => absurd rfl q, fun _ => ⟨nr1, z⟩⟩⟩⟩
theorem q_lenS (h : ST D U a L) (k : post (iI L.length) U) : wp_J0_length_8abf5 D post U a := by
  obtain ⟨-, -, -, ⟨v, h1, h2, h3, h4, -⟩, -⟩ := id h
  unfold wp_J0_length_8abf5 wp_J0_length_8abf5_0
  refine ⟨v, h1, h2, h3, q_coderS h ?_⟩
  rw [shr0, h4]
  exact k
theorem q_charS (h : ST D U a L) {i : Int} (hi : 0 ≤ i ∧ i < L.length) (k : post (iI (L.getD i.toNat 0)) U) : wp_J0_charAt_5068e D post U a (iI i) := by
  obtain ⟨-, -, hl, ⟨v, h1, h2, h3, h4, h5⟩, h6⟩ := id h
  unfold wp_J0_charAt_5068e wp_J0_charAt_5068e_0
  rw [q_latinS h]
  refine ⟨fun q => absurd q (by decide), fun _ => ⟨v, h1, h2, h3, ?_⟩⟩
  unfold wp_J1_charAt_3b067 wp_J1_charAt_3b067_0
  rw [h4, show Int32.ofNat L.length = iI (L.length : Int) from rfl]
  refine q_checkIx hi (by omega) ?_
  rw [h4]
  have hj : (iI i).toNatClampNeg = i.toNat := by have := iI_nat hi.1 (show i < 2147483648 by omega); omega
  have hb := getD_b h6 (show i.toNat < L.length by omega)
  refine ⟨iI_in (by omega) (by omega) (by omega), ?_⟩
  rw [hj, h5 _ (by omega), (ji2c_b hb).1]
  exact ⟨(ji2c_b hb).2, (ji2c_b hb).2, k⟩
/-- the first place of a byte, or -1 -/
theorem q_indexC_7 {v : Nat} (hn : sN U v = L.length) (hl : L.length < 1000) (h5 : ∀ j : Nat, j < L.length → sI U v j = iI (L.getD j 0)) (h6 : ∀ x ∈ L, 0 ≤ x ∧ x < 128) {x : Int} (hx : 0 ≤ x ∧ x < 128) :
    ∀ (n d : Nat) (j : Int), d < n → j + d = L.length → 0 ≤ j → post (iI (firstL (fun i => decide (L.getD i.toNat 0 = x)) j d)) U → wp_J1_indexOfChar_4cfef_7 D post n U v (iI L.length) (iI x) (iI j) := by
  intro n
  induction n with
  | zero => intro d j hd; omega
  | succ n ih =>
    intro d j hd hj h0 k
    unfold wp_J1_indexOfChar_4cfef_7
    rw [iI_le (by omega) (by omega) (by omega) (by omega), hn]
    refine ⟨fun q => ?_, fun q => ⟨iI_in (by omega) (by omega) (by omega), ?_⟩⟩
    · rw [show d = 0 by omega] at k
      exact k
    · obtain ⟨d', rfl⟩ : ∃ d', d = d' + 1 := ⟨d - 1, by omega⟩
      unfold firstL at k
      have hj' : (iI j).toNatClampNeg = j.toNat := by have := iI_nat h0 (show j < 2147483648 by omega); omega
      have hb := getD_b h6 (show j.toNat < L.length by omega)
      rw [hj', h5 _ (by omega), iI_eq (by omega) (by omega) (by omega) (by omega)]
      refine ⟨fun z x4 e4 => ?_, fun z => ?_⟩
      · rw [decide_eq_false z] at k
        rw [e4, show (1 : Int32) = iI 1 from rfl, iI_add]
        exact ih d' (j + 1) (by omega) (by omega) (by omega) k
      · rw [decide_eq_true z] at k
        exact k
theorem q_indexS (h : ST D U a L) (h0 : 0 < L.length) {x : Int} (hx : 0 ≤ x ∧ x < 128) (k : post (iI (firstL (fun i => decide (L.getD i.toNat 0 = x)) 0 L.length)) U) : wp_J0_indexOf_0f7a4 D post U a (iI x) := by
  obtain ⟨-, -, hl, ⟨v, h1, h2, h3, h4, h5⟩, h6⟩ := id h
  unfold wp_J0_indexOf_0f7a4 wp_J0_indexOf_0f7a4_0 wp_J0_indexOf_7cf53 wp_J0_indexOf_7cf53_0 wp_J0_indexOf_7cf53_36
  rw [q_latinS h]
  refine ⟨fun q => absurd q (by decide), fun _ => ⟨v, h1, h2, h3, q_lenS h ?_⟩⟩
  unfold wp_J1_indexOf_4cfef wp_J1_indexOf_4cfef_0 wp_J1_canEncode_9a6ad wp_J1_canEncode_9a6ad_0 wp_J1_canEncode_9a6ad_16 wp_J1_canEncode_9a6ad_15
  rw [show (0 : Int32) = iI 0 from rfl, show (255 : Int32) = iI 255 from rfl]
  refine ⟨fun q => absurd ((iI_lt (by omega) (by omega) (by decide) (by decide)).mp q) (by omega), fun _ => ⟨fun q => absurd ((iI_lt (by decide) (by decide) (by omega) (by omega)).mp q) (by omega), fun _ => ⟨nr1, fun _ => ?_, fun q => absurd q (by decide)⟩⟩⟩
  intro x4 e4 x5 e5
  have e4 : x4 = iI 0 := by rw [e4]; split <;> rfl
  have e5 : x5 = iI L.length := by rw [e5, h4, show Int32.ofNat L.length = iI (L.length : Int) from rfl]; split <;> rfl
  rw [e4, e5, iI_lt (by decide) (by decide) (by omega) (by omega)]
  refine ⟨fun _ => ?_, fun q => absurd (by omega) q⟩
  unfold wp_J1_indexOfChar_4cfef wp_J1_indexOfChar_4cfef_0
  intro x1 e1
  have e1 : x1 = iI x := by
    have e : ∀ n : Nat, n < 128 → (Int32.toInt8 (iI (n : Int))).toInt32 = iI (n : Int) := by decide +kernel
    have := e x.toNat (by omega)
    rw [Int.toNat_of_nonneg hx.1] at this
    rw [e1, this]
  rw [e1]
  exact ⟨L.length + 1, q_indexC_7 h4 hl h5 h6 hx (L.length + 1) L.length 0 (by omega) (by omega) (by decide) k⟩
end
