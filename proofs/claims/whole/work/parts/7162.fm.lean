section
variable {D : wD} {U : wS} {a y : Nat} {L : List Int}
theorem uI_comm (U : wS) {a b : Nat} (i j : Nat) (v w : Int32) (h : a ≠ b) : uI (uI U a i v) b j w = uI (uI U b j w) a i v := by
  have e : sI (uI (uI U a i v) b j w) = sI (uI (uI U b j w) a i v) := by
    funext x
    by_cases c : x = a
    · subst c
      rw [uI_a _ _ _ h]
      show va_up (sI U) x (va_up (sI U x) i v) x = va_up (sI (uI U b j w)) x (va_up (sI (uI U b j w) x) i v) x
      rw [va_up_self, va_up_self, uI_a _ _ _ h]
    · by_cases d : x = b
      · subst d
        rw [uI_a (uI U x j w) _ _ c]
        show va_up (sI (uI U a i v)) x (va_up (sI (uI U a i v) x) j w) x = va_up (sI U) x (va_up (sI U x) j w) x
        rw [va_up_self, va_up_self, uI_a _ _ _ c]
      · rw [uI_a _ _ _ d, uI_a _ _ _ c, uI_a _ _ _ c, uI_a _ _ _ d]
  show (U.1, U.2.1, U.2.2.1, sI (uI (uI U a i v) b j w), U.2.2.2.2.1, U.2.2.2.2.2) = (U.1, U.2.1, U.2.2.1, sI (uI (uI U b j w) a i v), U.2.2.2.2.1, U.2.2.2.2.2)
  rw [e]
/-- the row of last digits -/
abbrev DG (D : wD) (U : wS) : Prop := wM D U (D.2.2.1 104) ∧ sN U (D.2.2.1 104) = 100 ∧ ∀ n : Int, 0 ≤ n → n < 10 → sI U (D.2.2.1 104) (iI n).toNatClampNeg = iI (48 + n)
theorem DG.ex {U' : wS} {K : List Nat} (he : EX D U U' K) (h : DG D U) (hk : D.2.2.1 104 ∉ K) : DG D U' := ⟨he.M h.1, by rw [he.n h.1]; exact h.2.1, fun n a b => by rw [he.i h.1 hk]; exact h.2.2 n a b⟩
theorem q_size1 {post : Int32 → wS → Prop} {n : Int} (hn : 1 ≤ n ∧ n ≤ 8) (k : post (iI 1) U) : wp_J6_stringSize_0f7a4 D post U (iI n) := by
  unfold wp_J6_stringSize_0f7a4 wp_J6_stringSize_0f7a4_0 wp_J6_stringSize_0f7a4_11
  rw [show (0 : Int32) = iI 0 from rfl, iI_lt (by omega) (by omega) (by decide) (by decide)]
  refine ⟨fun q => absurd q (by omega), fun _ x2 e2 => ⟨1, ?_⟩⟩
  rw [iI_neg] at e2
  unfold wp_J6_stringSize_0f7a4_16
  rw [e2, show (-10 : Int32) = iI (-10) from rfl, show (10 : Int32) = iI 10 from rfl, show (1 : Int32) = iI 1 from rfl, iI_le (by decide) (by decide) (by decide) (by decide), iI_le (by omega) (by omega) (by decide) (by decide)]
  refine ⟨fun q => absurd q (by decide), fun _ => ⟨fun q => absurd q (by omega), fun _ => ?_⟩⟩
  rw [iI_add]; exact k
theorem q_chars1 {post : Int32 → wS → Prop} (hg : DG D U) {n : Int} (hn : 1 ≤ n ∧ n ≤ 8) {j : Int} (hj : 1 ≤ j ∧ j ≤ sN U y) (hc : sN U y < 1000000) (hy : y ∈ sL U) (k : post (iI (j - 1)) (uI U y (j - 1).toNat (iI (48 + n)))) : wp_J6_getChars_ba4f3 D post U (iI n) (iI j) y := by
  unfold wp_J6_getChars_ba4f3 wp_J6_getChars_ba4f3_0 wp_J6_getChars_ba4f3_12
  rw [show (0 : Int32) = iI 0 from rfl, iI_le (by decide) (by decide) (by omega) (by omega)]
  refine ⟨fun _ => ⟨fun q => absurd rfl q, fun _ x3 e3 => ⟨1, ?_⟩⟩, fun q => absurd (by omega) q⟩
  rw [iI_neg] at e3
  unfold wp_J6_getChars_ba4f3_22
  rw [e3, show (-100 : Int32) = iI (-100) from rfl, iI_lt (by decide) (by decide) (by omega) (by omega)]
  refine ⟨fun _ x2 e2 y3 e3' => ?_, fun q => absurd (by omega) q⟩
  rw [show (-1 : Int32) = iI (-1) from rfl, iI_add] at e2
  rw [e3', e2, iI_neg, show - -n = n by omega]
  refine ⟨by rw [hg.2.1]; exact iI_in (by omega) (by omega) (by omega), hy, iI_in (by omega) (by omega) (by omega), fun S6 e6 => ?_⟩
  rw [hg.2.2 n (by omega) (by omega)] at e6
  have nb : vp_nar .byte (iI (48 + n)) = iI (48 + n) := by
    rcases (show n = 1 ∨ n = 2 ∨ n = 3 ∨ n = 4 ∨ n = 5 ∨ n = 6 ∨ n = 7 ∨ n = 8 by omega) with rfl | rfl | rfl | rfl | rfl | rfl | rfl | rfl <;> rfl
  have nj : (iI (j + -1)).toNatClampNeg = (j - 1).toNat := by have := iI_nat (a := j + -1) (by omega) (by omega); omega
  rw [nb, nj] at e6
  rw [show (-9 : Int32) = iI (-9) from rfl, iI_le (by decide) (by decide) (by omega) (by omega)]
  refine ⟨fun _ => ?_, fun q => absurd (by omega) q⟩
  unfold wp_J6_getChars_ba4f3_104 wp_J6_getChars_ba4f3_118
  rw [e6, show j + -1 = j - 1 by omega]
  exact ⟨fun _ => k, fun q => absurd rfl q⟩
theorem q_appendI {post : Option Nat → wS → Prop} {bc bs : Nat} (h : SB U a y L) (hc : sN U y < 100000) (h1 : 1 ≤ sN U y) (hg : DG D U) (hd : D.2.2.1 104 ∉ [a, y]) {n : Int} (hn : 1 ≤ n ∧ n ≤ 8) (hb : sN U y < L.length + 1 → 1 ≤ bc ∧ 2 * sN U y + 2 ≤ bs)
    (k : ∀ U' y', EX D U U' [a, y] → SB U' a y' (L ++ [48 + n]) → (y' = y ∨ ¬ wM D U y') → sN U' y' = capM (sN U y) (L.length + 1) → post (some a) U') : wp_J4_append_bf812 D post bc bs U a (iI n) := by
  unfold wp_J4_append_bf812 wp_J4_append_bf812_0
  refine ⟨bc, bs, Nat.le_refl _, Nat.le_refl _, ?_⟩
  unfold wp_J5_append_c97b9 wp_J5_append_c97b9_0
  intro x1 e1
  rw [h.2.2.1.2] at e1
  refine q_size1 hn ?_
  intro x4 e4
  rw [e1, iI_add] at e4
  rw [e4, e1]
  refine ⟨bc, bs, Nat.le_refl _, Nat.le_refl _, ?_⟩
  refine q_ensureK h hc (q := 1) ⟨by omega, h1⟩ hb fun U' y' he hS hy hN => ?_
  have ne := hS.ne
  have hl : L.length < sN U' y' := by rw [hN]; unfold capM; have := h.2.1.2.2.2; split <;> omega
  have hcap : sN U' y' < 1000000 := by rw [hN]; unfold capM; split <;> omega
  rw [q_isLatinB hS]
  refine ⟨fun q => absurd q (by decide), fun _ => ⟨y', hS.2.1.1, Or.inl hS.2.1.2.1, hS.2.1.2.2.1, ?_⟩⟩
  refine q_chars1 (DG.ex he hg hd) hn (j := L.length + 1) (by omega) hcap hS.2.1.2.1 ?_
  unfold wp_J5_append_c97b9_48
  intro S1 e1'
  rw [e1', show ((L.length : Int) + 1 - 1).toNat = L.length by omega, uI_comm _ _ _ _ _ (Ne.symm ne)]
  refine k _ y' ?_ (hS.put hl (by omega)) hy hN
  refine (he.uI (fun _ => by simp) 3 _).uI (fun hm => ?_) _ _
  rcases hy with rfl | q
  · simp
  · exact absurd hm q
theorem SB.puts {M : List Int} {v : Nat} (h : SB U a y L) (hr : L.length + M.length ≤ sN U y) (hM : ∀ x ∈ M, 0 ≤ x ∧ x < 128) (hv : ∀ j : Nat, j < M.length → sI U v j = iI (M.getD j 0)) : SB (uI (uY U v y 0 L.length M.length) a 3 (iI (L.length + M.length))) a y (L ++ M) := by
  obtain ⟨⟨h1, h2⟩, ⟨h3, h4, h5, h6⟩, ⟨h7, h8⟩, h9, h10, h11⟩ := id h
  have ne := h.ne
  have iy : sI (uI (uY U v y 0 L.length M.length) a 3 (iI (L.length + M.length))) y = va_cpy (sI U v) (sI U y) 0 L.length M.length := by
    rw [uI_a _ _ _ (Ne.symm ne)]
    show va_up (sI U) y (va_cpy (sI U v) (sI U y) 0 L.length M.length) y = _
    rw [va_up_self]
  have ia : sI (uY U v y 0 L.length M.length) a = sI U a := va_up_ne _ _ ne
  refine ⟨⟨h1, h2⟩, ⟨h3, h4, h5, ?_⟩, ⟨?_, ?_⟩, fun j hj => ?_, fun z hz => ?_, fun j hj => ?_⟩
  · show (L ++ M).length ≤ sN U y
    simp; omega
  · rw [uI_j _ _ _ (by decide), ia, h7]
  · rw [uI_self]; simp
  · rw [iy]
    unfold va_cpy
    simp at hj
    rw [List.getD_eq_getElem?_getD]
    by_cases z : j < L.length
    · rw [if_neg (by omega), h9 j z, List.getElem?_append_left z, List.getD_eq_getElem?_getD]
    · rw [if_pos (by omega), hv _ (by omega), List.getElem?_append_right (by omega), List.getD_eq_getElem?_getD]
      congr 4; omega
  · rcases List.mem_append.mp hz with q | q
    · exact h10 z q
    · exact hM z q
  · rw [iy]
    unfold va_cpy
    have hj : j < sN U y := hj
    split
    · rw [hv _ (by omega)]
      have := getD_b hM (j := 0 + (j - L.length)) (by omega)
      exact (byte_b this).2
    · exact h11 j hj
theorem q_appendS {post : Option Nat → wS → Prop} {bc bs s : Nat} {M : List Int} (h : SB U a y L) (hc : sN U y < 100000) (hM : ST D U s M) (h1 : 1 ≤ M.length ∧ M.length ≤ sN U y) (hs : s ∉ [a, y]) (hsv : ∀ v, sR U s 0 = some v → v ∉ [a, y]) (hb : sN U y < L.length + M.length → 1 ≤ bc ∧ 2 * sN U y + 2 ≤ bs)
    (k : ∀ U' y', EX D U U' [a, y] → SB U' a y' (L ++ M) → (y' = y ∨ ¬ wM D U y') → sN U' y' = capM (sN U y) (L.length + M.length) → post (some a) U') : wp_J4_append_15ec4 D post bc bs U a s := by
  unfold wp_J4_append_15ec4 wp_J4_append_15ec4_0
  refine ⟨bc, bs, Nat.le_refl _, Nat.le_refl _, ?_⟩
  unfold wp_J5_append_cf1ce wp_J5_append_cf1ce_0
  refine q_lenS hM ?_
  refine ⟨bc, bs, Nat.le_refl _, Nat.le_refl _, ?_⟩
  rw [h.2.2.1.2, iI_add]
  refine q_ensureK h hc (q := M.length) h1 hb fun U' y' he hS hy hN => ?_
  obtain ⟨⟨m1, m2⟩, m3, m4, ⟨v, v1, v2, v3, v4, v5⟩, m6⟩ := hM
  have vk := hsv v v1
  have e1 : sR U' s 0 = some v := by rw [he.r m1 hs, v1]
  have eI : sI U' v = sI U v := he.i v2 vk
  have eN : sN U' v = M.length := by rw [he.n v2, v4]
  have eM : wM D U' v := he.M v2
  have eK : sK U' v = 20 := by rw [he.k v2, v3]
  have ec : sI U' s 1 = iI 0 := by rw [he.i m1 hs, m3]
  have hl : L.length + M.length ≤ sN U' y' := by rw [hN]; unfold capM; have := h.2.1.2.2.2; split <;> omega
  have hcap : sN U' y' < 1000000 := by rw [hN]; unfold capM; split <;> omega
  refine ⟨0, 0, Nat.zero_le _, Nat.zero_le _, ?_⟩
  unfold wp_J5_putStringAt_47b60 wp_J5_putStringAt_47b60_0
  refine ⟨0, 0, Nat.zero_le _, Nat.zero_le _, ?_⟩
  unfold wp_J5_inflateIfNeededFor_a7421 wp_J5_inflateIfNeededFor_a7421_0 wp_J5_inflateIfNeededFor_a7421_21
  have cd : ∀ {post : Int32 → wS → Prop}, post (iI 0) U' → wp_J0_coder_7d493 D post U' s := fun {post} z => by
    unfold wp_J0_coder_7d493 wp_J0_coder_7d493_0 wp_J0_coder_7d493_14
    rw [ec]
    exact ⟨fun q => absurd q (by decide), fun _ => ⟨rfl, z⟩⟩
  refine ⟨fun q => absurd q (by decide), fun _ => cd ?_⟩
  rw [hS.2.2.1.1]
  refine ⟨fun _ => ⟨y', hS.2.1.1, Or.inl hS.2.1.2.1, hS.2.1.2.2.1, ?_⟩, fun q => absurd rfl q⟩
  unfold wp_J0_getBytes_840e7 wp_J0_getBytes_840e7_0 wp_J0_getBytes_840e7_43
  refine cd ?_
  rw [hS.2.2.1.1, hS.2.2.1.2]
  refine ⟨fun q => absurd rfl q, fun _ => ⟨v, e1, eM, eK, v, e1, eM, eK, hS.2.1.2.1, by decide, ?_⟩⟩
  rw [shl0, eN, show Int32.ofNat M.length = iI ((M.length : Nat) : Int) from rfl]
  have n0 : Int32.toNatClampNeg (0 : Int32) = 0 := by decide
  have nl : (iI ((L.length : Nat) : Int)).toNatClampNeg = L.length := by have := iI_nat (a := ((L.length : Nat) : Int)) (by omega) (by omega); omega
  have nm : (iI ((M.length : Nat) : Int)).toNatClampNeg = M.length := by have := iI_nat (a := ((M.length : Nat) : Int)) (by omega) (by omega); omega
  rw [n0, nl, nm, show (0 : Int32) = iI 0 from rfl, iI_lt (by omega) (by omega) (by decide) (by decide), iI_lt (by omega) (by omega) (by decide) (by decide)]
  refine ⟨by omega, by omega, by omega, by omega, fun i hi => ?_, fun S11 e11 S13 e13 => ?_⟩
  · rw [eI, Nat.zero_add, v5 i hi]
    exact (byte_b (getD_b m6 hi)).2
  · have hS2 := hS.puts (v := v) hl m6 (fun j hj => by rw [eI]; exact v5 j hj)
    have ia : sI S11 a 3 = iI L.length := by rw [e11, ← hS.2.2.1.2]; exact congrFun (va_up_ne _ _ hS.ne) 3
    rw [ia, iI_add, e11] at e13
    rw [e13]
    refine k _ y' ?_ hS2 hy hN
    have hE1 : EX D U (uY U' v y' 0 L.length M.length) [a, y] := by
      refine ⟨⟨he.1.1, he.1.2⟩, fun b hb hn => ?_⟩
      have e := he.2 b hb hn
      have nb : b ≠ y' := fun z => by
        rcases hy with q | q
        · rw [z, q] at hn; simp at hn
        · exact q (z ▸ hb)
      exact ⟨(va_up_ne _ _ nb).trans e.1, e.2⟩
    exact hE1.uI (fun _ => by simp) 3 _
end
