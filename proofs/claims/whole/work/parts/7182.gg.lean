/-! PHASE 3: a word's letters packed -/
section
variable {D : wD} {U : wS} {y b : Nat} {L : List Int}
def pkT (t : Int → Int) (z : Int) : Nat → Int → Int
  | 0, _ => z
  | n + 1, j => pkT t (z * 256 + t j) n (j + 1)
theorem c64 : ∀ n : Nat, n < 128 → Int32.toInt64 (iI (n : Int)) = zI (n : Int) := by decide +kernel
theorem q_packed_15 {post : Int64 → wS → Prop} (hT : SB U b y L) (hc : sN U y < 1000000) {e : Int} (he : e ≤ L.length) : ∀ (f d : Nat) (j z : Int), d < f → j + d = e → 0 ≤ j → d ≤ 7 → 0 ≤ z → z < 256 ^ (7 - d) → post (zI (pkT (tx L) z d j)) U → wp_X5_packed_15 D post f U b (iI e) (zI z) (iI j) := by
  have hl : L.length < 1000000 := Nat.lt_of_le_of_lt hT.2.1.2.2.2 hc
  intro f
  induction f with
  | zero => intro d j z hd; omega
  | succ f ih =>
    intro d j z hd hj j0 h7 z0 z1 k
    unfold wp_X5_packed_15 wp_X5_packed_49
    rw [iI_le (by omega) (by omega) (by omega) (by omega)]
    cases d with
    | zero => exact ⟨fun _ => k, fun q => absurd (by omega) q⟩
    | succ d =>
      refine ⟨fun q => absurd q (by omega), fun _ => ?_⟩
      refine q_lenB hT ?_
      rw [iI_le (by omega) (by omega) (by omega) (by omega)]
      refine ⟨fun q => absurd q (by omega), fun _ => ?_⟩
      refine q_charB hT hc (by omega) ?_
      have r1 := tx_r hT.2.2.2.2.1 j
      have e64 := c64 (tx L j).toNat (by omega)
      rw [Int.toNat_of_nonneg r1.1] at e64
      intro x7 e7 x8 e8
      have zb : z < 36028797018963968 ∧ (256 : Int) ^ (7 - d) = 256 * 256 ^ (7 - (d + 1)) := by
        rcases (show d = 0 ∨ d = 1 ∨ d = 2 ∨ d = 3 ∨ d = 4 ∨ d = 5 ∨ d = 6 by omega) with rfl | rfl | rfl | rfl | rfl | rfl | rfl <;> (refine ⟨?_, by decide⟩; simp at z1; omega)
      rw [tx_in, e64, sh8 z0 zb.1 (by omega)] at e7
      rw [e7, e8, show (1 : Int32) = iI 1 from rfl, iI_add]
      refine ih d (j + 1) _ (by omega) (by omega) (by omega) (by omega) (by omega) ?_ k
      rw [zb.2]; omega
theorem q_packed {post : Int64 → wS → Prop} (hT : SB U b y L) (hc : sN U y < 1000000) {a e : Int} (ha : 0 ≤ a) (he : a ≤ e ∧ e ≤ L.length) (k : post (zI (if e - a ≤ 7 then pkT (tx L) 0 (e - a).toNat a else 0)) U) : wp_X5_packed D post U b (iI a) (iI e) := by
  have hl : L.length < 1000000 := Nat.lt_of_le_of_lt hT.2.1.2.2.2 hc
  unfold wp_X5_packed wp_X5_packed_0
  rw [iI_sub, show (7 : Int32) = iI 7 from rfl, iI_le (by omega) (by omega) (by decide) (by decide)]
  refine ⟨fun q => ⟨(e - a).toNat + 1, ?_⟩, fun q => ?_⟩
  · rw [if_pos q] at k
    exact q_packed_15 hT hc he.2 _ (e - a).toNat a 0 (by omega) (by omega) ha (by omega) (by decide) (Int.pow_pos (by decide)) k
  · rw [if_neg q] at k
    exact k
end
