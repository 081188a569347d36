section
variable {D : wD} {U : wS} {post : Int32 → wS → Prop}
theorem q_gcd_7 : ∀ (e n a b i : Nat), 2 * e + 1 < n → b < 2 ^ e → a < 2147483648 → b < 2147483648 → i + 2 * e < 64 → post (iI (Nat.gcd a b)) U → wp_X11_greatestDivisor_7 D post n U (iI a) (iI b) (iI i) := by
  have one : ∀ (n a b i : Nat), a < 2147483648 → b < 2147483648 → i < 64 → (b = 0 → post (iI a) U) → (b ≠ 0 → wp_X11_greatestDivisor_7 D post n U (iI b) (iI (a % b : Nat)) (iI (i + 1 : Nat))) → wp_X11_greatestDivisor_7 D post (n + 1) U (iI a) (iI b) (iI i) := by
    intro n a b i ha hb hi k0 k1
    rw [wp_X11_greatestDivisor_7]
    unfold wp_X11_greatestDivisor_34
    rw [show (64 : Int32) = iI 64 from rfl, iI_le (by decide) (by decide) (by omega) (by omega), show (0 : Int32) = iI 0 from rfl, iI_eq (by omega) (by omega) (by decide) (by decide)]
    refine ⟨fun q => absurd q (by omega), fun _ => ⟨fun q => k0 (by omega), fun q => ⟨q, ?_⟩⟩⟩
    intro x4 e4 x5 e5
    have hb0 : b ≠ 0 := fun z => q (by rw [z]; rfl)
    rw [iI_rem (by omega) (by omega) (by omega) (by omega)] at e4
    rw [e4, e5, show (1 : Int32) = iI 1 from rfl, iI_add]
    have := k1 hb0
    rw [show ((a : Int) % (b : Int)) = ((a % b : Nat) : Int) from (Int.natCast_emod a b).symm]
    exact this
  intro e
  induction e with
  | zero =>
    intro n a b i hn hb ha hb2 hi k
    have b0 : b = 0 := by simpa using hb
    subst b0
    rw [Nat.gcd_zero_right] at k
    obtain ⟨n', rfl⟩ : ∃ n', n = n' + 1 := ⟨n - 1, by omega⟩
    exact one n' a 0 i ha (by decide) (by omega) (fun _ => k) (fun z => absurd rfl z)
  | succ e ih =>
    intro n a b i hn hb ha hb2 hi k
    obtain ⟨n', rfl⟩ : ∃ n', n = n' + 2 := ⟨n - 2, by omega⟩
    refine one (n' + 1) a b i ha hb2 (by omega) (fun z => ?_) (fun z => ?_)
    · rw [z, Nat.gcd_zero_right] at k; exact k
    · have hr := Nat.mod_lt a (Nat.pos_of_ne_zero z)
      have g1 : Nat.gcd b (a % b) = Nat.gcd a b := by rw [Nat.gcd_comm b (a % b), ← Nat.gcd_rec b a, Nat.gcd_comm b a]
      refine one n' b (a % b) (i + 1) hb2 (by omega) (by omega) (fun y => ?_) (fun y => ?_)
      · rw [y, Nat.gcd_zero_right] at g1
        rw [g1]; exact k
      · have hr2 := Nat.mod_lt b (Nat.pos_of_ne_zero y)
        have g2 : Nat.gcd (a % b) (b % (a % b)) = Nat.gcd b (a % b) := by rw [Nat.gcd_comm (a % b) (b % (a % b)), ← Nat.gcd_rec (a % b) b, Nat.gcd_comm (a % b) b]
        have half : 2 * (b % (a % b)) < b := by
          have h1 := Nat.div_add_mod b (a % b)
          have h2 : 1 ≤ b / (a % b) := (Nat.le_div_iff_mul_le (Nat.pos_of_ne_zero y)).mpr (by omega)
          have h3 : (a % b) * 1 ≤ (a % b) * (b / (a % b)) := Nat.mul_le_mul_left _ h2
          omega
        have hp : b < 2 * 2 ^ e := by rw [Nat.pow_succ] at hb; omega
        rw [show i + 1 + 1 = i + 2 from rfl]
        exact ih n' (a % b) (b % (a % b)) (i + 2) (by omega) (by omega) (by omega) (by omega) (by omega) (by rw [g2, g1]; exact k)
theorem q_gcdC {a b : Int} (ha : 0 ≤ a ∧ a < 2147483648) (hb : 0 ≤ b ∧ b < 2147483648) (k : post (iI (Nat.gcd a.toNat b.toNat)) U) : wp_X11_greatestDivisor D post U (iI a) (iI b) := by
  refine ⟨65, ?_⟩
  have q := q_gcd_7 (D := D) (post := post) (U := U) 31 65 a.toNat b.toNat 0 (by decide) (by omega) (by omega) (by omega) (by decide) k
  rw [Int.toNat_of_nonneg ha.1, Int.toNat_of_nonneg hb.1] at q
  exact q
end
