/-! quotients of small numbers are numbers -/
def ddT (a b : Nat) : Bool := decide (FP.ddiv (FP.i2d (iI a)) (FP.i2d (iI b)) &&& 0x7fffffffffffffff ≤ 0x7ff0000000000000)
def ddL (b : Nat) : Nat → Bool
  | 0 => true
  | n + 1 => ddT n b && ddL b n
def fdT (a b : Nat) : Bool := decide (FP.fdiv (FP.i2f (iI a)) (FP.i2f (iI b)) &&& 0x7fffffff ≤ 0x7f800000)
theorem fdT_ok : ∀ b : Nat, b < 41 → ∀ a : Nat, a < 41 → (b = 0 ∨ fdT a b = true) := by decide +kernel
theorem ddL_1 : ∀ b : Nat, b < 16 → (b = 0 ∨ ddL b (80 * b + 1) = true) := by decide +kernel
theorem ddL_ok {b : Nat} : ∀ {n a : Nat}, ddL b n = true → a < n → ddT a b = true := by
  intro n
  induction n with
  | zero => intro a _ h; omega
  | succ n ih =>
    intro a h ha
    unfold ddL at h
    simp at h
    by_cases c : a = n
    · rw [c]; exact h.1
    · exact ih h.2 (by omega)
theorem ddL_2 : ∀ b : Nat, b < 9 → ddL (16 + b) (80 * (16 + b) + 1) = true := by decide +kernel
theorem ddL_3 : ∀ b : Nat, b < 7 → ddL (25 + b) (80 * (25 + b) + 1) = true := by decide +kernel
theorem ddL_4 : ∀ b : Nat, b < 5 → ddL (32 + b) (80 * (32 + b) + 1) = true := by decide +kernel
theorem ddL_5 : ∀ b : Nat, b < 4 → ddL (37 + b) (80 * (37 + b) + 1) = true := by decide +kernel
theorem ddT_all {a b : Nat} (hb : 1 ≤ b ∧ b ≤ 40) (ha : a ≤ 80 * b) : ddT a b = true := by
  have key : ddL b (80 * b + 1) = true := by
    by_cases c1 : b < 16
    · rcases ddL_1 b c1 with q | q
      · omega
      · exact q
    · by_cases c2 : b < 25
      · have := ddL_2 (b - 16) (by omega); rwa [show 16 + (b - 16) = b by omega] at this
      · by_cases c3 : b < 32
        · have := ddL_3 (b - 25) (by omega); rwa [show 25 + (b - 25) = b by omega] at this
        · by_cases c4 : b < 37
          · have := ddL_4 (b - 32) (by omega); rwa [show 32 + (b - 32) = b by omega] at this
          · have := ddL_5 (b - 37) (by omega); rwa [show 37 + (b - 37) = b by omega] at this
  exact ddL_ok key (by omega)
