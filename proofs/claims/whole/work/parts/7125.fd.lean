theorem due_eq {inf : Int → Nat → Int} {m : xM} {l : Int} (h : ∀ g : Int, 0 ≤ g → g < l → inf g 8 = m 38 g ∧ inf g 7 = m 37 g) : ∀ (d : Nat) (best g : Int), 0 ≤ best → best < l → 0 ≤ g → g + d ≤ l → dueC inf best g d = bestC m best g d
  | 0, best, g, _, _, _, _ => rfl
  | d + 1, best, g, h0, h1, h2, h3 => by
    unfold dueC bestC
    have eg := h g h2 (by omega)
    have eb := h best h0 h1
    rw [eg.1, eg.2, eb.1, eb.2]
    by_cases q : m 38 g < m 38 best
    · rw [if_pos (Or.inr (Or.inl q)), if_pos q]
      exact due_eq h d g (g + 1) h2 (by omega) (by omega) (by omega)
    · rw [if_neg q]
      by_cases q2 : m 38 g = m 38 best ∧ m 37 g < m 37 best
      · rw [if_pos (Or.inr (Or.inr q2)), if_pos q2]
        exact due_eq h d g (g + 1) h2 (by omega) (by omega) (by omega)
      · rw [if_neg (by omega), if_neg q2]
        exact due_eq h d best (g + 1) h0 h1 (by omega) (by omega)
theorem due_first {inf : Int → Nat → Int} (d : Nat) : dueC inf (-1) 0 (d + 1) = dueC inf 0 1 d := by
  rw [dueC, if_pos (Or.inl rfl)]
  rfl
