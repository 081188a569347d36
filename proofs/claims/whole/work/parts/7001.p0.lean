def stepOf (F df dr : Int) : Int := (if 0 < dr then F else if dr < 0 then -F else 0) + (if 0 < df then 1 else if df < 0 then -1 else 0)
/-- how far two squares of a line lie apart -/
def farOf (df dr : Int) : Nat := max df.natAbs dr.natAbs
theorem stepOf_cases (F df dr : Int) : (0 < dr ∧ 0 < df ∧ stepOf F df dr = F + 1) ∨ (0 < dr ∧ df = 0 ∧ stepOf F df dr = F) ∨ (0 < dr ∧ df < 0 ∧ stepOf F df dr = F - 1) ∨ (dr = 0 ∧ 0 < df ∧ stepOf F df dr = 1) ∨ (dr = 0 ∧ df = 0 ∧ stepOf F df dr = 0) ∨ (dr = 0 ∧ df < 0 ∧ stepOf F df dr = -1) ∨ (dr < 0 ∧ 0 < df ∧ stepOf F df dr = -F + 1) ∨ (dr < 0 ∧ df = 0 ∧ stepOf F df dr = -F) ∨ (dr < 0 ∧ df < 0 ∧ stepOf F df dr = -F - 1) := by
  unfold stepOf
  omega
theorem clear_geo {F a b : Int} (h4 : 4 ≤ F) (h8 : F ≤ 8) (ha : 0 ≤ a ∧ a < 64) (hb : 0 ≤ b ∧ b < 64) (hne : a ≠ b)
    (hal : b % F = a % F ∨ b / F = a / F ∨ b % F - a % F = b / F - a / F ∨ b % F - a % F = a / F - b / F) :
    b = a + stepOf F (b % F - a % F) (b / F - a / F) + ((farOf (b % F - a % F) (b / F - a / F) - 1 : Nat) : Int) * stepOf F (b % F - a % F) (b / F - a / F) ∧
    (∀ j : Nat, j < farOf (b % F - a % F) (b / F - a / F) - 1 → 0 ≤ a + stepOf F (b % F - a % F) (b / F - a / F) + j * stepOf F (b % F - a % F) (b / F - a / F) ∧ a + stepOf F (b % F - a % F) (b / F - a / F) + j * stepOf F (b % F - a % F) (b / F - a / F) < 64) ∧
    stepOf F (b % F - a % F) (b / F - a / F) ≠ 0 ∧ (-1000 < stepOf F (b % F - a % F) (b / F - a / F) ∧ stepOf F (b % F - a % F) (b / F - a / F) < 1000) ∧ farOf (b % F - a % F) (b / F - a / F) ≤ 64 := by
  have hc := stepOf_cases F (b % F - a % F) (b / F - a / F)
  unfold farOf
  generalize stepOf F (b % F - a % F) (b / F - a / F) = st at hc ⊢
  rcases (show F = 4 ∨ F = 5 ∨ F = 6 ∨ F = 7 ∨ F = 8 by omega) with rfl | rfl | rfl | rfl | rfl <;>
  (rcases hc with ⟨h1, h2, rfl⟩ | ⟨h1, h2, rfl⟩ | ⟨h1, h2, rfl⟩ | ⟨h1, h2, rfl⟩ | ⟨h1, h2, rfl⟩ | ⟨h1, h2, rfl⟩ | ⟨h1, h2, rfl⟩ | ⟨h1, h2, rfl⟩ | ⟨h1, h2, rfl⟩ <;> (refine ⟨?_, fun j hj => ?_, ?_, ?_, ?_⟩ <;> omega))
