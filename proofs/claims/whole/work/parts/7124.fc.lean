theorem calm_eq {w : Int → Int → Int} {mv : Int → Mv} {loud : Int → Int} {made : Int} (h : ∀ k : Int, 0 ≤ k → k < made → (quietC w mv k = true ↔ loud k = 0)) : ∀ (d : Nat) (c : Int), c + d = made → 0 ≤ c → calmW w mv (made - 1 - c) c d = calmC loud made c d
  | 0, c, _, _ => rfl
  | d + 1, c, hc, h0 => by
    unfold calmW calmC
    have e := h (made - 1 - c) (by omega) (by omega)
    by_cases q : quietC w mv (made - 1 - c) = true
    · rw [if_pos q, if_pos (e.mp q)]
      have := calm_eq h d (c + 1) (by omega) (by omega)
      rw [show made - 1 - (c + 1) = made - 1 - c - 1 by omega] at this
      exact this
    · rw [if_neg q, if_neg (fun z => q (e.mpr z))]
/-- the class's state of the present position is the reference's -/
theorem state_eq {F R : Int} {m : xM} {mv : Int → Mv} (hm : 0 ≤ m 50 11) (hq : ∀ k : Int, 0 ≤ k → k < m 50 11 → (quietC (gv m) mv k = true ↔ m 10 k = 0)) : stateC F R (m 50 11) (gv m) mv (pv m) = stateB F R m := by
  have ce := calm_eq hq (m 50 11).toNat 0 (by omega) (by decide)
  rw [Int.sub_zero] at ce
  unfold stateC stateB
  rw [ce]
  rfl
