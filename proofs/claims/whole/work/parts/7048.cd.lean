/-! PHASE 3, THE BOARD'S ROWS: what is seen along them -/
theorem anyL_iff {p : Int → Bool} : ∀ {d : Nat} {k : Int}, anyL p k d = true ↔ ∃ j : Int, k ≤ j ∧ j < k + d ∧ p j = true
  | 0, k => by simp only [anyL, Bool.false_eq_true, false_iff]; rintro ⟨j, h1, h2, _⟩; omega
  | d + 1, k => by
    unfold anyL
    rw [Bool.or_eq_true, anyL_iff]
    constructor
    · rintro (h | ⟨j, h1, h2, h3⟩)
      · exact ⟨k, by omega, by omega, h⟩
      · exact ⟨j, by omega, by omega, h3⟩
    · rintro ⟨j, h1, h2, h3⟩
      by_cases h : j = k
      · subst h; exact Or.inl h3
      · exact Or.inr ⟨j, by omega, by omega, h3⟩
theorem allL_iff {p : Int → Bool} : ∀ {d : Nat} {k : Int}, allL p k d = true ↔ ∀ j : Int, k ≤ j → j < k + d → p j = true
  | 0, k => by simp only [allL, true_iff]; intro j h1 h2; omega
  | d + 1, k => by
    unfold allL
    rw [Bool.and_eq_true, allL_iff]
    constructor
    · rintro ⟨h, h2⟩ j h3 h4
      by_cases e : j = k
      · subst e; exact h
      · exact h2 j (by omega) (by omega)
    · intro h
      exact ⟨h k (by omega) (by omega), fun j h1 h2 => h j (by omega) (by omega)⟩
def dfD (d : Int) : Int := if d = 0 then 1 else if d = 2 then -1 else if d = 4 then 1 else if d = 5 then -1 else if d = 6 then -1 else if d = 7 then 1 else 0
def drD (d : Int) : Int := if d = 1 then 1 else if d = 3 then -1 else if d = 4 then 1 else if d = 5 then 1 else if d = 6 then -1 else if d = 7 then -1 else 0
/-- the square at a file and a rank, if the board has them -/
def setB (F R f r t : Int) : Bool := decide (0 ≤ f) && decide (f < F) && decide (0 ≤ r) && decide (r < R) && decide (t = r * F + f)
def rayB (F R f r df dr t : Int) : Bool := anyL (fun s => setB F R (f + s * df) (r + s * dr) t) 1 7
theorem setB_iff {F R f r t : Int} (h4 : 4 ≤ F) (h8 : F ≤ 8) (r4 : 4 ≤ R) (r8 : R ≤ 8) (ht : 0 ≤ t) : setB F R f r t = true ↔ t < F * R ∧ t % F = f ∧ t / F = r := by
  unfold setB
  simp only [Bool.and_eq_true, decide_eq_true_eq]
  rcases (show F = 4 ∨ F = 5 ∨ F = 6 ∨ F = 7 ∨ F = 8 by omega) with rfl | rfl | rfl | rfl | rfl <;> omega
theorem ray_iff {F R f r df dr t : Int} (h4 : 4 ≤ F) (h8 : F ≤ 8) (r4 : 4 ≤ R) (r8 : R ≤ 8) (ht : 0 ≤ t) : rayB F R f r df dr t = true ↔ t < F * R ∧ ∃ s : Int, 1 ≤ s ∧ s ≤ 7 ∧ t % F = f + s * df ∧ t / F = r + s * dr := by
  unfold rayB
  rw [anyL_iff]
  constructor
  · rintro ⟨s, h1, h2, h3⟩
    rw [setB_iff h4 h8 r4 r8 ht] at h3
    exact ⟨h3.1, s, h1, by omega, h3.2.1, h3.2.2⟩
  · rintro ⟨h, s, h1, h2, h3, h5⟩
    exact ⟨s, h1, by omega, (setB_iff h4 h8 r4 r8 ht).mpr ⟨h, h3, h5⟩⟩
/-- the part of a ray up to and with the first that is occupied -/
def wayB (F R : Int) (occ : Int → Bool) (f r d : Int) (up : Bool) (t : Int) : Bool :=
  rayB F R f r (dfD d) (drD d) t && (if up then !zlow (fun u => rayB F R f r (dfD d) (drD d) u && occ u) t else !zup (fun u => rayB F R f r (dfD d) (drD d) u && occ u) (t + 1) 64)
theorem dir_cases {d : Int} (h0 : 0 ≤ d) (h1 : d < 8) : d = 0 ∨ d = 1 ∨ d = 2 ∨ d = 3 ∨ d = 4 ∨ d = 5 ∨ d = 6 ∨ d = 7 := by omega
theorem F_cases {F : Int} (h4 : 4 ≤ F) (h8 : F ≤ 8) : F = 4 ∨ F = 5 ∨ F = 6 ∨ F = 7 ∨ F = 8 := by omega
/-- the ray from a square, its steps -/
theorem ray_step {F R a d t : Int} (h4 : 4 ≤ F) (h8 : F ≤ 8) (r4 : 4 ≤ R) (r8 : R ≤ 8) (ha : 0 ≤ a ∧ a < F * R) (hd : 0 ≤ d ∧ d < 8) (ht : 0 ≤ t) (h : rayB F R (a % F) (a / F) (dfD d) (drD d) t = true) :
    ∃ s : Int, 1 ≤ s ∧ s ≤ 7 ∧ t = a + s * (dfD d + F * drD d) ∧ t < F * R ∧ t % F = a % F + s * dfD d ∧ t / F = a / F + s * drD d := by
  obtain ⟨h0, s, h1, h2, h3, h5⟩ := (ray_iff h4 h8 r4 r8 ht).mp h
  refine ⟨s, h1, h2, ?_, h0, h3, h5⟩
  have e1 := Int.emod_add_mul_ediv t F
  have e2 := Int.emod_add_mul_ediv a F
  rw [← e1, h3, h5, Int.mul_add, Int.mul_add]
  have : F * (s * drD d) = s * (F * drD d) := by rw [← Int.mul_assoc, Int.mul_comm F s, Int.mul_assoc]
  rw [this]
  omega
theorem step_mid {F R a d s s1 t : Int} (h4 : 4 ≤ F) (h8 : F ≤ 8) (r4 : 4 ≤ R) (r8 : R ≤ 8) (ha : 0 ≤ a ∧ a < F * R) (hd : 0 ≤ d ∧ d < 8) (ht : 0 ≤ t ∧ t < F * R) (hs : s ≤ 7) (h1 : 1 ≤ s1) (h2 : s1 ≤ s)
    (h3 : t % F = a % F + s * dfD d) (h5 : t / F = a / F + s * drD d) : 0 ≤ a + s1 * (dfD d + F * drD d) ∧ rayB F R (a % F) (a / F) (dfD d) (drD d) (a + s1 * (dfD d + F * drD d)) = true := by
  have key : 0 ≤ a + s1 * (dfD d + F * drD d) ∧ a + s1 * (dfD d + F * drD d) < F * R ∧ (a + s1 * (dfD d + F * drD d)) % F = a % F + s1 * dfD d ∧ (a + s1 * (dfD d + F * drD d)) / F = a / F + s1 * drD d := by
    rcases dir_cases hd.1 hd.2 with rfl | rfl | rfl | rfl | rfl | rfl | rfl | rfl <;> rcases F_cases h4 h8 with rfl | rfl | rfl | rfl | rfl <;> simp only [dfD, drD, Int.reduceEq, if_true, if_false] at h3 h5 ⊢ <;> omega
  exact ⟨key.1, (ray_iff h4 h8 r4 r8 key.1).mpr ⟨key.2.1, s1, h1, by omega, key.2.2.1, key.2.2.2⟩⟩
/-- a way is a ray without anything between -/
theorem way_iff {F R a d t : Int} {occ : Int → Bool} {up : Bool} (h4 : 4 ≤ F) (h8 : F ≤ 8) (r4 : 4 ≤ R) (r8 : R ≤ 8) (hn : F * R ≤ 64) (ha : 0 ≤ a ∧ a < F * R) (hd : 0 ≤ d ∧ d < 8) (ht : 0 ≤ t ∧ t < 64)
    (hu : up = true ↔ 0 < dfD d + F * drD d) : wayB F R occ (a % F) (a / F) d up t = true ↔ t < F * R ∧ ∃ s : Int, 1 ≤ s ∧ s ≤ 7 ∧ t % F = a % F + s * dfD d ∧ t / F = a / F + s * drD d ∧ ∀ s1 : Int, 1 ≤ s1 → s1 < s → occ (a + s1 * (dfD d + F * drD d)) = false := by
  have hz : dfD d + F * drD d ≠ 0 := by
    rcases dir_cases hd.1 hd.2 with rfl | rfl | rfl | rfl | rfl | rfl | rfl | rfl <;> rcases F_cases h4 h8 with rfl | rfl | rfl | rfl | rfl <;> decide
  unfold wayB
  rw [Bool.and_eq_true]
  constructor
  · rintro ⟨hr, hb⟩
    obtain ⟨s, g1, g2, g3, g4, g5, g6⟩ := ray_step h4 h8 r4 r8 ha hd ht.1 hr
    refine ⟨g4, s, g1, g2, g5, g6, fun s1 k1 k2 => ?_⟩
    obtain ⟨m1, m2⟩ := step_mid h4 h8 r4 r8 ha hd ⟨ht.1, g4⟩ g2 k1 (by omega) g5 g6
    cases ho : occ (a + s1 * (dfD d + F * drD d))
    · rfl
    · exfalso
      by_cases hs : up = true
      · rw [if_pos hs] at hb
        have hp := hu.mp hs
        have : zlow (fun u => rayB F R (a % F) (a / F) (dfD d) (drD d) u && occ u) t = true := (zlow_iff (by omega)).mpr ⟨_, m1, by
          rw [g3]
          have := Int.mul_lt_mul_of_pos_right k2 hp
          omega, by simp only [m2, ho, Bool.and_true]⟩
        rw [this] at hb
        exact absurd hb (by decide)
      · rw [if_neg hs] at hb
        have hp : dfD d + F * drD d < 0 := by
          have : ¬ 0 < dfD d + F * drD d := fun h => hs (hu.mpr h)
          omega
        have hlt : t < a + s1 * (dfD d + F * drD d) := by
          rw [g3]
          have := Int.mul_lt_mul_of_neg_right k2 hp
          omega
        obtain ⟨m3, _⟩ := (ray_iff h4 h8 r4 r8 m1).mp m2
        have : zup (fun u => rayB F R (a % F) (a / F) (dfD d) (drD d) u && occ u) (t + 1) 64 = true := zup_iff.mpr ⟨(a + s1 * (dfD d + F * drD d) - (t + 1)).toNat, by omega, by
          rw [Int.toNat_of_nonneg (by omega), show t + 1 + (a + s1 * (dfD d + F * drD d) - (t + 1)) = a + s1 * (dfD d + F * drD d) by omega]
          simp only [m2, ho, Bool.and_true]⟩
        rw [this] at hb
        exact absurd hb (by decide)
  · rintro ⟨g4, s, g1, g2, g5, g6, hfree⟩
    have hr : rayB F R (a % F) (a / F) (dfD d) (drD d) t = true := (ray_iff h4 h8 r4 r8 ht.1).mpr ⟨g4, s, g1, g2, g5, g6⟩
    obtain ⟨s', q1, q2, q3, q4, q5, q6⟩ := ray_step h4 h8 r4 r8 ha hd ht.1 hr
    have hss : s' = s := by
      have : s' * dfD d = s * dfD d ∧ s' * drD d = s * drD d := by omega
      rcases dir_cases hd.1 hd.2 with rfl | rfl | rfl | rfl | rfl | rfl | rfl | rfl <;> simp only [dfD, drD, Int.reduceEq, if_true, if_false] at this <;> omega
    subst hss
    refine ⟨hr, ?_⟩
    have hblock : ∀ u : Int, 0 ≤ u → (rayB F R (a % F) (a / F) (dfD d) (drD d) u && occ u) = true → ∃ s1 : Int, s' ≤ s1 ∧ u = a + s1 * (dfD d + F * drD d) := fun u hu0 hb => by
      rw [Bool.and_eq_true] at hb
      obtain ⟨s1, w1, w2, w3, w4, w5, w6⟩ := ray_step h4 h8 r4 r8 ha hd hu0 hb.1
      rcases Int.lt_or_le s1 s' with h | h
      · have := hfree s1 w1 h
        rw [← w3, hb.2] at this
        exact absurd this (by decide)
      · exact ⟨s1, h, w3⟩
    by_cases hs : up = true
    · rw [if_pos hs]
      have hp := hu.mp hs
      cases hq : zlow (fun u => rayB F R (a % F) (a / F) (dfD d) (drD d) u && occ u) t
      · rfl
      · obtain ⟨u, b0, b1, b2⟩ := (zlow_iff (by omega)).mp hq
        obtain ⟨s1, w1, w2⟩ := hblock u b0 b2
        have := Int.mul_le_mul_of_nonneg_right w1 (Int.le_of_lt hp)
        omega
    · rw [if_neg hs]
      have hp : dfD d + F * drD d < 0 := by
        have : ¬ 0 < dfD d + F * drD d := fun h => hs (hu.mpr h)
        omega
      cases hq : zup (fun u => rayB F R (a % F) (a / F) (dfD d) (drD d) u && occ u) (t + 1) 64
      · rfl
      · obtain ⟨j, b1, b2⟩ := zup_iff.mp hq
        obtain ⟨s1, w1, w2⟩ := hblock _ (by omega) b2
        have := Int.mul_le_mul_of_nonpos_right w1 (Int.le_of_lt hp)
        omega
