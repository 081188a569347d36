theorem clearL_iff {v : Int → Int} {step : Int} : ∀ {d : Nat} {k : Int}, clearL v k step d = true ↔ ∀ j : Nat, j < d → v (k + j * step) = 0
  | 0, k => by simp only [clearL, true_iff]; intro j h; omega
  | d + 1, k => by
    unfold clearL
    rw [Bool.and_eq_true, clearL_iff, beq_iff_eq]
    constructor
    · rintro ⟨h, h2⟩ j hj
      cases j with
      | zero => simpa using h
      | succ j =>
        have := h2 j (by omega)
        rw [← this]; congr 1
        push_cast; rw [Int.add_mul]; omega
    · intro h
      refine ⟨by simpa using h 0 (by omega), fun j hj => ?_⟩
      have := h (j + 1) (by omega)
      rw [← this]; congr 1
      push_cast; rw [Int.add_mul]; omega
/-- whether nothing stands between two squares of a line, by a set of squares -/
def clearO (F : Int) (occ : Int → Bool) (a b : Int) : Bool := clearB F (fun k => if occ k then 1 else 0) a b
theorem clearO_v (F : Int) (v : Int → Int) (a b : Int) : clearO F (fun k => !decide (v k = 0)) a b = clearB F v a b := by
  unfold clearO clearB
  apply Bool.eq_iff_iff.mpr
  rw [clearL_iff, clearL_iff]
  refine forall_congr' fun j => imp_congr_right fun _ => ?_
  by_cases h : v (a + stepOf F (b % F - a % F) (b / F - a / F) + (j : Int) * stepOf F (b % F - a % F) (b / F - a / F)) = 0 <;> simp [h]
theorem clearO_iff {F a b : Int} {occ : Int → Bool} {s d : Int} (hs : 1 ≤ s) (hd : 0 ≤ d ∧ d < 8) (h1 : b % F = a % F + s * dfD d) (h2 : b / F = a / F + s * drD d) :
    clearO F occ a b = true ↔ ∀ s1 : Int, 1 ≤ s1 → s1 < s → occ (a + s1 * (dfD d + F * drD d)) = false := by
  unfold clearO clearB
  have e1 : stepOf F (b % F - a % F) (b / F - a / F) = dfD d + F * drD d := by
    rw [h1, h2]
    rcases dir_cases hd.1 hd.2 with rfl | rfl | rfl | rfl | rfl | rfl | rfl | rfl <;> simp only [dfD, drD, Int.reduceEq, if_true, if_false] <;> unfold stepOf <;> omega
  have e2 : farOf (b % F - a % F) (b / F - a / F) = s.toNat := by
    rw [h1, h2]
    rcases dir_cases hd.1 hd.2 with rfl | rfl | rfl | rfl | rfl | rfl | rfl | rfl <;> simp only [dfD, drD, Int.reduceEq, if_true, if_false] <;> unfold farOf <;> omega
  rw [e1, e2, clearL_iff]
  constructor
  · intro h s1 k1 k2
    have := h (s1 - 1).toNat (by omega)
    rw [Int.toNat_of_nonneg (by omega), Int.sub_mul] at this
    cases ho : occ (a + s1 * (dfD d + F * drD d))
    · rfl
    · have e : a + (dfD d + F * drD d) + (s1 * (dfD d + F * drD d) - 1 * (dfD d + F * drD d)) = a + s1 * (dfD d + F * drD d) := by omega
      rw [e, ho] at this
      simp at this
  · intro h j hj
    have := h (j + 1) (by omega) (by omega)
    rw [Int.add_mul] at this
    have e : a + (dfD d + F * drD d) + (j : Int) * (dfD d + F * drD d) = a + ((j : Int) * (dfD d + F * drD d) + 1 * (dfD d + F * drD d)) := by omega
    rw [e, this]; rfl
/-- the squares seen along the straight or the slanting rows -/
def slideB (F R : Int) (occ : Int → Bool) (a : Int) (st : Bool) (t : Int) : Bool :=
  anyL (fun i => wayB F R occ (a % F) (a / F) ((if st then 0 else 4) + i) (decide (i < 2)) t) 0 4
def lineB (F : Int) (st : Bool) (a b : Int) : Bool :=
  if st then decide (dist (a % F) (b % F) * dist (a / F) (b / F) = 0) && decide (0 < dist (a % F) (b % F) + dist (a / F) (b / F))
  else decide (dist (a % F) (b % F) = dist (a / F) (b / F)) && decide (0 < dist (a % F) (b % F))
theorem line_dir {F a b : Int} {st : Bool} (h : lineB F st a b = true) : ∃ d s : Int, (if st then 0 else 4) ≤ d ∧ d < (if st then 0 else 4) + 4 ∧ 1 ≤ s ∧ b % F = a % F + s * dfD d ∧ b / F = a / F + s * drD d := by
  unfold lineB at h
  cases st
  · simp only [Bool.false_eq_true, if_false, Bool.and_eq_true, decide_eq_true_eq] at h ⊢
    unfold dist at h
    rcases Int.lt_trichotomy (a % F) (b % F) with h1 | h1 | h1 <;> rcases Int.lt_trichotomy (a / F) (b / F) with h2 | h2 | h2
    · exact ⟨4, b % F - a % F, by omega, by omega, by omega, by simp only [dfD, Int.reduceEq, if_true, if_false]; omega, by simp only [drD, Int.reduceEq, if_true, if_false]; omega⟩
    · exfalso; omega
    · exact ⟨7, b % F - a % F, by omega, by omega, by omega, by simp only [dfD, Int.reduceEq, if_true, if_false]; omega, by simp only [drD, Int.reduceEq, if_true, if_false]; omega⟩
    · exfalso; omega
    · exfalso; omega
    · exfalso; omega
    · exact ⟨5, a % F - b % F, by omega, by omega, by omega, by simp only [dfD, Int.reduceEq, if_true, if_false]; omega, by simp only [drD, Int.reduceEq, if_true, if_false]; omega⟩
    · exfalso; omega
    · exact ⟨6, a % F - b % F, by omega, by omega, by omega, by simp only [dfD, Int.reduceEq, if_true, if_false]; omega, by simp only [drD, Int.reduceEq, if_true, if_false]; omega⟩
  · simp only [if_true, Bool.and_eq_true, decide_eq_true_eq] at h ⊢
    obtain ⟨h0, hp⟩ := h
    have h0 : dist (a % F) (b % F) = 0 ∨ dist (a / F) (b / F) = 0 := Int.mul_eq_zero.mp h0
    unfold dist at h0 hp
    rcases Int.lt_trichotomy (a % F) (b % F) with h1 | h1 | h1 <;> rcases Int.lt_trichotomy (a / F) (b / F) with h2 | h2 | h2
    · exfalso; omega
    · exact ⟨0, b % F - a % F, by omega, by omega, by omega, by simp only [dfD, Int.reduceEq, if_true, if_false]; omega, by simp only [drD, Int.reduceEq, if_true, if_false]; omega⟩
    · exfalso; omega
    · exact ⟨1, b / F - a / F, by omega, by omega, by omega, by simp only [dfD, Int.reduceEq, if_true, if_false]; omega, by simp only [drD, Int.reduceEq, if_true, if_false]; omega⟩
    · exfalso; omega
    · exact ⟨3, a / F - b / F, by omega, by omega, by omega, by simp only [dfD, Int.reduceEq, if_true, if_false]; omega, by simp only [drD, Int.reduceEq, if_true, if_false]; omega⟩
    · exfalso; omega
    · exact ⟨2, a % F - b % F, by omega, by omega, by omega, by simp only [dfD, Int.reduceEq, if_true, if_false]; omega, by simp only [drD, Int.reduceEq, if_true, if_false]; omega⟩
    · exfalso; omega
theorem dir_line {F a b d s : Int} {st : Bool} (h1 : (if st then 0 else 4) ≤ d) (h2 : d < (if st then 0 else 4) + 4) (hs : 1 ≤ s) (h3 : b % F = a % F + s * dfD d) (h4 : b / F = a / F + s * drD d) : lineB F st a b = true := by
  unfold lineB
  cases st
  · simp only [Bool.false_eq_true, if_false, Bool.and_eq_true, decide_eq_true_eq] at h1 h2 ⊢
    rw [h3, h4]
    unfold dist
    rcases (show d = 4 ∨ d = 5 ∨ d = 6 ∨ d = 7 by omega) with rfl | rfl | rfl | rfl <;> simp only [dfD, drD, Int.reduceEq, if_true, if_false] <;> omega
  · simp only [if_true, Bool.and_eq_true, decide_eq_true_eq] at h1 h2 ⊢
    rw [h3, h4]
    unfold dist
    rcases (show d = 0 ∨ d = 1 ∨ d = 2 ∨ d = 3 by omega) with rfl | rfl | rfl | rfl <;> simp only [dfD, drD, Int.reduceEq, if_true, if_false] <;> (constructor <;> first | omega | (apply Int.mul_eq_zero.mpr; omega))
theorem slide_iff {F R a t : Int} {occ : Int → Bool} {st : Bool} (h4 : 4 ≤ F) (h8 : F ≤ 8) (r4 : 4 ≤ R) (r8 : R ≤ 8) (hn : F * R ≤ 64) (ha : 0 ≤ a ∧ a < F * R) (ht : 0 ≤ t ∧ t < 64) :
    slideB F R occ a st t = (decide (t < F * R) && (lineB F st a t && clearO F occ a t)) := by
  apply Bool.eq_iff_iff.mpr
  unfold slideB
  have hup : ∀ i : Int, 0 ≤ i → i < 4 → (decide (i < 2) = true ↔ 0 < dfD ((if st then 0 else 4) + i) + F * drD ((if st then 0 else 4) + i)) := fun i h0 h1 => by
    rcases (show i = 0 ∨ i = 1 ∨ i = 2 ∨ i = 3 by omega) with rfl | rfl | rfl | rfl <;> rcases F_cases h4 h8 with rfl | rfl | rfl | rfl | rfl <;> cases st <;> decide
  have hd8 : ∀ i : Int, 0 ≤ i → i < 4 → 0 ≤ (if st then 0 else 4) + i ∧ (if st then 0 else 4) + i < 8 := fun i h0 h1 => by cases st <;> simp <;> omega
  rw [anyL_iff, Bool.and_eq_true, Bool.and_eq_true, decide_eq_true_eq]
  constructor
  · rintro ⟨i, h0, h1, hw⟩
    have hd := hd8 i h0 (by omega)
    obtain ⟨g1, s, g2, g3, g4, g5, g6⟩ := (way_iff h4 h8 r4 r8 hn ha hd ht (hup i h0 (by omega))).mp hw
    exact ⟨g1, dir_line (st := st) (d := (if st then 0 else 4) + i) (by omega) (by omega) g2 g4 g5, (clearO_iff g2 hd g4 g5).mpr g6⟩
  · rintro ⟨g1, g2, g3⟩
    obtain ⟨d, s, q1, q2, q3, q4, q5⟩ := line_dir g2
    have hd : 0 ≤ d ∧ d < 8 := by revert q1 q2; cases st <;> simp <;> omega
    have s7 : s ≤ 7 := by
      have e1 := Int.emod_lt_of_pos t (show 0 < F by omega)
      have e2 := Int.emod_nonneg a (show F ≠ 0 by omega)
      have e3 := Int.emod_lt_of_pos a (show 0 < F by omega)
      have e4 := Int.emod_nonneg t (show F ≠ 0 by omega)
      have e5 : 0 ≤ t / F ∧ t / F < 8 ∧ 0 ≤ a / F ∧ a / F < 8 := by rcases F_cases h4 h8 with rfl | rfl | rfl | rfl | rfl <;> omega
      rcases dir_cases hd.1 hd.2 with rfl | rfl | rfl | rfl | rfl | rfl | rfl | rfl <;> simp only [dfD, drD, Int.reduceEq, if_true, if_false] at q4 q5 <;> omega
    refine ⟨d - (if st then 0 else 4), by omega, by omega, ?_⟩
    have e : (if st then 0 else 4) + (d - (if st then 0 else 4)) = d := by omega
    have := (way_iff (occ := occ) (up := decide (d - (if st then 0 else 4) < 2)) h4 h8 r4 r8 hn ha hd ht (by
      have := hup (d - (if st then 0 else 4)) (by omega) (by omega)
      rw [e] at this; exact this)).mpr ⟨g1, s, q3, s7, q4, q5, (clearO_iff q3 hd q4 q5).mp g3⟩
    rw [e]; exact this
