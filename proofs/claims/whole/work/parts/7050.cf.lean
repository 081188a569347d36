def lfD (i : Int) : Int := if i = 0 then 1 else if i = 1 then 2 else if i = 2 then 2 else if i = 3 then 1 else if i = 4 then -1 else if i = 5 then -2 else if i = 6 then -2 else -1
def lrD (i : Int) : Int := if i = 0 then 2 else if i = 1 then 1 else if i = 2 then -1 else if i = 3 then -2 else if i = 4 then -2 else if i = 5 then -1 else if i = 6 then 1 else 2
def kstepB (F R a t : Int) : Bool := anyL (fun i => setB F R (a % F + dfD i) (a / F + drD i) t) 0 8
def nstepB (F R a t : Int) : Bool := anyL (fun i => setB F R (a % F + lfD i) (a / F + lrD i) t) 0 8
def aimB (F R a u t : Int) : Bool := setB F R (a % F - 1) (a / F + u) t || setB F R (a % F + 1) (a / F + u) t
def edgeB (F R t : Int) : Bool := decide (t < F * R) && (decide (t / F = 0) || decide (t / F = R - 1))
theorem kstep_iff {F R a t : Int} (h4 : 4 ≤ F) (h8 : F ≤ 8) (r4 : 4 ≤ R) (r8 : R ≤ 8) (ht : 0 ≤ t) : kstepB F R a t = (decide (t < F * R) && (decide (dist (a % F) (t % F) ≤ 1) && decide (dist (a / F) (t / F) ≤ 1) && decide (0 < dist (a % F) (t % F) + dist (a / F) (t / F)))) := by
  apply Bool.eq_iff_iff.mpr
  unfold kstepB
  rw [anyL_iff]
  simp only [Bool.and_eq_true, decide_eq_true_eq, setB_iff h4 h8 r4 r8 ht]
  constructor
  · rintro ⟨i, h0, h1, h2, h3, h5⟩
    refine ⟨h2, ?_⟩
    rw [h3, h5]
    unfold dist
    rcases dir_cases h0 (by omega) with rfl | rfl | rfl | rfl | rfl | rfl | rfl | rfl <;> simp only [dfD, drD, Int.reduceEq, if_true, if_false] <;> omega
  · rintro ⟨h2, ⟨h3, h5⟩, h6⟩
    unfold dist at h3 h5 h6
    rcases Int.lt_trichotomy (a % F) (t % F) with q1 | q1 | q1 <;> rcases Int.lt_trichotomy (a / F) (t / F) with q2 | q2 | q2
    · exact ⟨4, by omega, by omega, h2, by simp only [dfD, Int.reduceEq, if_true, if_false]; omega, by simp only [drD, Int.reduceEq, if_true, if_false]; omega⟩
    · exact ⟨0, by omega, by omega, h2, by simp only [dfD, Int.reduceEq, if_true, if_false]; omega, by simp only [drD, Int.reduceEq, if_true, if_false]; omega⟩
    · exact ⟨7, by omega, by omega, h2, by simp only [dfD, Int.reduceEq, if_true, if_false]; omega, by simp only [drD, Int.reduceEq, if_true, if_false]; omega⟩
    · exact ⟨1, by omega, by omega, h2, by simp only [dfD, Int.reduceEq, if_true, if_false]; omega, by simp only [drD, Int.reduceEq, if_true, if_false]; omega⟩
    · exfalso; omega
    · exact ⟨3, by omega, by omega, h2, by simp only [dfD, Int.reduceEq, if_true, if_false]; omega, by simp only [drD, Int.reduceEq, if_true, if_false]; omega⟩
    · exact ⟨5, by omega, by omega, h2, by simp only [dfD, Int.reduceEq, if_true, if_false]; omega, by simp only [drD, Int.reduceEq, if_true, if_false]; omega⟩
    · exact ⟨2, by omega, by omega, h2, by simp only [dfD, Int.reduceEq, if_true, if_false]; omega, by simp only [drD, Int.reduceEq, if_true, if_false]; omega⟩
    · exact ⟨6, by omega, by omega, h2, by simp only [dfD, Int.reduceEq, if_true, if_false]; omega, by simp only [drD, Int.reduceEq, if_true, if_false]; omega⟩
theorem mul_two {x y : Int} (hx : 0 ≤ x) (hy : 0 ≤ y) : x * y = 2 ↔ (x = 1 ∧ y = 2) ∨ (x = 2 ∧ y = 1) := by
  constructor
  · intro h
    have h1 : x ≠ 0 := fun e => by rw [e] at h; omega
    have h2 : y ≠ 0 := fun e => by rw [e] at h; omega
    have h3 : x ≤ 2 := by
      have := Int.mul_le_mul_of_nonneg_left (show 1 ≤ y by omega) hx
      omega
    rcases (show x = 1 ∨ x = 2 by omega) with rfl | rfl <;> omega
  · rintro (⟨rfl, rfl⟩ | ⟨rfl, rfl⟩) <;> rfl
theorem nstep_iff {F R a t : Int} (h4 : 4 ≤ F) (h8 : F ≤ 8) (r4 : 4 ≤ R) (r8 : R ≤ 8) (ht : 0 ≤ t) : nstepB F R a t = (decide (t < F * R) && decide (dist (a % F) (t % F) * dist (a / F) (t / F) = 2)) := by
  have d0 : ∀ x y : Int, 0 ≤ dist x y := fun x y => by unfold dist; omega
  apply Bool.eq_iff_iff.mpr
  unfold nstepB
  rw [anyL_iff]
  simp only [Bool.and_eq_true, decide_eq_true_eq, setB_iff h4 h8 r4 r8 ht, mul_two (d0 _ _) (d0 _ _)]
  constructor
  · rintro ⟨i, h0, h1, h2, h3, h5⟩
    refine ⟨h2, ?_⟩
    rw [h3, h5]
    unfold dist
    rcases dir_cases h0 (by omega) with rfl | rfl | rfl | rfl | rfl | rfl | rfl | rfl <;> simp only [lfD, lrD, Int.reduceEq, if_true, if_false] <;> omega
  · rintro ⟨h2, h3⟩
    unfold dist at h3
    rcases Int.lt_or_le (a % F) (t % F) with q1 | q1 <;> rcases Int.lt_or_le (a / F) (t / F) with q2 | q2 <;> rcases h3 with ⟨h3, h5⟩ | ⟨h3, h5⟩
    · exact ⟨0, by omega, by omega, h2, by simp only [lfD, Int.reduceEq, if_true, if_false]; omega, by simp only [lrD, Int.reduceEq, if_true, if_false]; omega⟩
    · exact ⟨1, by omega, by omega, h2, by simp only [lfD, Int.reduceEq, if_true, if_false]; omega, by simp only [lrD, Int.reduceEq, if_true, if_false]; omega⟩
    · exact ⟨3, by omega, by omega, h2, by simp only [lfD, Int.reduceEq, if_true, if_false]; omega, by simp only [lrD, Int.reduceEq, if_true, if_false]; omega⟩
    · exact ⟨2, by omega, by omega, h2, by simp only [lfD, Int.reduceEq, if_true, if_false]; omega, by simp only [lrD, Int.reduceEq, if_true, if_false]; omega⟩
    · exact ⟨7, by omega, by omega, h2, by simp only [lfD, Int.reduceEq, if_true, if_false]; omega, by simp only [lrD, Int.reduceEq, if_true, if_false]; omega⟩
    · exact ⟨6, by omega, by omega, h2, by simp only [lfD, Int.reduceEq, if_true, if_false]; omega, by simp only [lrD, Int.reduceEq, if_true, if_false]; omega⟩
    · exact ⟨4, by omega, by omega, h2, by simp only [lfD, Int.reduceEq, if_true, if_false]; omega, by simp only [lrD, Int.reduceEq, if_true, if_false]; omega⟩
    · exact ⟨5, by omega, by omega, h2, by simp only [lfD, Int.reduceEq, if_true, if_false]; omega, by simp only [lrD, Int.reduceEq, if_true, if_false]; omega⟩
theorem aim_iff {F R a u t : Int} (h4 : 4 ≤ F) (h8 : F ≤ 8) (r4 : 4 ≤ R) (r8 : R ≤ 8) (ht : 0 ≤ t) : aimB F R a u t = (decide (t < F * R) && (decide (dist (a % F) (t % F) = 1) && decide (t / F - a / F = u))) := by
  apply Bool.eq_iff_iff.mpr
  unfold aimB
  simp only [Bool.and_eq_true, Bool.or_eq_true, decide_eq_true_eq, setB_iff h4 h8 r4 r8 ht]
  unfold dist
  omega
theorem line_symm (F : Int) (st : Bool) (a b : Int) : lineB F st a b = lineB F st b a := by
  unfold lineB
  have e : ∀ x y : Int, dist x y = dist y x := fun x y => by unfold dist; omega
  rw [e (a % F), e (a / F)]
theorem clear_symm {F a b : Int} {occ : Int → Bool} {st : Bool} (h : lineB F st a b = true) : clearO F occ a b = clearO F occ b a := by
  obtain ⟨d, s, q1, q2, q3, q4, q5⟩ := line_dir h
  have hd : 0 ≤ d ∧ d < 8 := by revert q1 q2; cases st <;> simp <;> omega
  obtain ⟨e, he, f1, f2⟩ : ∃ e : Int, (0 ≤ e ∧ e < 8) ∧ dfD e = - dfD d ∧ drD e = - drD d := by
    rcases dir_cases hd.1 hd.2 with rfl | rfl | rfl | rfl | rfl | rfl | rfl | rfl
    · exact ⟨2, by omega, by decide, by decide⟩
    · exact ⟨3, by omega, by decide, by decide⟩
    · exact ⟨0, by omega, by decide, by decide⟩
    · exact ⟨1, by omega, by decide, by decide⟩
    · exact ⟨6, by omega, by decide, by decide⟩
    · exact ⟨7, by omega, by decide, by decide⟩
    · exact ⟨4, by omega, by decide, by decide⟩
    · exact ⟨5, by omega, by decide, by decide⟩
  have hb : b = a + s * (dfD d + F * drD d) := by
    have e1 := Int.emod_add_mul_ediv b F
    have e2 := Int.emod_add_mul_ediv a F
    rw [← e1, q4, q5, Int.mul_add, Int.mul_add]
    have : F * (s * drD d) = s * (F * drD d) := by rw [← Int.mul_assoc, Int.mul_comm F s, Int.mul_assoc]
    rw [this]
    omega
  apply Bool.eq_iff_iff.mpr
  rw [clearO_iff q3 hd q4 q5, clearO_iff (a := b) (b := a) (s := s) (d := e) q3 he (by rw [f1, q4, Int.mul_neg]; omega) (by rw [f2, q5, Int.mul_neg]; omega)]
  have hg : dfD e + F * drD e = - (dfD d + F * drD d) := by rw [f1, f2, Int.mul_neg]; omega
  rw [hg]
  have hx : ∀ s1 : Int, b + s1 * -(dfD d + F * drD d) = a + (s - s1) * (dfD d + F * drD d) := fun s1 => by
    rw [hb, Int.mul_neg, Int.sub_mul]; omega
  constructor
  · intro hh s1 k1 k2
    rw [hx]
    exact hh (s - s1) (by omega) (by omega)
  · intro hh s1 k1 k2
    have := hh (s - s1) (by omega) (by omega)
    rw [hx, show s - (s - s1) = s1 by omega] at this
    exact this
/-- whether a piece attacks a square, by what is occupied -/
def attO (F : Int) (v : Int → Int) (occ : Int → Bool) (a b : Int) : Bool :=
  let df := dist (a % F) (b % F)
  let dr := dist (a / F) (b / F)
  if kindO (v a) = 1 then df ≤ 1 && dr ≤ 1 && 0 < df + dr
  else if kindO (v a) = 2 then (df * dr = 0 || df = dr) && 0 < df + dr && clearO F occ a b
  else if kindO (v a) = 3 then df * dr = 0 && 0 < df + dr && clearO F occ a b
  else if kindO (v a) = 4 then df = dr && 0 < df && clearO F occ a b
  else if kindO (v a) = 5 then df * dr = 2
  else if kindO (v a) = 6 then df = 1 && b / F - a / F = (if v a = 6 then 1 else -1)
  else false
theorem attO_v (F : Int) (v : Int → Int) (a b : Int) : attO F v (fun k => !decide (v k = 0)) a b = attB F v a b := by
  unfold attO attB
  simp only [clearO_v]
/-- what the class finds of the pieces that attack a square -/
def foundB (F R : Int) (v : Int → Int) (occ : Int → Bool) (s sq t : Int) : Bool :=
  ((((kstepB F R sq t && decide (kindO (v t) = 1)) || (nstepB F R sq t && decide (kindO (v t) = 5))) || (aimB F R sq (if s = 1 then -1 else 1) t && decide (kindO (v t) = 6)) ||
    (slideB F R occ sq true t && (decide (kindO (v t) = 3) || decide (kindO (v t) = 2)))) || (slideB F R occ sq false t && (decide (kindO (v t) = 4) || decide (kindO (v t) = 2)))) && isOfB (v t) s
theorem found_iff {F R sq t s : Int} {v : Int → Int} {occ : Int → Bool} (h4 : 4 ≤ F) (h8 : F ≤ 8) (r4 : 4 ≤ R) (r8 : R ≤ 8) (hn : F * R ≤ 64) (hq : 0 ≤ sq ∧ sq < F * R) (ht : 0 ≤ t ∧ t < 64) (hs : s = 0 ∨ s = 1)
    (hp : 0 ≤ v t ∧ v t ≤ 12) (h0 : F * R ≤ t → v t = 0) : foundB F R v occ s sq t = (isOfB (v t) s && attO F v occ t sq) := by
  by_cases hb : t < F * R
  · unfold foundB
    rw [slide_iff h4 h8 r4 r8 hn hq ht, slide_iff h4 h8 r4 r8 hn hq ht, kstep_iff h4 h8 r4 r8 ht.1, nstep_iff h4 h8 r4 r8 ht.1, aim_iff h4 h8 r4 r8 ht.1, decide_eq_true hb]
    simp only [Bool.true_and]
    have L : ∀ st : Bool, (lineB F st sq t && clearO F occ sq t) = (lineB F st t sq && clearO F occ t sq) := fun st => by
      rw [line_symm F st t sq]
      cases hl : lineB F st sq t
      · rfl
      · rw [clear_symm hl]
    rw [L, L]
    have e : ∀ x y : Int, dist x y = dist y x := fun x y => by unfold dist; omega
    rw [e (sq % F) (t % F), e (sq / F) (t / F)]
    unfold attO lineB
    have hx := (show v t = 0 ∨ v t = 1 ∨ v t = 2 ∨ v t = 3 ∨ v t = 4 ∨ v t = 5 ∨ v t = 6 ∨ v t = 7 ∨ v t = 8 ∨ v t = 9 ∨ v t = 10 ∨ v t = 11 ∨ v t = 12 by omega)
    generalize clearO F occ t sq = cl
    have d0 : ∀ x y : Int, 0 ≤ dist x y := fun x y => by unfold dist; omega
    have hdf := d0 (t % F) (sq % F)
    have hdr := d0 (t / F) (sq / F)
    have hz : ∀ x y : Int, 0 ≤ x → 0 ≤ y → (decide (x = y) && decide (0 < x)) = (decide (x = y) && decide (0 < x + y)) := fun x y h1 h2 => by
      by_cases h : x = y
      · rw [decide_eq_true h, Bool.true_and, Bool.true_and]; exact decide_eq_decide.mpr (by omega)
      · rw [decide_eq_false h]; rfl
    rcases hs with rfl | rfl <;> rcases hx with h | h | h | h | h | h | h | h | h | h | h | h | h <;> rw [h] <;>
      simp only [kindO, isOfB, Int.reduceLE, Int.reduceSub, Int.reduceEq, Int.reduceLT, Int.reduceNeg, decide_true, decide_false, if_true, if_false, Bool.and_true, Bool.and_false, Bool.or_false, Bool.false_or, Bool.true_and, Bool.false_and, Bool.or_true, Bool.true_or, Bool.false_eq_true, reduceIte] <;>
      first
        | rfl
        | (congr 1; exact decide_eq_decide.mpr (by omega))
        | (rw [← Bool.and_or_distrib_right]; congr 1; rw [hz _ _ hdf hdr, ← Bool.and_or_distrib_right])
  · have hv := h0 (by omega)
    unfold foundB
    rw [hv]
    simp [isOfB]
