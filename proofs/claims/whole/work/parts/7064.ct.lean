/-! PHASE 3, the class's targets are the legal moves: pure -/
theorem att_line {F : Int} {v : Int → Int} {occ : Int → Bool} {a b : Int} : attO F v occ a b =
    (if kindO (v a) = 1 then decide (dist (a % F) (b % F) ≤ 1) && decide (dist (a / F) (b / F) ≤ 1) && decide (0 < dist (a % F) (b % F) + dist (a / F) (b / F))
     else if kindO (v a) = 2 then (lineB F true a b || lineB F false a b) && clearO F occ a b
     else if kindO (v a) = 3 then lineB F true a b && clearO F occ a b
     else if kindO (v a) = 4 then lineB F false a b && clearO F occ a b
     else if kindO (v a) = 5 then decide (dist (a % F) (b % F) * dist (a / F) (b / F) = 2)
     else if kindO (v a) = 6 then decide (dist (a % F) (b % F) = 1) && decide (b / F - a / F = (if v a = 6 then 1 else -1)) else false) := by
  have d0 : ∀ x y : Int, 0 ≤ dist x y := fun x y => by unfold dist; omega
  have h1 := d0 (a % F) (b % F)
  have h2 := d0 (a / F) (b / F)
  unfold attO lineB
  dsimp only
  split
  · rfl
  · split
    · congr 1
      simp only [if_true, Bool.false_eq_true, if_false]
      rw [Bool.and_or_distrib_right]
      congr 1
      by_cases h : dist (a % F) (b % F) = dist (a / F) (b / F)
      · rw [decide_eq_true h, Bool.true_and, Bool.true_and]; exact decide_eq_decide.mpr (by omega)
      · rw [decide_eq_false h]; rfl
    · rfl
theorem line_on {F R a b : Int} {st : Bool} (h : lineB F st a b = true) : ∃ d s : Int, (0 ≤ d ∧ d < 8) ∧ (if st then 0 else 4) ≤ d ∧ d < (if st then 0 else 4) + 4 ∧ 1 ≤ s ∧ b % F = a % F + s * dfD d ∧ b / F = a / F + s * drD d := by
  obtain ⟨d, s, q1, q2, q3, q4, q5⟩ := line_dir h
  exact ⟨d, s, by revert q1 q2; cases st <;> simp <;> omega, q1, q2, q3, q4, q5⟩
theorem s_le7 {F R a t d s : Int} (h4 : 4 ≤ F) (h8 : F ≤ 8) (ha : 0 ≤ a ∧ a < 64) (ht : 0 ≤ t ∧ t < 64) (hn : F * R ≤ 64) (r8 : R ≤ 8) (ha2 : a < F * R) (ht2 : t < F * R) (hd : 0 ≤ d ∧ d < 8) (hs : 1 ≤ s) (q4 : t % F = a % F + s * dfD d) (q5 : t / F = a / F + s * drD d) : s ≤ 7 := by
  have e1 := Int.emod_lt_of_pos t (show 0 < F by omega)
  have e2 := Int.emod_nonneg a (show F ≠ 0 by omega)
  have e3 := Int.emod_lt_of_pos a (show 0 < F by omega)
  have e4 := Int.emod_nonneg t (show F ≠ 0 by omega)
  have e5 : 0 ≤ t / F ∧ t / F < 8 ∧ 0 ≤ a / F ∧ a / F < 8 := by rcases F_cases h4 h8 with rfl | rfl | rfl | rfl | rfl <;> omega
  rcases dir_cases hd.1 hd.2 with rfl | rfl | rfl | rfl | rfl | rfl | rfl | rfl <;> simp only [dfD, drD, Int.reduceEq, if_true, if_false] at q4 q5 <;> omega
theorem clear_cong {F R a b : Int} {o1 o2 : Int → Bool} {st : Bool} (h4 : 4 ≤ F) (h8 : F ≤ 8) (r4 : 4 ≤ R) (r8 : R ≤ 8) (hn : F * R ≤ 64) (ha : 0 ≤ a ∧ a < F * R) (hb : 0 ≤ b ∧ b < F * R) (hl : lineB F st a b = true)
    (h : ∀ j : Int, 0 ≤ j → j < 64 → o1 j = o2 j) : clearO F o1 a b = clearO F o2 a b := by
  obtain ⟨d, s, hd, -, -, q3, q4, q5⟩ := line_on (R := R) hl
  have s7 := s_le7 h4 h8 ⟨ha.1, by omega⟩ ⟨hb.1, by omega⟩ hn r8 ha.2 hb.2 hd q3 q4 q5
  apply Bool.eq_iff_iff.mpr
  rw [clearO_iff q3 hd q4 q5, clearO_iff q3 hd q4 q5]
  have e : ∀ s1 : Int, 1 ≤ s1 → s1 < s → o1 (a + s1 * (dfD d + F * drD d)) = o2 (a + s1 * (dfD d + F * drD d)) := fun s1 k1 k2 => by
    obtain ⟨m1, m2⟩ := step_mid h4 h8 r4 r8 ha hd hb s7 k1 (by omega) q4 q5
    have := ((ray_iff h4 h8 r4 r8 m1).mp m2).1
    exact h _ m1 (by omega)
  constructor
  · intro hh s1 k1 k2; rw [← e s1 k1 k2]; exact hh s1 k1 k2
  · intro hh s1 k1 k2; rw [e s1 k1 k2]; exact hh s1 k1 k2
theorem att_cong {F R a b : Int} {v w : Int → Int} {o1 o2 : Int → Bool} (h4 : 4 ≤ F) (h8 : F ≤ 8) (r4 : 4 ≤ R) (r8 : R ≤ 8) (hn : F * R ≤ 64) (ha : 0 ≤ a ∧ a < F * R) (hb : 0 ≤ b ∧ b < F * R) (hv : v a = w a)
    (h : ∀ j : Int, 0 ≤ j → j < 64 → o1 j = o2 j) : attO F v o1 a b = attO F w o2 a b := by
  rw [att_line, att_line, hv]
  have e : ∀ st : Bool, (lineB F st a b && clearO F o1 a b) = (lineB F st a b && clearO F o2 a b) := fun st => by
    cases hl : lineB F st a b
    · rfl
    · rw [clear_cong h4 h8 r4 r8 hn ha hb hl h]
  rw [Bool.and_or_distrib_right, Bool.and_or_distrib_right, e true, e false]
theorem att_ne {F : Int} {v : Int → Int} {a b : Int} (h : attB F v a b = true) : a ≠ b := by
  intro e
  subst e
  rw [← attO_v, att_line] at h
  have hd : ∀ x : Int, dist x x = 0 := fun x => by unfold dist; omega
  have l : ∀ st, lineB F st a a = false := fun st => by unfold lineB; rw [hd, hd]; cases st <;> rfl
  rw [l, l, hd, hd] at h
  simp at h
/-- the aims of a piece are its moves but for castling -/
theorem aims_iff {F R a b : Int} {v : Int → Int} (h4 : 4 ≤ F) (h8 : F ≤ 8) (r4 : 4 ≤ R) (r8 : R ≤ 8) (hn : F * R ≤ 64) (hv : okV F R v) (he : epS F R v) (ha : 0 ≤ a ∧ a < F * R) (hb : 0 ≤ b ∧ b < F * R) (ho : isOfB (v a) (v 64) = true) :
    aimsB F R v a b = (if kindO (v a) = 6 then goB F R v a b else attB F v a b && !isOfB (v b) (v 64)) := by
  have hs := hv.s
  have hp := hv.p a ha.1 (by omega)
  have hpb := hv.p b hb.1 (by omega)
  have hu := upB_ne (v 64)
  unfold aimsB
  by_cases hk : kindO (v a) = 6
  · rw [if_pos hk, if_pos hk]
    obtain ⟨q1, q2⟩ := pawn_up hp hs ho hk
    have hatt : attB F v a b = (decide (dist (a % F) (b % F) = 1) && decide (b / F - a / F = upB (v 64))) := by
      rw [← attO_v, att_line, hk, q2]
      simp only [Int.reduceEq, if_false, if_true]
    have opp : (!isOfB (v b) (v 64) && !decide (v b = 0)) = isOfB (v b) (1 - v 64) := by
      rcases (show v 64 = 0 ∨ v 64 = 1 by omega) with e | e <;> rw [e] <;> rcases kind_cases hpb with q | q | q | q | q | q | q | q | q | q | q | q | q <;> rw [q] <;> rfl
    unfold pawnAB goB
    rw [if_pos hk]
    unfold goPawnB
    rw [aim_iff h4 h8 r4 r8 hb.1, decide_eq_true hb.2, Bool.true_and]
    by_cases hat : attB F v a b = true
    · have hat2 := hat
      rw [hatt] at hat2
      rw [hat, if_pos rfl, hat2, Bool.true_and]
      simp only [Bool.and_eq_true, decide_eq_true_eq] at hat2
      have hab := att_ne hat
      have f1 : decide (b = a + upB (v 64) * F) = false := decide_eq_false fun e => by
        have := hat2.1; unfold dist at this
        rcases hu with hu | hu <;> rw [hu] at e <;> rcases F_cases h4 h8 with rfl | rfl | rfl | rfl | rfl <;> omega
      have f2 : decide (b = a + upB (v 64) * F + upB (v 64) * F) = false := decide_eq_false fun e => by
        have := hat2.1; unfold dist at this
        rcases hu with hu | hu <;> rw [hu] at e <;> rcases F_cases h4 h8 with rfl | rfl | rfl | rfl | rfl <;> omega
      rw [f1, f2, decide_eq_false hab]
      simp only [Bool.and_false, Bool.or_false, Bool.false_or, Bool.not_false, Bool.true_and]
      rw [← opp]
      by_cases e66 : b = v 66
      · rw [decide_eq_true e66, decide_eq_false (show ¬ v 66 = -1 by omega)]
        rcases he with he | he
        · omega
        · rw [← e66] at he
          rw [he.2.1]
          simp [isOfB]
      · rw [decide_eq_false e66]; simp
    · have hat0 : attB F v a b = false := by simpa using hat
      have hat2 := hat0
      rw [hatt] at hat2
      rw [hat0, if_neg (show ¬ (false = true) by decide), hat2, Bool.false_and, Bool.or_false]
      by_cases hz : v b = 0
      · have nob : isOfB (v b) (v 64) = false := by rw [hz]; rfl
        rw [nob, decide_eq_true hz]
        simp only [Bool.not_false, Bool.and_true, Bool.true_and]
        apply Bool.eq_iff_iff.mpr
        unfold inB occB firstB
        simp only [Bool.and_eq_true, Bool.or_eq_true, Bool.not_eq_true', decide_eq_true_eq, decide_eq_false_iff_not, Bool.not_eq_false']
        rcases (show v 64 = 0 ∨ v 64 = 1 by omega) with e | e
        · have hu0 : upB (v 64) = -1 := by rw [e]; rfl
          rw [hu0, e]
          simp only [Int.reduceEq, if_false]
          constructor
          · rintro ⟨⟨g1, g2⟩, g3 | ⟨⟨⟨g3, g5⟩, g6⟩, g7⟩⟩
            · rcases F_cases h4 h8 with rfl | rfl | rfl | rfl | rfl <;> omega
            · have : v (a + -1 * F) = 0 := g2
              rcases F_cases h4 h8 with rfl | rfl | rfl | rfl | rfl <;> omega
          · rintro ⟨g1, g2, g3⟩
            rcases g3 with g3 | ⟨⟨⟨g3, g5⟩, g6⟩, g7⟩
            · have eb : b = a + -1 * F := by rcases F_cases h4 h8 with rfl | rfl | rfl | rfl | rfl <;> omega
              rw [← eb]
              exact ⟨⟨by omega, hz⟩, Or.inl rfl⟩
            · have eb : b = a + -1 * F + -1 * F := by rcases F_cases h4 h8 with rfl | rfl | rfl | rfl | rfl <;> omega
              rw [← eb]
              exact ⟨⟨by rcases F_cases h4 h8 with rfl | rfl | rfl | rfl | rfl <;> omega, g7⟩, Or.inr ⟨⟨⟨by omega, g5⟩, hz⟩, rfl⟩⟩
        · have hu0 : upB (v 64) = 1 := by rw [e]; rfl
          rw [hu0, e]
          simp only [if_true]
          constructor
          · rintro ⟨⟨g1, g2⟩, g3 | ⟨⟨⟨g3, g5⟩, g6⟩, g7⟩⟩
            · rcases F_cases h4 h8 with rfl | rfl | rfl | rfl | rfl <;> omega
            · have : v (a + 1 * F) = 0 := g2
              rcases F_cases h4 h8 with rfl | rfl | rfl | rfl | rfl <;> omega
          · rintro ⟨g1, g2, g3⟩
            rcases g3 with g3 | ⟨⟨⟨g3, g5⟩, g6⟩, g7⟩
            · have eb : b = a + 1 * F := by rcases F_cases h4 h8 with rfl | rfl | rfl | rfl | rfl <;> omega
              rw [← eb]
              exact ⟨⟨by omega, hz⟩, Or.inl rfl⟩
            · have eb : b = a + 1 * F + 1 * F := by rcases F_cases h4 h8 with rfl | rfl | rfl | rfl | rfl <;> omega
              rw [← eb]
              exact ⟨⟨by rcases F_cases h4 h8 with rfl | rfl | rfl | rfl | rfl <;> omega, g7⟩, Or.inr ⟨⟨⟨by omega, g5⟩, hz⟩, rfl⟩⟩
      · rw [decide_eq_false hz]
        simp only [Bool.and_false, Bool.false_and]
        cases hq : (inB (a + upB (v 64) * F) 0 (F * R - 1) && !occB v (a + upB (v 64) * F) && (decide (b = a + upB (v 64) * F) || (decide (a / F = if v 64 = 1 then 1 else R - 2) && decide (6 ≤ R) && !occB v (a + upB (v 64) * F + upB (v 64) * F) && decide (b = a + upB (v 64) * F + upB (v 64) * F))))
        · rfl
        · exfalso
          simp only [Bool.and_eq_true, Bool.or_eq_true, decide_eq_true_eq] at hq
          obtain ⟨⟨g1, g2⟩, g3 | ⟨⟨⟨g3, g5⟩, g6⟩, g7⟩⟩ := hq
          · rw [← g3] at g2; unfold occB at g2; rw [decide_eq_false hz] at g2; exact absurd g2 (by decide)
          · rw [← g7] at g6; unfold occB at g6; rw [decide_eq_false hz] at g6; exact absurd g6 (by decide)
  · rw [if_neg hk, if_neg hk]
    congr 1
    have hb64 : 0 ≤ b ∧ b < 64 := ⟨hb.1, by omega⟩
    rw [← attO_v, att_line]
    have hocc : (fun k => !decide (v k = 0)) = occB v := rfl
    rw [hocc]
    have hkr := kindO_r hp
    have h0 : kindO (v a) ≠ 0 := by
      intro e
      have : v a = 0 := by unfold kindO at e; split at e <;> omega
      rw [this] at ho; simp [isOfB] at ho
    have sl : ∀ st, slideB F R (occB v) a st b = (lineB F st a b && clearO F (occB v) a b) := fun st => by
      rw [slide_iff h4 h8 r4 r8 hn ha hb64, decide_eq_true hb.2, Bool.true_and]
    unfold reachC
    rcases (show kindO (v a) = 1 ∨ kindO (v a) = 2 ∨ kindO (v a) = 3 ∨ kindO (v a) = 4 ∨ kindO (v a) = 5 by omega) with e | e | e | e | e <;> rw [e] <;> simp only [Int.reduceEq, if_true, if_false]
    · rw [kstep_iff h4 h8 r4 r8 hb.1, decide_eq_true hb.2, Bool.true_and]
    · rw [sl, sl, ← Bool.and_or_distrib_right]
    · rw [sl]
    · rw [sl]
    · rw [nstep_iff h4 h8 r4 r8 hb.1, decide_eq_true hb.2, Bool.true_and]
