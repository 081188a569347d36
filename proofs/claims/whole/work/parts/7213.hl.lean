section
variable {F R : Int} {v : Int → Int}
theorem dist_dN (p q : Nat) : ((dN p q : Nat) : Int) = dist (p : Int) (q : Int) := by unfold dN dist; split <;> omega
theorem s8_xy {a : Int} (h4 : 4 ≤ F) (h8 : F ≤ 8) (r4 : 4 ≤ R) (r8 : R ≤ 8) (ha : 0 ≤ a ∧ a < F * R) :
    ((s8F F R (v 64) a % 8 : Nat) : Int) = a % F ∧ ((s8F F R (v 64) a / 8 : Nat) : Int) = toY R (v 64) (a / F) := by
  obtain ⟨hx, hy, -⟩ := fr_of h4 ha
  have hY := toY_r (its := v 64) r4 r8 hy
  have hX : 0 ≤ a % F ∧ a % F < 8 := by omega
  exact ⟨cd8_x hX hY, cd8_y hX hY⟩
theorem dist_toY (R its y1 y2 : Int) : dist (toY R its y1) (toY R its y2) = dist y1 y2 := by unfold dist toY; split <;> (try split) <;> (try split) <;> omega
/-- knights -/
theorem mob_knight {a : Int} (h4 : 4 ≤ F) (h8 : F ≤ 8) (r4 : 4 ≤ R) (r8 : R ≤ 8) (hs : v 64 = 0 ∨ v 64 = 1) (ha : 0 ≤ a ∧ a < F * R) (ho : isOfB (v a) (v 64) = true) (hk : kindO (v a) = 5) :
    sm (fun j => cstF F R v a j) (F * R).toNat ≤ mobF (typF F R v) (s8F F R (v 64) a) := by
  obtain ⟨t1, t2, t3⟩ := typ_s8 v h4 h8 r4 r8 ha
  rw [typA_own ho, hk] at t3
  simp only [Int.reduceEq, if_false, or_self] at t3
  unfold mobF
  rw [if_neg (by omega), if_pos t3]
  unfold knF
  refine sm_inj (bk8 F R (v 64)) fun j hj => ?_
  by_cases c : cstF F R v a j = 0
  · exact .inl c
  · have hb : 0 ≤ (j : Int) ∧ (j : Int) < F * R := by omega
    obtain ⟨u1, u2, u3⟩ := typ_s8 v h4 h8 r4 r8 hb
    have g := go_free (cst_go c)
    rw [if_neg (by omega), hk] at g
    have g2 := g.2
    simp only [Int.reduceEq, decide_false, Bool.false_and, Bool.or_false] at g2
    unfold attB at g2
    simp only [hk, Int.reduceEq, if_false, if_true, decide_eq_true_eq] at g2
    refine .inr ⟨_, u1, u2, ?_⟩
    have e1 : jmpF (s8F F R (v 64) a) (s8F F R (v 64) j) = true := by
      unfold jmpF
      obtain ⟨p1, p2⟩ := s8_xy (v := v) h4 h8 r4 r8 ha
      obtain ⟨q1, q2⟩ := s8_xy (v := v) h4 h8 r4 r8 hb
      have d1 := dist_dN (s8F F R (v 64) a % 8) (s8F F R (v 64) j % 8)
      have d2 := dist_dN (s8F F R (v 64) a / 8) (s8F F R (v 64) j / 8)
      rw [p1, q1] at d1
      rw [p2, q2, dist_toY] at d2
      have : ((Nat.mul (dN (s8F F R (v 64) a % 8) (s8F F R (v 64) j % 8)) (dN (s8F F R (v 64) a / 8) (s8F F R (v 64) j / 8)) : Nat) : Int) = 2 := by
        show ((dN _ _ * dN _ _ : Nat) : Int) = 2
        rw [Int.natCast_mul, d1, d2]; exact g2
      have w : Nat.mul (dN (s8F F R (v 64) a % 8) (s8F F R (v 64) j % 8)) (dN (s8F F R (v 64) a / 8) (s8F F R (v 64) j / 8)) = 2 := by omega
      rw [w]; rfl
    have e2 : Nat.ble (typF F R v (s8F F R (v 64) j)) 1 = true := Nat.ble_eq_true_of_le (by rw [u3]; exact typA_free g.1)
    rw [e1, e2]
    exact cst_le1 (by omega)
/-- sliders -/
theorem mob_slide {a : Int} (h4 : 4 ≤ F) (h8 : F ≤ 8) (r4 : 4 ≤ R) (r8 : R ≤ 8) (hs : v 64 = 0 ∨ v 64 = 1) (ha : 0 ≤ a ∧ a < F * R) (ho : isOfB (v a) (v 64) = true) (hk : kindO (v a) = 2 ∨ kindO (v a) = 3 ∨ kindO (v a) = 4) :
    sm (fun j => cstF F R v a j) (F * R).toNat ≤ mobF (typF F R v) (s8F F R (v 64) a) := by
  obtain ⟨t1, t2, t3⟩ := typ_s8 v h4 h8 r4 r8 ha
  rw [typA_own ho, if_pos hk] at t3
  unfold mobF
  rw [if_pos t3, ← slL_len, ← List.length_map (bk8 F R (v 64))]
  apply sm_list
  intro j hj
  by_cases c : cstF F R v a j = 0
  · exact .inl c
  · have hb : 0 ≤ (j : Int) ∧ (j : Int) < F * R := by omega
    have g := go_free (cst_go c)
    rw [if_neg (by omega), decide_eq_false (show ¬ kindO (v a) = 1 by omega), Bool.false_and, Bool.or_false] at g
    exact .inr ⟨slide_in h4 h8 r4 r8 hs ha hb hk g.2 g.1, cst_le1 (by omega)⟩
/-- kings -/
theorem mob_king {a : Int} (h4 : 4 ≤ F) (h8 : F ≤ 8) (ha : 0 ≤ a ∧ a < F * R) (hk : kindO (v a) = 1) :
    sm (fun j => cstF F R v a j) (F * R).toNat ≤ 10 := by
  refine sm_list (L := [a + 1, a - 1, a + F, a - F, a + F + 1, a + F - 1, a - F + 1, a - F - 1, homeB F R (v 64) 6, homeB F R (v 64) 2]) fun j hj => ?_
  by_cases c : cstF F R v a j = 0
  · exact .inl c
  · refine .inr ⟨?_, cst_le1 (by omega)⟩
    have hb : 0 ≤ (j : Int) ∧ (j : Int) < F * R := by omega
    have hg := cst_go c
    have g := (go_free hg).2
    rw [if_neg (by omega), Bool.or_eq_true] at g
    have hne : a ≠ (j : Int) := by
      unfold goB at hg
      simp only [Bool.and_eq_true, Bool.not_eq_true', decide_eq_false_iff_not] at hg
      exact hg.1.1
    simp only [List.mem_cons, List.not_mem_nil, or_false]
    rcases g with g | g
    · unfold attB at g
      simp only [hk, if_true, Bool.and_eq_true, decide_eq_true_eq] at g
      obtain ⟨⟨g1, g2⟩, -⟩ := g
      have e1 := (fr_of h4 ha).2.2
      have e2 := (fr_of h4 hb).2.2
      have k1 : (j : Int) % F = a % F - 1 ∨ (j : Int) % F = a % F ∨ (j : Int) % F = a % F + 1 := by unfold dist at g1; split at g1 <;> omega
      have k2 : (j : Int) / F = a / F - 1 ∨ (j : Int) / F = a / F ∨ (j : Int) / F = a / F + 1 := by unfold dist at g2; split at g2 <;> omega
      generalize a % F = x at *
      generalize a / F = y at *
      generalize (j : Int) % F = x2 at *
      generalize (j : Int) / F = y2 at *
      have m1 : F * (y - 1) = F * y - F := by rw [Int.mul_sub, Int.mul_one]
      have m2 : F * (y + 1) = F * y + F := by rw [Int.mul_add, Int.mul_one]
      rcases k1 with rfl | rfl | rfl <;> rcases k2 with rfl | rfl | rfl <;> (try rw [m1] at e2) <;> (try rw [m2] at e2) <;> omega
    · rw [Bool.and_eq_true] at g
      have g := g.2
      unfold castB at g
      simp only [Bool.and_eq_true, Bool.or_eq_true, decide_eq_true_eq] at g
      rcases g.1.2 with w | w
      · simp [w]
      · simp [w]
end
