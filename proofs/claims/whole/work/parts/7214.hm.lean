section
variable {F R : Int} {v : Int → Int}
theorem own_pawn {a : Int} (ho : isOfB (v a) (v 64) = true) (hk : kindO (v a) = 6) : v a = pieceOfB 6 (v 64) ∧ (if v a = 6 then (1 : Int) else -1) = upB (v 64) := by
  unfold isOfB kindO pieceOfB upB at *
  split at ho
  · cases ho
  · split at ho
    · simp at ho; split at hk <;> omega
    · simp at ho; split at hk <;> omega
theorem toY_up {y y2 : Int} (hs : v 64 = 0 ∨ v 64 = 1) (k : Int) (h : y2 = y + k * upB (v 64)) : toY R (v 64) y2 = toY R (v 64) y + k := by
  unfold toY; unfold upB at h
  rcases hs with z | z <;> simp only [z] at h ⊢ <;> simp at h ⊢ <;> omega
theorem bec_y {a b : Int} (hs : v 64 = 0 ∨ v 64 = 1) : becB F R v a b = true → toY R (v 64) (b / F) = 7 := by
  intro h
  unfold becB firstB at h
  simp only [Bool.and_eq_true, decide_eq_true_eq] at h
  unfold toY
  rcases hs with z | z <;> simp only [z] at h ⊢ <;> simp at h ⊢ <;> omega
/-- pawns -/
theorem mob_pawn {a : Int} (h4 : 4 ≤ F) (h8 : F ≤ 8) (r4 : 4 ≤ R) (r8 : R ≤ 8) (hs : v 64 = 0 ∨ v 64 = 1) (hpf : allL (pawnFree F R v) 0 F.toNat = true) (he : epS F R v) (ha : 0 ≤ a ∧ a < F * R) (ho : isOfB (v a) (v 64) = true) (hk : kindO (v a) = 6) :
    sm (fun j => cstF F R v a j) (F * R).toNat ≤ mobF (typF F R v) (s8F F R (v 64) a) := by
  obtain ⟨t1, t2, t3⟩ := typ_s8 v h4 h8 r4 r8 ha
  rw [typA_own ho, hk] at t3
  simp only [Int.reduceEq, if_false, or_self, if_true] at t3
  have row := typF_4 h4 r4 r8 hs hpf t1 t3
  obtain ⟨ax, ay, ae⟩ := fr_of h4 ha
  obtain ⟨sx, sy⟩ := s8_xy (v := v) h4 h8 r4 r8 ha
  obtain ⟨op1, op2⟩ := own_pawn ho hk
  have noep : ∀ b, b = a + upB (v 64) * F → b ≠ v 66 := by
    intro b e z
    rcases he with q | ⟨⟨q0, -⟩, -, q⟩
    · rw [q] at z
      rcases hs with y | y <;> unfold upB at e <;> simp only [y] at e <;> simp at e
      · obtain ⟨-, hy, -⟩ := fr_of h4 ha
        have : toY R (v 64) (a / F) ≤ 6 := by omega
        unfold toY at this; rw [if_neg (by omega)] at this
        have : F * 1 ≤ F * (a / F) := Int.mul_le_mul_of_nonneg_left (by omega) (by omega)
        omega
      · omega
    · have : v 66 - upB (v 64) * F = a := by omega
      rw [this, op1] at q
      unfold pieceOfB at q
      rcases hs with y | y <;> simp [y] at q
  unfold mobF
  rw [if_neg (by omega), if_neg (by omega), if_pos t3]
  unfold pwF
  -- the three ways
  have hsplit : ∀ j : Nat, j < (F * R).toNat → cstF F R v a j ≤ (if attB F v a j = true then cstF F R v a j else 0) + ((if ((j : Int) / F - a / F) * upB (v 64) = 1 ∧ attB F v a j = false then cstF F R v a j else 0) + (if ((j : Int) / F - a / F) * upB (v 64) ≠ 1 ∧ attB F v a j = false then cstF F R v a j else 0)) := by
    intro j _
    by_cases c1 : attB F v a j = true
    · rw [if_pos c1]; omega
    · by_cases c2 : ((j : Int) / F - a / F) * upB (v 64) = 1
      · rw [if_neg c1, if_pos ⟨c2, by simpa using c1⟩]; omega
      · rw [if_neg c1, if_pos (c := _ ∧ _) ⟨c2, by simpa using c1⟩]; omega
  refine Nat.le_trans (sm_le hsplit) ?_
  rw [sm_add, sm_add]
  have w0 : sm (fun t => if pahF (s8F F R (v 64) a) t && Nat.beq (typF F R v t) 0 then vAF (s8F F R (v 64) a) else 0) 64 =
      sm (fun t => if pahF (s8F F R (v 64) a) t && Nat.beq (typF F R v t) 0 then vDF (s8F F R (v 64) a) else 0) 64 + sm (fun t => if pahF (s8F F R (v 64) a) t && Nat.beq (typF F R v t) 0 then cond (Nat.beq (s8F F R (v 64) a / 8) 6) 0 1 else 0) 64 := by
    rw [← sm_add]
    congr 1
    funext t
    unfold vAF vDF
    cases Nat.beq (s8F F R (v 64) a / 8) 6 <;> split <;> rfl
  rw [w0]
  have cle : ∀ b : Int, toY R (v 64) (b / F) = toY R (v 64) (a / F) + 1 → cstF F R v a b ≤ vDF (s8F F R (v 64) a) := by
    intro b hb
    refine Nat.le_trans cst_le ?_
    unfold vDF
    by_cases c : becB F R v a b = true
    · have := bec_y hs c
      have : s8F F R (v 64) a / 8 = 6 := by omega
      rw [this, if_pos c]; exact Nat.le_refl _
    · rw [if_neg c]
      cases Nat.beq (s8F F R (v 64) a / 8) 6 <;> simp
  have mid : toY R (v 64) (a / F) + 1 < 8 := by omega
  have upr : 0 ≤ a / F + upB (v 64) ∧ a / F + upB (v 64) < R ∧ toY R (v 64) (a / F + upB (v 64)) = toY R (v 64) (a / F) + 1 := by
    have hY1 : 1 ≤ toY R (v 64) (a / F) ∧ toY R (v 64) (a / F) ≤ 6 := by omega
    refine ⟨?_, ?_, toY_up hs 1 (by omega)⟩ <;> unfold toY at hY1 <;> unfold upB <;> rcases hs with z | z <;> simp only [z] at hY1 ⊢ <;> simp at hY1 ⊢ <;> omega
  have sqm : F * (a / F + upB (v 64)) + a % F = a + upB (v 64) * F := by rw [Int.mul_add, Int.mul_comm F (upB (v 64))]; omega
  have cm := typ_cell (v := v) h4 h8 r4 r8 ax ⟨upr.1, upr.2.1⟩
  rw [sqm] at cm
  have pm : pahF (s8F F R (v 64) a) (cd8 (a % F) (toY R (v 64) (a / F + upB (v 64)))) = true := by
    unfold pahF
    have e : cd8 (a % F) (toY R (v 64) (a / F + upB (v 64))) = s8F F R (v 64) a + 8 := by
      rw [upr.2.2]
      unfold s8F cd8
      have := toY_r (its := v 64) r4 r8 ay
      omega
    rw [e, Nat.beq_refl, Nat.ble_eq_true_of_le row.1, Nat.ble_eq_true_of_le row.2]; rfl
  have s1 : sm (fun j : Nat => if attB F v a j = true then cstF F R v a j else 0) (F * R).toNat ≤ sm (fun t => if pdiF (s8F F R (v 64) a) t && Nat.beq (typF F R v t) 1 then vDF (s8F F R (v 64) a) else 0) 64 := by
    refine sm_inj (bk8 F R (v 64)) fun j hj => ?_
    by_cases c1 : attB F v a j = true
    · rw [if_pos c1]
      by_cases c : cstF F R v a j = 0
      · exact .inl c
      · have hb : 0 ≤ (j : Int) ∧ (j : Int) < F * R := by omega
        obtain ⟨u1, u2, u3⟩ := typ_s8 v h4 h8 r4 r8 hb
        obtain ⟨qx, qy⟩ := s8_xy (v := v) h4 h8 r4 r8 hb
        have g := go_free (cst_go c)
        rw [if_pos hk] at g
        have g2 := g.2
        unfold goPawnB at g2
        rw [if_pos c1] at g2
        unfold attB at c1
        simp only [hk, Int.reduceEq, if_false, if_true, Bool.and_eq_true, decide_eq_true_eq] at c1
        rw [op2] at c1
        have hy : toY R (v 64) ((j : Int) / F) = toY R (v 64) (a / F) + 1 := toY_up hs 1 (by omega)
        refine .inr ⟨_, u1, u2, ?_⟩
        have e1 : pdiF (s8F F R (v 64) a) (s8F F R (v 64) j) = true := by
          unfold pdiF
          have d1 := dist_dN (s8F F R (v 64) a % 8) (s8F F R (v 64) j % 8)
          rw [sx, qx, c1.1] at d1
          have d2 : dN (s8F F R (v 64) a % 8) (s8F F R (v 64) j % 8) = 1 := by omega
          have d3 : s8F F R (v 64) j / 8 = s8F F R (v 64) a / 8 + 1 := by omega
          rw [d2, d3, Nat.beq_refl, Nat.ble_eq_true_of_le row.1, Nat.ble_eq_true_of_le row.2]; rfl
        have e2 : typF F R v (s8F F R (v 64) j) = 1 := by
          rw [u3]
          unfold typA
          by_cases z : v j = 0
          · rw [if_pos z]
            simp [z] at g2
            rw [if_pos g2]
          · rw [if_neg z, if_neg (by rw [g.1]; simp)]
        rw [e1, e2]
        exact cle _ hy
    · rw [if_neg c1]; exact .inl rfl
  have straight : ∀ j : Nat, j < (F * R).toNat → cstF F R v a j ≠ 0 → attB F v a j = false → a % F = (j : Int) % F ∧ v j = 0 ∧ (((j : Int) / F - a / F) * upB (v 64) = 1 ∨ (((j : Int) / F - a / F) * upB (v 64) = 2 ∧ 6 ≤ R ∧ a / F = firstB R (v 64) + upB (v 64) ∧ v (a + upB (v 64) * F) = 0)) := by
    intro j hj c ca
    have g := go_free (cst_go c)
    rw [if_pos hk] at g
    have g2 := g.2
    unfold goPawnB at g2
    rw [if_neg (by rw [ca]; simp)] at g2
    simp only [Bool.and_eq_true, Bool.or_eq_true, decide_eq_true_eq] at g2
    obtain ⟨⟨g3, g4⟩, g5⟩ := g2
    refine ⟨g3, g4, ?_⟩
    rcases g5 with w | ⟨⟨⟨w1, w2⟩, w3⟩, w4⟩
    · exact .inl w
    · exact .inr ⟨w1, w2, w3, w4⟩
  have upm : ∀ y k : Int, (y - a / F) * upB (v 64) = k → y = a / F + k * upB (v 64) := by
    intro y k e
    unfold upB at e ⊢
    rcases hs with z | z <;> simp only [z] at e ⊢ <;> simp at e ⊢ <;> omega
  have s2 : sm (fun j : Nat => if ((j : Int) / F - a / F) * upB (v 64) = 1 ∧ attB F v a j = false then cstF F R v a j else 0) (F * R).toNat ≤ sm (fun t => if pahF (s8F F R (v 64) a) t && Nat.beq (typF F R v t) 0 then vDF (s8F F R (v 64) a) else 0) 64 := by
    refine sm_inj (bk8 F R (v 64)) fun j hj => ?_
    by_cases c1 : ((j : Int) / F - a / F) * upB (v 64) = 1 ∧ attB F v a j = false
    · rw [if_pos c1]
      by_cases c : cstF F R v a j = 0
      · exact .inl c
      · have hb : 0 ≤ (j : Int) ∧ (j : Int) < F * R := by omega
        obtain ⟨q1, q2, q3⟩ := straight j hj c c1.2
        have ey := upm _ _ c1.1
        rw [Int.one_mul] at ey
        have ej : (j : Int) = a + upB (v 64) * F := by rw [← sqm, ← ey, q1]; exact ((fr_of h4 hb).2.2).symm
        refine .inr ⟨cd8 (a % F) (toY R (v 64) (a / F + upB (v 64))), cd8_l ⟨ax.1, by omega⟩ (toY_r r4 r8 ⟨upr.1, upr.2.1⟩), by rw [cm.1, ej], ?_⟩
        have e2 : typF F R v (cd8 (a % F) (toY R (v 64) (a / F + upB (v 64)))) = 0 := by
          rw [cm.2]
          unfold typA
          rw [← ej, if_pos q2, if_neg (by rw [ej]; exact noep _ rfl)]
        rw [pm, e2]
        exact cle _ (by rw [ey, upr.2.2])
    · rw [if_neg c1]; exact .inl rfl
  have s3 : sm (fun j : Nat => if ((j : Int) / F - a / F) * upB (v 64) ≠ 1 ∧ attB F v a j = false then cstF F R v a j else 0) (F * R).toNat ≤ sm (fun t => if pahF (s8F F R (v 64) a) t && Nat.beq (typF F R v t) 0 then cond (Nat.beq (s8F F R (v 64) a / 8) 6) 0 1 else 0) 64 := by
    refine sm_inj (fun t => bk8 F R (v 64) t + upB (v 64) * F) fun j hj => ?_
    by_cases c1 : ((j : Int) / F - a / F) * upB (v 64) ≠ 1 ∧ attB F v a j = false
    · rw [if_pos c1]
      by_cases c : cstF F R v a j = 0
      · exact .inl c
      · have hb : 0 ≤ (j : Int) ∧ (j : Int) < F * R := by omega
        obtain ⟨q1, q2, q3⟩ := straight j hj c c1.2
        rcases q3 with q3 | ⟨q3, q4, q5, q6⟩
        · exact absurd q3 c1.1
        · have ey := upm _ _ q3
          have ej : (j : Int) = a + upB (v 64) * F + upB (v 64) * F := by
            have := (fr_of h4 hb).2.2
            rw [← q1, ey, Int.mul_add] at this
            rw [← this, Int.mul_comm (upB (v 64)) F, Int.mul_left_comm]
            omega
          refine .inr ⟨cd8 (a % F) (toY R (v 64) (a / F + upB (v 64))), cd8_l ⟨ax.1, by omega⟩ (toY_r r4 r8 ⟨upr.1, upr.2.1⟩), ?_, ?_⟩
          · show bk8 F R (v 64) _ + _ = _
            rw [cm.1, ej]
          have e2 : typF F R v (cd8 (a % F) (toY R (v 64) (a / F + upB (v 64)))) = 0 := by
            rw [cm.2]
            unfold typA
            rw [if_pos q6, if_neg (noep _ rfl)]
          rw [pm, e2]
          have lowY : toY R (v 64) (a / F) = 9 - R := by
            unfold toY; unfold firstB upB at q5
            rcases hs with z | z <;> simp only [z] at q5 ⊢ <;> simp at q5 ⊢ <;> omega
          have nb : ¬ becB F R v a j = true := by
            intro z
            have := bec_y hs z
            rw [ey, toY_up (v := v) hs 2 rfl] at this
            omega
          have := cst_le (F := F) (R := R) (v := v) (a := a) (b := j)
          rw [if_neg nb] at this
          have n6 : Nat.beq (s8F F R (v 64) a / 8) 6 = false := by
            rw [Bool.eq_false_iff]
            intro z
            have := Nat.eq_of_beq_eq_true z
            omega
          rw [n6]
          exact this
    · rw [if_neg c1]; exact .inl rfl
  omega
end
