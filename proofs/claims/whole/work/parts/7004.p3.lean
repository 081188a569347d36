section
variable {D : wD} {S : wS} {x : Nat} {A : Nat → Nat} {m : xM} {post : Int32 → wS → Prop} {F R : Int}
theorem stepOf_F {F df dr : Int} : stepOf F df dr = (if dr ≤ 0 then (if 0 ≤ dr then 0 else -F) else F) + (if df ≤ 0 then (if 0 ≤ df then 0 else -1) else 1) := by
  unfold stepOf; omega
theorem fr_small {F a : Int} (h4 : 4 ≤ F) (h8 : F ≤ 8) (ha : 0 ≤ a ∧ a < 64) : 0 ≤ a % F ∧ a % F < F ∧ 0 ≤ a / F ∧ a / F < 64 := by
  rcases (show F = 4 ∨ F = 5 ∨ F = 6 ∨ F = 7 ∨ F = 8 by omega) with rfl | rfl | rfl | rfl | rfl <;> omega
theorem q_isClear (h : XC D S x A) (hB : XB m F R) {l a b : Int} (hl : 0 ≤ l ∧ l < 8) (hv : okV F R (lv m l)) (ha : 0 ≤ a ∧ a < 64) (hb : 0 ≤ b ∧ b < 64) (hne : a ≠ b)
    (hal : b % F = a % F ∨ b / F = a / F ∨ b % F - a % F = b / F - a / F ∨ b % F - a % F = a / F - b / F)
    (k : post (iI (bI (clearB F (lv m l) a b))) (xS S x A m)) : wp_X12_isClear D post (xS S x A m) x (iI l) (iI a) (iI b) := by
  have h4 := hB.f4; have h8 := hB.f8
  obtain ⟨g1, g2, g3, g4, g5⟩ := clear_geo h4 h8 ha hb hne hal
  have ra := fr_small h4 h8 ha
  have rb := fr_small h4 h8 hb
  have key : ∃ n_3, wp_X12_isClear_80 D post n_3 (xS S x A m) x (iI l) (iI b) (iI (stepOf F (b % F - a % F) (b / F - a / F))) (iI (a + stepOf F (b % F - a % F) (b / F - a / F))) := by
    refine ⟨65, ?_⟩
    rw [q_isClear_80 h hl hv 65 (farOf (b % F - a % F) (b / F - a / F) - 1) _ (by omega) g1 g2 g3 g4 hb]
    exact k
  simp only [wp_X12_isClear, wp_X12_isClear_0]
  rw [q_fileOf hB (by omega), q_fileOf hB (by omega)]
  simp (discharger := omega) only [nlit, iI_lit, iI_add, iI_sub, iI_mul, iI_neg, bI_z, bI_o, i10, i01, eq_self, bI_nar, nar_0, nar_1, bI_t, bI_f, Option.some.injEq, exists_eq_left', true_and, and_true, forall_eq, not_true_eq_false, not_false_eq_true, forall_const, false_implies, true_implies, Classical.not_not, if_true, if_false, Int.reduceEq, Int.reduceLT, Int.reduceLE, Int.reduceGT, Int.reduceGE, Int.reduceAdd, Int.reduceSub, Int.reduceMul, Int.reduceNeg, Int.reduceNe, Bool.true_and, Bool.and_true, Bool.false_and, Bool.and_false, BEq.rfl, Bool.true_eq_false, Bool.false_eq_true]
  rw [q_rankOf hB (by omega), q_rankOf hB (by omega)]
  rw [stepOf_F] at key
  have hf : sI (xS S x A m) x 1 = iI F := by rw [x_i0, show m 50 ((1 : Nat) : Int) = F from hB.f]
  simp (discharger := omega) only [nlit, iI_lit, iI_add, iI_sub, iI_mul, iI_neg, bI_z, bI_o, i10, i01, eq_self, bI_nar, nar_0, nar_1, bI_t, bI_f, Option.some.injEq, exists_eq_left', true_and, and_true, forall_eq, not_true_eq_false, not_false_eq_true, forall_const, false_implies, true_implies, Classical.not_not, if_true, if_false, Int.reduceEq, Int.reduceLT, Int.reduceLE, Int.reduceGT, Int.reduceGE, Int.reduceAdd, Int.reduceSub, Int.reduceMul, Int.reduceNeg, Int.reduceNe, Bool.true_and, Bool.and_true, Bool.false_and, Bool.and_false, BEq.rfl, Bool.true_eq_false, Bool.false_eq_true, wp_X12_isClear_52, wp_X12_isClear_71, hf]
  rw [iI_le (by omega) (by omega) (by omega) (by omega), iI_le (by omega) (by omega) (by omega) (by omega), iI_le (by omega) (by omega) (by omega) (by omega), iI_le (by omega) (by omega) (by omega) (by omega)]
  generalize b % F - a % F = df at key ⊢
  generalize b / F - a / F = dr at key ⊢
  by_cases c1 : dr ≤ 0 <;> by_cases c2 : 0 ≤ dr <;> by_cases c3 : df ≤ 0 <;> by_cases c4 : 0 ≤ df <;> simp only [c1, c2, c3, c4, if_true, if_false, true_implies, false_implies, true_and, and_true, not_true_eq_false, not_false_eq_true] at key ⊢ <;> exact key
theorem dist_r {a b : Int} (ha : 0 ≤ a ∧ a < 64) (hb : 0 ≤ b ∧ b < 64) : 0 ≤ dist a b ∧ dist a b < 64 := by unfold dist; omega
theorem dist_0 {a b : Int} : dist a b = 0 ↔ a = b := by unfold dist; omega
theorem mul_r {a b : Int} (ha : 0 ≤ a ∧ a < 64) (hb : 0 ≤ b ∧ b < 64) : 0 ≤ a * b ∧ a * b < 4096 := by
  obtain ⟨n, rfl⟩ := Int.eq_ofNat_of_zero_le ha.1
  obtain ⟨k, rfl⟩ := Int.eq_ofNat_of_zero_le hb.1
  have h1 : n < 64 := by omega
  have h2 : k < 64 := by omega
  have h3 : n * k < 64 * 64 := Nat.mul_lt_mul'' h1 h2
  rw [← Int.natCast_mul]
  omega
theorem kindO_r {p : Int} (hp : 0 ≤ p ∧ p ≤ 12) : 0 ≤ kindO p ∧ kindO p ≤ 6 := by unfold kindO; omega
theorem q_attacks (h : XC D S x A) (hB : XB m F R) {l a b : Int} (hl : 0 ≤ l ∧ l < 8) (hv : okV F R (lv m l)) (ha : 0 ≤ a ∧ a < 64) (hb : 0 ≤ b ∧ b < 64)
    (k : post (iI (bI (attB F (lv m l) a b))) (xS S x A m)) : wp_X12_attacks D post (xS S x A m) x (iI l) (iI a) (iI b) := by
  have h4 := hB.f4; have h8 := hB.f8
  have ra := fr_small h4 h8 ha
  have rb := fr_small h4 h8 hb
  have hp := hv.p a (by omega) (by omega)
  have rdf := dist_r (a := a % F) (b := b % F) (by omega) (by omega)
  have rdr := dist_r (a := a / F) (b := b / F) (by omega) (by omega)
  have hab : 0 < dist (a % F) (b % F) + dist (a / F) (b / F) → a ≠ b := by rintro z rfl; simp [dist] at z
  have hmul := mul_r rdf rdr
  have hkr := kindO_r hp
  have al1 : dist (a % F) (b % F) * dist (a / F) (b / F) = 0 → b % F = a % F ∨ b / F = a / F := fun z => by
    rcases Int.mul_eq_zero.mp z with z | z
    · exact Or.inl (dist_0.mp z).symm
    · exact Or.inr (dist_0.mp z).symm
  have al2 : dist (a % F) (b % F) = dist (a / F) (b / F) → b % F - a % F = b / F - a / F ∨ b % F - a % F = a / F - b / F := fun z => by unfold dist at z; omega
  have cl : (b % F = a % F ∨ b / F = a / F ∨ b % F - a % F = b / F - a / F ∨ b % F - a % F = a / F - b / F) → a ≠ b → post (iI (bI (clearB F (lv m l) a b))) (xS S x A m) →
      wp_X12_isClear D (fun r_2 S_3 => (r_2 = iI 0 → post (iI 0) S_3) ∧ (¬r_2 = iI 0 → post (iI 1) S_3)) (xS S x A m) x (iI l) (iI a) (iI b) := fun z1 z2 z3 => by
    refine q_isClear h hB hl hv ha hb z2 z1 ?_
    simp (discharger := omega) only [nlit, iI_lit, iI_add, iI_sub, iI_mul, iI_neg, bI_z, bI_o, i10, i01, eq_self, bI_nar, nar_0, nar_1, bI_t, bI_f, Option.some.injEq, exists_eq_left', true_and, and_true, forall_eq, not_true_eq_false, not_false_eq_true, forall_const, false_implies, true_implies, Classical.not_not, if_true, if_false, Int.reduceEq, Int.reduceLT, Int.reduceLE, Int.reduceGT, Int.reduceGE, Int.reduceAdd, Int.reduceSub, Int.reduceMul, Int.reduceNeg, Int.reduceNe, Bool.true_and, Bool.and_true, Bool.false_and, Bool.and_false, BEq.rfl, Bool.true_eq_false, Bool.false_eq_true]
    cases hq : clearB F (lv m l) a b
    · rw [hq] at z3; exact ⟨fun _ => z3, fun z => absurd rfl z⟩
    · rw [hq] at z3; exact ⟨fun z => absurd z (by decide), fun _ => z3⟩
  unfold attB at k
  dsimp only at k
  simp only [wp_X12_attacks, wp_X12_attacks_0]
  rw [q_on h hl (by omega) (by omega), q_fileOf hB (by omega), q_fileOf hB (by omega), q_distance (by omega) (by omega), q_rankOf hB (by omega), q_rankOf hB (by omega), q_distance (by omega) (by omega), q_kindOf hp]
  generalize dist (a % F) (b % F) = df at *
  generalize dist (a / F) (b / F) = dr at *
  generalize hkd : kindO (lv m l a) = kd at *
  simp (discharger := omega) only [nlit, iI_lit, iI_add, iI_sub, iI_mul, iI_neg, bI_z, bI_o, i10, i01, eq_self, bI_nar, nar_0, nar_1, bI_t, bI_f, Option.some.injEq, exists_eq_left', true_and, and_true, forall_eq, not_true_eq_false, not_false_eq_true, forall_const, false_implies, true_implies, Classical.not_not, if_true, if_false, Int.reduceEq, Int.reduceLT, Int.reduceLE, Int.reduceGT, Int.reduceGE, Int.reduceAdd, Int.reduceSub, Int.reduceMul, Int.reduceNeg, Int.reduceNe, Bool.true_and, Bool.and_true, Bool.false_and, Bool.and_false, BEq.rfl, Bool.true_eq_false, Bool.false_eq_true, iI_eq, iI_lt, iI_le, wp_X12_attacks_104, wp_X12_attacks_105, wp_X12_attacks_234, wp_X12_attacks_256, wp_X12_attacks_257, wp_X12_attacks_217, wp_X12_attacks_218, wp_X12_attacks_189, wp_X12_attacks_190, wp_X12_attacks_157, wp_X12_attacks_158, wp_X12_attacks_150, wp_X12_attacks_120]
  have e9 : (df + dr ≤ 0) = ¬ (0 < df + dr) := by apply propext; omega
  have e8 : (df ≤ 0) = ¬ (0 < df) := by apply propext; omega
  have e7 : (1 < df) = ¬ (df ≤ 1) := by apply propext; omega
  have e6 : (1 < dr) = ¬ (dr ≤ 1) := by apply propext; omega
  simp only [e9, e8, e7, e6]
  generalize df * dr = pr at *
  rcases (show kd = 0 ∨ kd = 1 ∨ kd = 2 ∨ kd = 3 ∨ kd = 4 ∨ kd = 5 ∨ kd = 6 by omega) with rfl | rfl | rfl | rfl | rfl | rfl | rfl
  · simp only [iI_lit, bI_z, bI_o, i10, i01, eq_self, bI_nar, nar_0, nar_1, bI_t, bI_f, true_and, and_true, forall_eq, not_true_eq_false, not_false_eq_true, forall_const, false_implies, true_implies, Classical.not_not, if_true, if_false, Int.reduceEq, Int.reduceLT, Int.reduceLE, Int.reduceGT, Int.reduceGE, Int.reduceAdd, Int.reduceSub, Int.reduceMul, Int.reduceNeg, Int.reduceNe, Bool.true_and, Bool.and_true, Bool.false_and, Bool.and_false, Bool.true_or, Bool.or_true, Bool.false_or, Bool.or_false, BEq.rfl, decide_true, decide_false, decide_eq_true_eq, Bool.false_eq_true, Bool.true_eq_false, Bool.not_true, Bool.not_false] at k ⊢
    exact k
  · by_cases c1 : df ≤ 1 <;> by_cases c2 : dr ≤ 1 <;> by_cases c3 : 0 < df + dr <;> simp only [iI_lit, bI_z, bI_o, i10, i01, eq_self, bI_nar, nar_0, nar_1, bI_t, bI_f, true_and, and_true, forall_eq, not_true_eq_false, not_false_eq_true, forall_const, false_implies, true_implies, Classical.not_not, if_true, if_false, Int.reduceEq, Int.reduceLT, Int.reduceLE, Int.reduceGT, Int.reduceGE, Int.reduceAdd, Int.reduceSub, Int.reduceMul, Int.reduceNeg, Int.reduceNe, Bool.true_and, Bool.and_true, Bool.false_and, Bool.and_false, Bool.true_or, Bool.or_true, Bool.false_or, Bool.or_false, BEq.rfl, decide_true, decide_false, decide_eq_true_eq, Bool.false_eq_true, Bool.true_eq_false, Bool.not_true, Bool.not_false, c1, c2, c3] at k ⊢ <;> exact k
  · by_cases c3 : 0 < df + dr <;> by_cases c1 : pr = 0 <;> by_cases c2 : df = dr
    all_goals first
      | (simp only [iI_lit, bI_z, bI_o, i10, i01, eq_self, bI_nar, nar_0, nar_1, bI_t, bI_f, true_and, and_true, forall_eq, not_true_eq_false, not_false_eq_true, forall_const, false_implies, true_implies, Classical.not_not, if_true, if_false, Int.reduceEq, Int.reduceLT, Int.reduceLE, Int.reduceGT, Int.reduceGE, Int.reduceAdd, Int.reduceSub, Int.reduceMul, Int.reduceNeg, Int.reduceNe, Bool.true_and, Bool.and_true, Bool.false_and, Bool.and_false, Bool.true_or, Bool.or_true, Bool.false_or, Bool.or_false, BEq.rfl, decide_true, decide_false, decide_eq_true_eq, Bool.false_eq_true, Bool.true_eq_false, Bool.not_true, Bool.not_false, c1, c3, eq_false c2] at k ⊢; exact k)
      | (simp only [iI_lit, bI_z, bI_o, i10, i01, eq_self, bI_nar, nar_0, nar_1, bI_t, bI_f, true_and, and_true, forall_eq, not_true_eq_false, not_false_eq_true, forall_const, false_implies, true_implies, Classical.not_not, if_true, if_false, Int.reduceEq, Int.reduceLT, Int.reduceLE, Int.reduceGT, Int.reduceGE, Int.reduceAdd, Int.reduceSub, Int.reduceMul, Int.reduceNeg, Int.reduceNe, Bool.true_and, Bool.and_true, Bool.false_and, Bool.and_false, Bool.true_or, Bool.or_true, Bool.false_or, Bool.or_false, BEq.rfl, decide_true, decide_false, decide_eq_true_eq, Bool.false_eq_true, Bool.true_eq_false, Bool.not_true, Bool.not_false, c1, c3, eq_true c2] at k ⊢; exact k)
      | (have hne := hab c3; have ht := al1 c1; simp only [iI_lit, bI_z, bI_o, i10, i01, eq_self, bI_nar, nar_0, nar_1, bI_t, bI_f, true_and, and_true, forall_eq, not_true_eq_false, not_false_eq_true, forall_const, false_implies, true_implies, Classical.not_not, if_true, if_false, Int.reduceEq, Int.reduceLT, Int.reduceLE, Int.reduceGT, Int.reduceGE, Int.reduceAdd, Int.reduceSub, Int.reduceMul, Int.reduceNeg, Int.reduceNe, Bool.true_and, Bool.and_true, Bool.false_and, Bool.and_false, Bool.true_or, Bool.or_true, Bool.false_or, Bool.or_false, BEq.rfl, decide_true, decide_false, decide_eq_true_eq, Bool.false_eq_true, Bool.true_eq_false, Bool.not_true, Bool.not_false, c1, c3] at k ⊢; exact cl (ht.elim Or.inl (fun z => Or.inr (Or.inl z))) hne k)
      | (have hne := hab c3; have ht := al2 c2; simp only [iI_lit, bI_z, bI_o, i10, i01, eq_self, bI_nar, nar_0, nar_1, bI_t, bI_f, true_and, and_true, forall_eq, not_true_eq_false, not_false_eq_true, forall_const, false_implies, true_implies, Classical.not_not, if_true, if_false, Int.reduceEq, Int.reduceLT, Int.reduceLE, Int.reduceGT, Int.reduceGE, Int.reduceAdd, Int.reduceSub, Int.reduceMul, Int.reduceNeg, Int.reduceNe, Bool.true_and, Bool.and_true, Bool.false_and, Bool.and_false, Bool.true_or, Bool.or_true, Bool.false_or, Bool.or_false, BEq.rfl, decide_true, decide_false, decide_eq_true_eq, Bool.false_eq_true, Bool.true_eq_false, Bool.not_true, Bool.not_false, c1, c3, eq_true c2] at k ⊢; exact cl (ht.elim (fun z => Or.inr (Or.inr (Or.inl z))) (fun z => Or.inr (Or.inr (Or.inr z)))) hne k)
  · by_cases c3 : 0 < df + dr <;> by_cases c1 : pr = 0
    all_goals first
      | (simp only [iI_lit, bI_z, bI_o, i10, i01, eq_self, bI_nar, nar_0, nar_1, bI_t, bI_f, true_and, and_true, forall_eq, not_true_eq_false, not_false_eq_true, forall_const, false_implies, true_implies, Classical.not_not, if_true, if_false, Int.reduceEq, Int.reduceLT, Int.reduceLE, Int.reduceGT, Int.reduceGE, Int.reduceAdd, Int.reduceSub, Int.reduceMul, Int.reduceNeg, Int.reduceNe, Bool.true_and, Bool.and_true, Bool.false_and, Bool.and_false, Bool.true_or, Bool.or_true, Bool.false_or, Bool.or_false, BEq.rfl, decide_true, decide_false, decide_eq_true_eq, Bool.false_eq_true, Bool.true_eq_false, Bool.not_true, Bool.not_false, c1, c3] at k ⊢; exact k)
      | (have hne := hab c3; have ht := al1 c1; simp only [iI_lit, bI_z, bI_o, i10, i01, eq_self, bI_nar, nar_0, nar_1, bI_t, bI_f, true_and, and_true, forall_eq, not_true_eq_false, not_false_eq_true, forall_const, false_implies, true_implies, Classical.not_not, if_true, if_false, Int.reduceEq, Int.reduceLT, Int.reduceLE, Int.reduceGT, Int.reduceGE, Int.reduceAdd, Int.reduceSub, Int.reduceMul, Int.reduceNeg, Int.reduceNe, Bool.true_and, Bool.and_true, Bool.false_and, Bool.and_false, Bool.true_or, Bool.or_true, Bool.false_or, Bool.or_false, BEq.rfl, decide_true, decide_false, decide_eq_true_eq, Bool.false_eq_true, Bool.true_eq_false, Bool.not_true, Bool.not_false, c1, c3] at k ⊢; exact cl (ht.elim Or.inl (fun z => Or.inr (Or.inl z))) hne k)
  · by_cases c3 : 0 < df <;> by_cases c2 : df = dr
    all_goals first
      | (simp only [iI_lit, bI_z, bI_o, i10, i01, eq_self, bI_nar, nar_0, nar_1, bI_t, bI_f, true_and, and_true, forall_eq, not_true_eq_false, not_false_eq_true, forall_const, false_implies, true_implies, Classical.not_not, if_true, if_false, Int.reduceEq, Int.reduceLT, Int.reduceLE, Int.reduceGT, Int.reduceGE, Int.reduceAdd, Int.reduceSub, Int.reduceMul, Int.reduceNeg, Int.reduceNe, Bool.true_and, Bool.and_true, Bool.false_and, Bool.and_false, Bool.true_or, Bool.or_true, Bool.false_or, Bool.or_false, BEq.rfl, decide_true, decide_false, decide_eq_true_eq, Bool.false_eq_true, Bool.true_eq_false, Bool.not_true, Bool.not_false, c3, eq_false c2] at k ⊢; exact k)
      | (simp only [iI_lit, bI_z, bI_o, i10, i01, eq_self, bI_nar, nar_0, nar_1, bI_t, bI_f, true_and, and_true, forall_eq, not_true_eq_false, not_false_eq_true, forall_const, false_implies, true_implies, Classical.not_not, if_true, if_false, Int.reduceEq, Int.reduceLT, Int.reduceLE, Int.reduceGT, Int.reduceGE, Int.reduceAdd, Int.reduceSub, Int.reduceMul, Int.reduceNeg, Int.reduceNe, Bool.true_and, Bool.and_true, Bool.false_and, Bool.and_false, Bool.true_or, Bool.or_true, Bool.false_or, Bool.or_false, BEq.rfl, decide_true, decide_false, decide_eq_true_eq, Bool.false_eq_true, Bool.true_eq_false, Bool.not_true, Bool.not_false, c3, eq_true c2] at k ⊢; exact k)
      | (have hne := hab (by omega); have ht := al2 c2; simp only [iI_lit, bI_z, bI_o, i10, i01, eq_self, bI_nar, nar_0, nar_1, bI_t, bI_f, true_and, and_true, forall_eq, not_true_eq_false, not_false_eq_true, forall_const, false_implies, true_implies, Classical.not_not, if_true, if_false, Int.reduceEq, Int.reduceLT, Int.reduceLE, Int.reduceGT, Int.reduceGE, Int.reduceAdd, Int.reduceSub, Int.reduceMul, Int.reduceNeg, Int.reduceNe, Bool.true_and, Bool.and_true, Bool.false_and, Bool.and_false, Bool.true_or, Bool.or_true, Bool.false_or, Bool.or_false, BEq.rfl, decide_true, decide_false, decide_eq_true_eq, Bool.false_eq_true, Bool.true_eq_false, Bool.not_true, Bool.not_false, c3, eq_true c2] at k ⊢; exact cl (ht.elim (fun z => Or.inr (Or.inr (Or.inl z))) (fun z => Or.inr (Or.inr (Or.inr z)))) hne k)
  · by_cases c1 : pr = 2 <;> simp only [iI_lit, bI_z, bI_o, i10, i01, eq_self, bI_nar, nar_0, nar_1, bI_t, bI_f, true_and, and_true, forall_eq, not_true_eq_false, not_false_eq_true, forall_const, false_implies, true_implies, Classical.not_not, if_true, if_false, Int.reduceEq, Int.reduceLT, Int.reduceLE, Int.reduceGT, Int.reduceGE, Int.reduceAdd, Int.reduceSub, Int.reduceMul, Int.reduceNeg, Int.reduceNe, Bool.true_and, Bool.and_true, Bool.false_and, Bool.and_false, Bool.true_or, Bool.or_true, Bool.false_or, Bool.or_false, BEq.rfl, decide_true, decide_false, decide_eq_true_eq, Bool.false_eq_true, Bool.true_eq_false, Bool.not_true, Bool.not_false, c1] at k ⊢ <;> exact k
  · by_cases c1 : df = 1
    · simp only [iI_lit, bI_z, bI_o, i10, i01, eq_self, bI_nar, nar_0, nar_1, bI_t, bI_f, true_and, and_true, forall_eq, not_true_eq_false, not_false_eq_true, forall_const, false_implies, true_implies, Classical.not_not, if_true, if_false, Int.reduceEq, Int.reduceLT, Int.reduceLE, Int.reduceGT, Int.reduceGE, Int.reduceAdd, Int.reduceSub, Int.reduceMul, Int.reduceNeg, Int.reduceNe, Bool.true_and, Bool.and_true, Bool.false_and, Bool.and_false, Bool.true_or, Bool.or_true, Bool.false_or, Bool.or_false, BEq.rfl, decide_true, decide_false, decide_eq_true_eq, Bool.false_eq_true, Bool.true_eq_false, Bool.not_true, Bool.not_false, c1] at k ⊢
      rw [q_rankOf hB (by omega), q_rankOf hB (by omega)]
      simp (discharger := omega) only [nlit, iI_lit, iI_add, iI_sub, iI_mul, iI_neg, bI_z, bI_o, i10, i01, eq_self, bI_nar, nar_0, nar_1, bI_t, bI_f, Option.some.injEq, exists_eq_left', true_and, and_true, forall_eq, not_true_eq_false, not_false_eq_true, forall_const, false_implies, true_implies, Classical.not_not, if_true, if_false, Int.reduceEq, Int.reduceLT, Int.reduceLE, Int.reduceGT, Int.reduceGE, Int.reduceAdd, Int.reduceSub, Int.reduceMul, Int.reduceNeg, Int.reduceNe, Bool.true_and, Bool.and_true, Bool.false_and, Bool.and_false, BEq.rfl, Bool.true_eq_false, Bool.false_eq_true, iI_eq]
      generalize b / F - a / F = w at k ⊢
      by_cases c2 : lv m l a = 6
      · by_cases c4 : w = 1
        · subst c4; simp only [iI_lit, bI_z, bI_o, i10, i01, eq_self, bI_nar, nar_0, nar_1, bI_t, bI_f, true_and, and_true, forall_eq, not_true_eq_false, not_false_eq_true, forall_const, false_implies, true_implies, Classical.not_not, if_true, if_false, Int.reduceEq, Int.reduceLT, Int.reduceLE, Int.reduceGT, Int.reduceGE, Int.reduceAdd, Int.reduceSub, Int.reduceMul, Int.reduceNeg, Int.reduceNe, Bool.true_and, Bool.and_true, Bool.false_and, Bool.and_false, Bool.true_or, Bool.or_true, Bool.false_or, Bool.or_false, BEq.rfl, decide_true, decide_false, decide_eq_true_eq, Bool.false_eq_true, Bool.true_eq_false, Bool.not_true, Bool.not_false, c2] at k ⊢; exact k
        · simp only [iI_lit, bI_z, bI_o, i10, i01, eq_self, bI_nar, nar_0, nar_1, bI_t, bI_f, true_and, and_true, forall_eq, not_true_eq_false, not_false_eq_true, forall_const, false_implies, true_implies, Classical.not_not, if_true, if_false, Int.reduceEq, Int.reduceLT, Int.reduceLE, Int.reduceGT, Int.reduceGE, Int.reduceAdd, Int.reduceSub, Int.reduceMul, Int.reduceNeg, Int.reduceNe, Bool.true_and, Bool.and_true, Bool.false_and, Bool.and_false, Bool.true_or, Bool.or_true, Bool.false_or, Bool.or_false, BEq.rfl, decide_true, decide_false, decide_eq_true_eq, Bool.false_eq_true, Bool.true_eq_false, Bool.not_true, Bool.not_false, c2, c4] at k ⊢; exact k
      · by_cases c4 : w = -1
        · subst c4; simp only [iI_lit, bI_z, bI_o, i10, i01, eq_self, bI_nar, nar_0, nar_1, bI_t, bI_f, true_and, and_true, forall_eq, not_true_eq_false, not_false_eq_true, forall_const, false_implies, true_implies, Classical.not_not, if_true, if_false, Int.reduceEq, Int.reduceLT, Int.reduceLE, Int.reduceGT, Int.reduceGE, Int.reduceAdd, Int.reduceSub, Int.reduceMul, Int.reduceNeg, Int.reduceNe, Bool.true_and, Bool.and_true, Bool.false_and, Bool.and_false, Bool.true_or, Bool.or_true, Bool.false_or, Bool.or_false, BEq.rfl, decide_true, decide_false, decide_eq_true_eq, Bool.false_eq_true, Bool.true_eq_false, Bool.not_true, Bool.not_false, c2] at k ⊢; exact k
        · simp only [iI_lit, bI_z, bI_o, i10, i01, eq_self, bI_nar, nar_0, nar_1, bI_t, bI_f, true_and, and_true, forall_eq, not_true_eq_false, not_false_eq_true, forall_const, false_implies, true_implies, Classical.not_not, if_true, if_false, Int.reduceEq, Int.reduceLT, Int.reduceLE, Int.reduceGT, Int.reduceGE, Int.reduceAdd, Int.reduceSub, Int.reduceMul, Int.reduceNeg, Int.reduceNe, Bool.true_and, Bool.and_true, Bool.false_and, Bool.and_false, Bool.true_or, Bool.or_true, Bool.false_or, Bool.or_false, BEq.rfl, decide_true, decide_false, decide_eq_true_eq, Bool.false_eq_true, Bool.true_eq_false, Bool.not_true, Bool.not_false, c2, c4] at k ⊢; exact k
    · simp only [iI_lit, bI_z, bI_o, i10, i01, eq_self, bI_nar, nar_0, nar_1, bI_t, bI_f, true_and, and_true, forall_eq, not_true_eq_false, not_false_eq_true, forall_const, false_implies, true_implies, Classical.not_not, if_true, if_false, Int.reduceEq, Int.reduceLT, Int.reduceLE, Int.reduceGT, Int.reduceGE, Int.reduceAdd, Int.reduceSub, Int.reduceMul, Int.reduceNeg, Int.reduceNe, Bool.true_and, Bool.and_true, Bool.false_and, Bool.and_false, Bool.true_or, Bool.or_true, Bool.false_or, Bool.or_false, BEq.rfl, decide_true, decide_false, decide_eq_true_eq, Bool.false_eq_true, Bool.true_eq_false, Bool.not_true, Bool.not_false, c1] at k ⊢; exact k
end
