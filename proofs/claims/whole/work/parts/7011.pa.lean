section
variable {D : wD} {S : wS} {x : Nat} {A : Nat → Nat} {m : xM} {F R : Int} {post : wS → Prop}
theorem q_makes_209 (h : XC D S x A) (hB : XB m F R) {l a b bec : Int} (hl : 0 ≤ l ∧ l < 7) (hv : okV F R (lv m l)) (ha : 0 ≤ a ∧ a < F * R) (hb : 0 ≤ b ∧ b < F * R) (hbec : 0 ≤ bec ∧ bec ≤ 6)
    (k : post (xS S x A (putV m (67 * (l + 1)) (mkV F R (lv m l) a b bec)))) :
    wp_X12_makes_209 D post (xS S x A (putV m (67 * (l + 1)) (upV (mk2 F R (lv m l) a b) a 0))) x (iI l) (iI a) (iI b) (iI (l + 1)) (iI (lv m l 64)) (iI (lv m l a)) (iI (bI (decide (kindO (lv m l a) = 6)))) x (iI (l + 1)) (iI b) (iI (if bec = 0 then lv m l a else pieceOfB bec (lv m l 64))) := by
  have hn := hB.n
  have hs := hv.s
  have hp := hv.p a (by omega) (by omega)
  have hk := kindO_r hp
  have r1 := clr_I hv.r (lostB_r (F := F) (R := R) (a := a))
  have r2 := clr_I r1.2 (lostB_r (F := F) (R := R) (a := b))
  have k282 := q_makes_282 h hB hl hv ha hb hbec k
  have e4 : upV (upV (mk2 F R (lv m l) a b) a 0) b (if bec = 0 then lv m l a else pieceOfB bec (lv m l 64)) = mk4 F R (lv m l) a b bec := rfl
  unfold wp_X12_makes_209
  rw [q_lay h (by omega) (by omega), e4]
  try simp (discharger := omega) only [nlit, iI_lit, iI_add, iI_sub, iI_mul, iI_neg, bI_z, bI_o, i10, i01, eq_self, bI_nar, nar_0, nar_1, bI_t, bI_f, Option.some.injEq, exists_eq_left', true_and, and_true, forall_eq, not_true_eq_false, not_false_eq_true, forall_const, false_implies, true_implies, Classical.not_not, if_true, if_false, Int.reduceEq, Int.reduceLT, Int.reduceLE, Int.reduceGT, Int.reduceGE, Int.reduceAdd, Int.reduceSub, Int.reduceMul, Int.reduceNeg, Int.reduceNe, Bool.true_and, Bool.and_true, Bool.false_and, Bool.and_false, BEq.rfl, Bool.true_eq_false, Bool.false_eq_true]
  rw [q_lay h (by omega) (by omega)]
  simp (discharger := first | decide | omega) only [x_own h, x_kd h, x_r h, x_m h, x_l h, x_k h, x_n h, x_i0, x_i h, x_u0 h, x_u h, xLen, xKd, nlit, iI_lit, iI_add, iI_sub, iI_mul, iI_neg, bI_z, bI_o, i10, i01, eq_self, bI_nar, nar_0, nar_1, up_at, up_f, Option.some.injEq, exists_eq_left', true_and, and_true, forall_eq, not_true_eq_false, not_false_eq_true, forall_const, false_implies, true_implies, Classical.not_not, if_true, if_false, Int.reduceEq, Int.reduceLT, Int.reduceLE, Int.reduceGT, Int.reduceGE, Int.reduceAdd, Int.reduceSub, Int.reduceMul, Int.reduceNeg, Int.reduceNe, eq_true (iI_in (a := 67 * l + 65) (n := 536) (by omega) (by omega) (by omega))]
  rw [putV_l m _ (by omega) (by omega), q_lost h (hB.put _ _) (by omega)]
  try simp (discharger := omega) only [nlit, iI_lit, iI_add, iI_sub, iI_mul, iI_neg, bI_z, bI_o, i10, i01, eq_self, bI_nar, nar_0, nar_1, bI_t, bI_f, Option.some.injEq, exists_eq_left', true_and, and_true, forall_eq, not_true_eq_false, not_false_eq_true, forall_const, false_implies, true_implies, Classical.not_not, if_true, if_false, Int.reduceEq, Int.reduceLT, Int.reduceLE, Int.reduceGT, Int.reduceGE, Int.reduceAdd, Int.reduceSub, Int.reduceMul, Int.reduceNeg, Int.reduceNe, Bool.true_and, Bool.and_true, Bool.false_and, Bool.and_false, BEq.rfl, Bool.true_eq_false, Bool.false_eq_true]
  rw [q_lost h (hB.put _ _) (by omega), q_kindOf hp]
  simp (discharger := omega) only [nlit, iI_lit, iI_add, iI_sub, iI_mul, iI_neg, bI_z, bI_o, i10, i01, eq_self, bI_nar, nar_0, nar_1, bI_t, bI_f, Option.some.injEq, exists_eq_left', true_and, and_true, forall_eq, not_true_eq_false, not_false_eq_true, forall_const, false_implies, true_implies, Classical.not_not, if_true, if_false, Int.reduceEq, Int.reduceLT, Int.reduceLE, Int.reduceGT, Int.reduceGE, Int.reduceAdd, Int.reduceSub, Int.reduceMul, Int.reduceNeg, Int.reduceNe, Bool.true_and, Bool.and_true, Bool.false_and, Bool.and_false, BEq.rfl, Bool.true_eq_false, Bool.false_eq_true, iI_eq, r1.1, r2.1]
  by_cases c1 : kindO (lv m l a) = 1
  · rw [if_pos c1] at k282
    by_cases c2 : lv m l 64 = 1
    · rw [if_pos c2] at k282
      simp (discharger := omega) only [nlit, iI_lit, iI_add, iI_sub, iI_mul, iI_neg, bI_z, bI_o, i10, i01, eq_self, bI_nar, nar_0, nar_1, bI_t, bI_f, Option.some.injEq, exists_eq_left', true_and, and_true, forall_eq, not_true_eq_false, not_false_eq_true, forall_const, false_implies, true_implies, Classical.not_not, if_true, if_false, Int.reduceEq, Int.reduceLT, Int.reduceLE, Int.reduceGT, Int.reduceGE, Int.reduceAdd, Int.reduceSub, Int.reduceMul, Int.reduceNeg, Int.reduceNe, Bool.true_and, Bool.and_true, Bool.false_and, Bool.and_false, BEq.rfl, Bool.true_eq_false, Bool.false_eq_true, c1, c2]
      rw [c1, c2] at k282
      exact k282
    · rw [if_neg c2] at k282
      simp (discharger := omega) only [nlit, iI_lit, iI_add, iI_sub, iI_mul, iI_neg, bI_z, bI_o, i10, i01, eq_self, bI_nar, nar_0, nar_1, bI_t, bI_f, Option.some.injEq, exists_eq_left', true_and, and_true, forall_eq, not_true_eq_false, not_false_eq_true, forall_const, false_implies, true_implies, Classical.not_not, if_true, if_false, Int.reduceEq, Int.reduceLT, Int.reduceLE, Int.reduceGT, Int.reduceGE, Int.reduceAdd, Int.reduceSub, Int.reduceMul, Int.reduceNeg, Int.reduceNe, Bool.true_and, Bool.and_true, Bool.false_and, Bool.and_false, BEq.rfl, Bool.true_eq_false, Bool.false_eq_true, c1, c2]
      rw [c1] at k282
      exact k282
  · rw [if_neg c1] at k282
    simp (discharger := omega) only [nlit, iI_lit, iI_add, iI_sub, iI_mul, iI_neg, bI_z, bI_o, i10, i01, eq_self, bI_nar, nar_0, nar_1, bI_t, bI_f, Option.some.injEq, exists_eq_left', true_and, and_true, forall_eq, not_true_eq_false, not_false_eq_true, forall_const, false_implies, true_implies, Classical.not_not, if_true, if_false, Int.reduceEq, Int.reduceLT, Int.reduceLE, Int.reduceGT, Int.reduceGE, Int.reduceAdd, Int.reduceSub, Int.reduceMul, Int.reduceNeg, Int.reduceNe, Bool.true_and, Bool.and_true, Bool.false_and, Bool.and_false, BEq.rfl, Bool.true_eq_false, Bool.false_eq_true, c1]
    exact k282
theorem q_makes_180 (h : XC D S x A) (hB : XB m F R) {l a b bec : Int} (hl : 0 ≤ l ∧ l < 7) (hv : okV F R (lv m l)) (ha : 0 ≤ a ∧ a < F * R) (hb : 0 ≤ b ∧ b < F * R) (hbec : 0 ≤ bec ∧ bec ≤ 6)
    (k : post (xS S x A (putV m (67 * (l + 1)) (mkV F R (lv m l) a b bec)))) :
    wp_X12_makes_180 D post (xS S x A (putV m (67 * (l + 1)) (mk2 F R (lv m l) a b))) x (iI l) (iI a) (iI b) (iI bec) (iI (l + 1)) (iI (lv m l 64)) (iI (lv m l a)) (iI (bI (decide (kindO (lv m l a) = 6)))) := by
  have hn := hB.n
  have hs := hv.s
  have k2 := q_makes_209 h hB hl hv ha hb hbec k
  unfold wp_X12_makes_180
  try simp (discharger := omega) only [nlit, iI_lit, iI_add, iI_sub, iI_mul, iI_neg, bI_z, bI_o, i10, i01, eq_self, bI_nar, nar_0, nar_1, bI_t, bI_f, Option.some.injEq, exists_eq_left', true_and, and_true, forall_eq, not_true_eq_false, not_false_eq_true, forall_const, false_implies, true_implies, Classical.not_not, if_true, if_false, Int.reduceEq, Int.reduceLT, Int.reduceLE, Int.reduceGT, Int.reduceGE, Int.reduceAdd, Int.reduceSub, Int.reduceMul, Int.reduceNeg, Int.reduceNe, Bool.true_and, Bool.and_true, Bool.false_and, Bool.and_false, BEq.rfl, Bool.true_eq_false, Bool.false_eq_true]
  rw [q_lay h (by omega) (by omega)]
  simp (discharger := omega) only [nlit, iI_lit, iI_add, iI_sub, iI_mul, iI_neg, bI_z, bI_o, i10, i01, eq_self, bI_nar, nar_0, nar_1, bI_t, bI_f, Option.some.injEq, exists_eq_left', true_and, and_true, forall_eq, not_true_eq_false, not_false_eq_true, forall_const, false_implies, true_implies, Classical.not_not, if_true, if_false, Int.reduceEq, Int.reduceLT, Int.reduceLE, Int.reduceGT, Int.reduceGE, Int.reduceAdd, Int.reduceSub, Int.reduceMul, Int.reduceNeg, Int.reduceNe, Bool.true_and, Bool.and_true, Bool.false_and, Bool.and_false, BEq.rfl, Bool.true_eq_false, Bool.false_eq_true, iI_eq]
  by_cases c : bec = 0
  · rw [if_pos c] at k2
    simp (discharger := omega) only [nlit, iI_lit, iI_add, iI_sub, iI_mul, iI_neg, bI_z, bI_o, i10, i01, eq_self, bI_nar, nar_0, nar_1, bI_t, bI_f, Option.some.injEq, exists_eq_left', true_and, and_true, forall_eq, not_true_eq_false, not_false_eq_true, forall_const, false_implies, true_implies, Classical.not_not, if_true, if_false, Int.reduceEq, Int.reduceLT, Int.reduceLE, Int.reduceGT, Int.reduceGE, Int.reduceAdd, Int.reduceSub, Int.reduceMul, Int.reduceNeg, Int.reduceNe, Bool.true_and, Bool.and_true, Bool.false_and, Bool.and_false, BEq.rfl, Bool.true_eq_false, Bool.false_eq_true, c]
    exact k2
  · rw [if_neg c] at k2
    simp (discharger := omega) only [nlit, iI_lit, iI_add, iI_sub, iI_mul, iI_neg, bI_z, bI_o, i10, i01, eq_self, bI_nar, nar_0, nar_1, bI_t, bI_f, Option.some.injEq, exists_eq_left', true_and, and_true, forall_eq, not_true_eq_false, not_false_eq_true, forall_const, false_implies, true_implies, Classical.not_not, if_true, if_false, Int.reduceEq, Int.reduceLT, Int.reduceLE, Int.reduceGT, Int.reduceGE, Int.reduceAdd, Int.reduceSub, Int.reduceMul, Int.reduceNeg, Int.reduceNe, Bool.true_and, Bool.and_true, Bool.false_and, Bool.and_false, BEq.rfl, Bool.true_eq_false, Bool.false_eq_true, c]
    rw [q_pieceOf (by omega) hs]
    exact k2
theorem q_makes_106 (h : XC D S x A) (hB : XB m F R) {l a b bec : Int} (hl : 0 ≤ l ∧ l < 7) (hv : okV F R (lv m l)) (ha : 0 ≤ a ∧ a < F * R) (hb : 0 ≤ b ∧ b < F * R) (hbec : 0 ≤ bec ∧ bec ≤ 6)
    (k : post (xS S x A (putV m (67 * (l + 1)) (mkV F R (lv m l) a b bec)))) :
    wp_X12_makes_106 D post (xS S x A (putV m (67 * (l + 1)) (mk1 F (lv m l) a b))) x (iI l) (iI a) (iI b) (iI bec) (iI (l + 1)) (iI (lv m l 64)) (iI (lv m l a)) (iI (bI (decide (kindO (lv m l a) = 6)))) := by
  have h4 := hB.f4; have h8 := hB.f8; have r4 := hB.r4; have r8 := hB.r8
  have hn := hB.n
  have hs := hv.s
  have k2 := q_makes_180 h hB hl hv ha hb hbec k
  have el : lv (putV m (67 * (l + 1)) (mk1 F (lv m l) a b)) l = lv m l := lv_putV_ne m _ (by omega)
  unfold wp_X12_makes_106
  refine q_isCastling h (hB.put _ _) (by omega) (by rw [el]; exact hv) (by omega) (by omega) ?_
  rw [el]
  unfold mk2 at k2
  simp (discharger := omega) only [nlit, iI_lit, iI_add, iI_sub, iI_mul, iI_neg, bI_z, bI_o, i10, i01, eq_self, bI_nar, nar_0, nar_1, bI_t, bI_f, Option.some.injEq, exists_eq_left', true_and, and_true, forall_eq, not_true_eq_false, not_false_eq_true, forall_const, false_implies, true_implies, Classical.not_not, if_true, if_false, Int.reduceEq, Int.reduceLT, Int.reduceLE, Int.reduceGT, Int.reduceGE, Int.reduceAdd, Int.reduceSub, Int.reduceMul, Int.reduceNeg, Int.reduceNe, Bool.true_and, Bool.and_true, Bool.false_and, Bool.and_false, BEq.rfl, Bool.true_eq_false, Bool.false_eq_true, iI_le]
  cases c1 : castingB F (lv m l) a b
  · rw [if_neg (by rw [c1]; decide)] at k2
    try simp (discharger := omega) only [nlit, iI_lit, iI_add, iI_sub, iI_mul, iI_neg, bI_z, bI_o, i10, i01, eq_self, bI_nar, nar_0, nar_1, bI_t, bI_f, Option.some.injEq, exists_eq_left', true_and, and_true, forall_eq, not_true_eq_false, not_false_eq_true, forall_const, false_implies, true_implies, Classical.not_not, if_true, if_false, Int.reduceEq, Int.reduceLT, Int.reduceLE, Int.reduceGT, Int.reduceGE, Int.reduceAdd, Int.reduceSub, Int.reduceMul, Int.reduceNeg, Int.reduceNe, Bool.true_and, Bool.and_true, Bool.false_and, Bool.and_false, BEq.rfl, Bool.true_eq_false, Bool.false_eq_true]
    exact k2
  · rw [if_pos c1] at k2
    have e1 := homeB_r2 (its := lv m l 64) (f := if a < b then 7 else 0) h4 h8 r4 r8 (by split <;> decide)
    have e2 := homeB_r2 (its := lv m l 64) (f := if a < b then 5 else 3) h4 h8 r4 r8 (by split <;> decide)
    by_cases c2 : a < b
    · have c3 : ¬ b ≤ a := by omega
      rw [if_pos c2] at e1 e2
      rw [if_pos c2, if_pos c2] at k2
      simp (discharger := omega) only [nlit, iI_lit, iI_add, iI_sub, iI_mul, iI_neg, bI_z, bI_o, i10, i01, eq_self, bI_nar, nar_0, nar_1, bI_t, bI_f, Option.some.injEq, exists_eq_left', true_and, and_true, forall_eq, not_true_eq_false, not_false_eq_true, forall_const, false_implies, true_implies, Classical.not_not, if_true, if_false, Int.reduceEq, Int.reduceLT, Int.reduceLE, Int.reduceGT, Int.reduceGE, Int.reduceAdd, Int.reduceSub, Int.reduceMul, Int.reduceNeg, Int.reduceNe, Bool.true_and, Bool.and_true, Bool.false_and, Bool.and_false, BEq.rfl, Bool.true_eq_false, Bool.false_eq_true, c3, wp_X12_makes_126, wp_X12_makes_145]
      rw [q_homeOf h (hB.put _ _) hs]
      try simp (discharger := omega) only [nlit, iI_lit, iI_add, iI_sub, iI_mul, iI_neg, bI_z, bI_o, i10, i01, eq_self, bI_nar, nar_0, nar_1, bI_t, bI_f, Option.some.injEq, exists_eq_left', true_and, and_true, forall_eq, not_true_eq_false, not_false_eq_true, forall_const, false_implies, true_implies, Classical.not_not, if_true, if_false, Int.reduceEq, Int.reduceLT, Int.reduceLE, Int.reduceGT, Int.reduceGE, Int.reduceAdd, Int.reduceSub, Int.reduceMul, Int.reduceNeg, Int.reduceNe, Bool.true_and, Bool.and_true, Bool.false_and, Bool.and_false, BEq.rfl, Bool.true_eq_false, Bool.false_eq_true]
      rw [q_lay h (by omega) (by omega)]
      simp (discharger := omega) only [nlit, iI_lit, iI_add, iI_sub, iI_mul, iI_neg, bI_z, bI_o, i10, i01, eq_self, bI_nar, nar_0, nar_1, bI_t, bI_f, Option.some.injEq, exists_eq_left', true_and, and_true, forall_eq, not_true_eq_false, not_false_eq_true, forall_const, false_implies, true_implies, Classical.not_not, if_true, if_false, Int.reduceEq, Int.reduceLT, Int.reduceLE, Int.reduceGT, Int.reduceGE, Int.reduceAdd, Int.reduceSub, Int.reduceMul, Int.reduceNeg, Int.reduceNe, Bool.true_and, Bool.and_true, Bool.false_and, Bool.and_false, BEq.rfl, Bool.true_eq_false, Bool.false_eq_true, wp_X12_makes_168]
      rw [q_homeOf h (hB.put _ _) hs]
      rw [q_pieceOf (by decide) hs]
      try simp (discharger := omega) only [nlit, iI_lit, iI_add, iI_sub, iI_mul, iI_neg, bI_z, bI_o, i10, i01, eq_self, bI_nar, nar_0, nar_1, bI_t, bI_f, Option.some.injEq, exists_eq_left', true_and, and_true, forall_eq, not_true_eq_false, not_false_eq_true, forall_const, false_implies, true_implies, Classical.not_not, if_true, if_false, Int.reduceEq, Int.reduceLT, Int.reduceLE, Int.reduceGT, Int.reduceGE, Int.reduceAdd, Int.reduceSub, Int.reduceMul, Int.reduceNeg, Int.reduceNe, Bool.true_and, Bool.and_true, Bool.false_and, Bool.and_false, BEq.rfl, Bool.true_eq_false, Bool.false_eq_true]
      rw [q_lay h (by omega) (by omega)]
      exact k2
    · have c3 : b ≤ a := by omega
      rw [if_neg c2] at e1 e2
      rw [if_neg c2, if_neg c2] at k2
      simp (discharger := omega) only [nlit, iI_lit, iI_add, iI_sub, iI_mul, iI_neg, bI_z, bI_o, i10, i01, eq_self, bI_nar, nar_0, nar_1, bI_t, bI_f, Option.some.injEq, exists_eq_left', true_and, and_true, forall_eq, not_true_eq_false, not_false_eq_true, forall_const, false_implies, true_implies, Classical.not_not, if_true, if_false, Int.reduceEq, Int.reduceLT, Int.reduceLE, Int.reduceGT, Int.reduceGE, Int.reduceAdd, Int.reduceSub, Int.reduceMul, Int.reduceNeg, Int.reduceNe, Bool.true_and, Bool.and_true, Bool.false_and, Bool.and_false, BEq.rfl, Bool.true_eq_false, Bool.false_eq_true, c3, wp_X12_makes_126, wp_X12_makes_145]
      rw [q_homeOf h (hB.put _ _) hs]
      try simp (discharger := omega) only [nlit, iI_lit, iI_add, iI_sub, iI_mul, iI_neg, bI_z, bI_o, i10, i01, eq_self, bI_nar, nar_0, nar_1, bI_t, bI_f, Option.some.injEq, exists_eq_left', true_and, and_true, forall_eq, not_true_eq_false, not_false_eq_true, forall_const, false_implies, true_implies, Classical.not_not, if_true, if_false, Int.reduceEq, Int.reduceLT, Int.reduceLE, Int.reduceGT, Int.reduceGE, Int.reduceAdd, Int.reduceSub, Int.reduceMul, Int.reduceNeg, Int.reduceNe, Bool.true_and, Bool.and_true, Bool.false_and, Bool.and_false, BEq.rfl, Bool.true_eq_false, Bool.false_eq_true]
      rw [q_lay h (by omega) (by omega)]
      simp (discharger := omega) only [nlit, iI_lit, iI_add, iI_sub, iI_mul, iI_neg, bI_z, bI_o, i10, i01, eq_self, bI_nar, nar_0, nar_1, bI_t, bI_f, Option.some.injEq, exists_eq_left', true_and, and_true, forall_eq, not_true_eq_false, not_false_eq_true, forall_const, false_implies, true_implies, Classical.not_not, if_true, if_false, Int.reduceEq, Int.reduceLT, Int.reduceLE, Int.reduceGT, Int.reduceGE, Int.reduceAdd, Int.reduceSub, Int.reduceMul, Int.reduceNeg, Int.reduceNe, Bool.true_and, Bool.and_true, Bool.false_and, Bool.and_false, BEq.rfl, Bool.true_eq_false, Bool.false_eq_true, wp_X12_makes_168]
      rw [q_homeOf h (hB.put _ _) hs]
      rw [q_pieceOf (by decide) hs]
      try simp (discharger := omega) only [nlit, iI_lit, iI_add, iI_sub, iI_mul, iI_neg, bI_z, bI_o, i10, i01, eq_self, bI_nar, nar_0, nar_1, bI_t, bI_f, Option.some.injEq, exists_eq_left', true_and, and_true, forall_eq, not_true_eq_false, not_false_eq_true, forall_const, false_implies, true_implies, Classical.not_not, if_true, if_false, Int.reduceEq, Int.reduceLT, Int.reduceLE, Int.reduceGT, Int.reduceGE, Int.reduceAdd, Int.reduceSub, Int.reduceMul, Int.reduceNeg, Int.reduceNe, Bool.true_and, Bool.and_true, Bool.false_and, Bool.and_false, BEq.rfl, Bool.true_eq_false, Bool.false_eq_true]
      rw [q_lay h (by omega) (by omega)]
      exact k2
theorem q_makes (h : XC D S x A) (hB : XB m F R) {l a b bec : Int} (hl : 0 ≤ l ∧ l < 7) (hv : okV F R (lv m l)) (ha : 0 ≤ a ∧ a < F * R) (hb : 0 ≤ b ∧ b < F * R) (hbec : 0 ≤ bec ∧ bec ≤ 6)
    (k : post (xS S x A (putV m (67 * (l + 1)) (mkV F R (lv m l) a b bec)))) :
    wp_X12_makes D post (xS S x A m) x (iI l) (iI a) (iI b) (iI bec) := by
  have h4 := hB.f4; have h8 := hB.f8; have r4 := hB.r4; have r8 := hB.r8
  have hn := hB.n
  have hs := hv.s
  have hp := hv.p a (by omega) (by omega)
  have hq := hv.p b (by omega) (by omega)
  have hk := kindO_r hp
  have ra := fr_small h4 h8 (a := a) (by omega)
  have rb := fr_small h4 h8 (a := b) (by omega)
  have ee := ep_r h4 h8 r4 r8 ha hb.1
  have k2 := q_makes_106 h hB hl hv ha hb hbec k
  have el : lv (putV m (67 * (l + 1)) (lv m l)) l = lv m l := lv_putV_ne m _ (by omega)
  have hB1 := hB.put (67 * (l + 1)) (lv m l)
  simp (discharger := first | decide | omega) only [x_own h, x_kd h, x_r h, x_m h, x_l h, x_k h, x_n h, x_i0, x_i h, x_u0 h, x_u h, xLen, xKd, nlit, iI_lit, iI_add, iI_sub, iI_mul, iI_neg, bI_z, bI_o, i10, i01, eq_self, bI_nar, nar_0, nar_1, up_at, up_f, Option.some.injEq, exists_eq_left', true_and, and_true, forall_eq, not_true_eq_false, not_false_eq_true, forall_const, false_implies, true_implies, Classical.not_not, if_true, if_false, Int.reduceEq, Int.reduceLT, Int.reduceLE, Int.reduceGT, Int.reduceGE, Int.reduceAdd, Int.reduceSub, Int.reduceMul, Int.reduceNeg, Int.reduceNe, wp_X12_makes, wp_X12_makes_0]
  refine q_copies (f := 3) (g := 3) h (by decide) (by decide) (by omega) (by omega) (by omega) (by simp only [xLen]; omega) (by simp only [xLen]; omega) (fun _ => by omega) ?_
  rw [cpy_putV, q_side h (by omega), el, q_on h (by omega) (by omega) (by omega), el, q_kindOf hp]
  simp (discharger := omega) only [nlit, iI_lit, iI_add, iI_sub, iI_mul, iI_neg, bI_z, bI_o, i10, i01, eq_self, bI_nar, nar_0, nar_1, bI_t, bI_f, Option.some.injEq, exists_eq_left', true_and, and_true, forall_eq, not_true_eq_false, not_false_eq_true, forall_const, false_implies, true_implies, Classical.not_not, if_true, if_false, Int.reduceEq, Int.reduceLT, Int.reduceLE, Int.reduceGT, Int.reduceGE, Int.reduceAdd, Int.reduceSub, Int.reduceMul, Int.reduceNeg, Int.reduceNe, Bool.true_and, Bool.and_true, Bool.false_and, Bool.and_false, BEq.rfl, Bool.true_eq_false, Bool.false_eq_true, iI_eq, wp_X12_makes_57]
  by_cases c1 : kindO (lv m l a) = 6
  · simp (discharger := omega) only [nlit, iI_lit, iI_add, iI_sub, iI_mul, iI_neg, bI_z, bI_o, i10, i01, eq_self, bI_nar, nar_0, nar_1, bI_t, bI_f, Option.some.injEq, exists_eq_left', true_and, and_true, forall_eq, not_true_eq_false, not_false_eq_true, forall_const, false_implies, true_implies, Classical.not_not, if_true, if_false, Int.reduceEq, Int.reduceLT, Int.reduceLE, Int.reduceGT, Int.reduceGE, Int.reduceAdd, Int.reduceSub, Int.reduceMul, Int.reduceNeg, Int.reduceNe, Bool.true_and, Bool.and_true, Bool.false_and, Bool.and_false, BEq.rfl, Bool.true_eq_false, Bool.false_eq_true, c1]
    refine q_takes h hB1 (by omega) (by rw [el]; exact hv) (by omega) (by omega) ?_
    rw [el]
    simp only [eq_true c1, decide_true] at k2
    try simp (discharger := omega) only [nlit, iI_lit, iI_add, iI_sub, iI_mul, iI_neg, bI_z, bI_o, i10, i01, eq_self, bI_nar, nar_0, nar_1, bI_t, bI_f, Option.some.injEq, exists_eq_left', true_and, and_true, forall_eq, not_true_eq_false, not_false_eq_true, forall_const, false_implies, true_implies, Classical.not_not, if_true, if_false, Int.reduceEq, Int.reduceLT, Int.reduceLE, Int.reduceGT, Int.reduceGE, Int.reduceAdd, Int.reduceSub, Int.reduceMul, Int.reduceNeg, Int.reduceNe, Bool.true_and, Bool.and_true, Bool.false_and, Bool.and_false, BEq.rfl, Bool.true_eq_false, Bool.false_eq_true]
    cases c2 : takesB F (lv m l) a b
    · rw [show mk1 F (lv m l) a b = lv m l from if_neg (by rintro ⟨-, z, -⟩; rw [c2] at z; cases z)] at k2
      try simp (discharger := omega) only [nlit, iI_lit, iI_add, iI_sub, iI_mul, iI_neg, bI_z, bI_o, i10, i01, eq_self, bI_nar, nar_0, nar_1, bI_t, bI_f, Option.some.injEq, exists_eq_left', true_and, and_true, forall_eq, not_true_eq_false, not_false_eq_true, forall_const, false_implies, true_implies, Classical.not_not, if_true, if_false, Int.reduceEq, Int.reduceLT, Int.reduceLE, Int.reduceGT, Int.reduceGE, Int.reduceAdd, Int.reduceSub, Int.reduceMul, Int.reduceNeg, Int.reduceNe, Bool.true_and, Bool.and_true, Bool.false_and, Bool.and_false, BEq.rfl, Bool.true_eq_false, Bool.false_eq_true]
      exact k2
    · simp (discharger := omega) only [nlit, iI_lit, iI_add, iI_sub, iI_mul, iI_neg, bI_z, bI_o, i10, i01, eq_self, bI_nar, nar_0, nar_1, bI_t, bI_f, Option.some.injEq, exists_eq_left', true_and, and_true, forall_eq, not_true_eq_false, not_false_eq_true, forall_const, false_implies, true_implies, Classical.not_not, if_true, if_false, Int.reduceEq, Int.reduceLT, Int.reduceLE, Int.reduceGT, Int.reduceGE, Int.reduceAdd, Int.reduceSub, Int.reduceMul, Int.reduceNeg, Int.reduceNe, Bool.true_and, Bool.and_true, Bool.false_and, Bool.and_false, BEq.rfl, Bool.true_eq_false, Bool.false_eq_true]
      rw [q_on h (by omega) (by omega) (by omega), el]
      simp (discharger := omega) only [nlit, iI_lit, iI_add, iI_sub, iI_mul, iI_neg, bI_z, bI_o, i10, i01, eq_self, bI_nar, nar_0, nar_1, bI_t, bI_f, Option.some.injEq, exists_eq_left', true_and, and_true, forall_eq, not_true_eq_false, not_false_eq_true, forall_const, false_implies, true_implies, Classical.not_not, if_true, if_false, Int.reduceEq, Int.reduceLT, Int.reduceLE, Int.reduceGT, Int.reduceGE, Int.reduceAdd, Int.reduceSub, Int.reduceMul, Int.reduceNeg, Int.reduceNe, Bool.true_and, Bool.and_true, Bool.false_and, Bool.and_false, BEq.rfl, Bool.true_eq_false, Bool.false_eq_true, iI_eq]
      by_cases c3 : lv m l b = 0
      · rw [show mk1 F (lv m l) a b = upV (lv m l) (F * (a / F) + b % F) 0 from if_pos ⟨c1, c2, c3⟩] at k2
        simp (discharger := omega) only [nlit, iI_lit, iI_add, iI_sub, iI_mul, iI_neg, bI_z, bI_o, i10, i01, eq_self, bI_nar, nar_0, nar_1, bI_t, bI_f, Option.some.injEq, exists_eq_left', true_and, and_true, forall_eq, not_true_eq_false, not_false_eq_true, forall_const, false_implies, true_implies, Classical.not_not, if_true, if_false, Int.reduceEq, Int.reduceLT, Int.reduceLE, Int.reduceGT, Int.reduceGE, Int.reduceAdd, Int.reduceSub, Int.reduceMul, Int.reduceNeg, Int.reduceNe, Bool.true_and, Bool.and_true, Bool.false_and, Bool.and_false, BEq.rfl, Bool.true_eq_false, Bool.false_eq_true, c3]
        rw [q_rankOf hB1 (by omega), q_fileOf hB1 (by omega)]
        simp (discharger := omega) only [nlit, iI_lit, iI_add, iI_sub, iI_mul, iI_neg, bI_z, bI_o, i10, i01, eq_self, bI_nar, nar_0, nar_1, bI_t, bI_f, Option.some.injEq, exists_eq_left', true_and, and_true, forall_eq, not_true_eq_false, not_false_eq_true, forall_const, false_implies, true_implies, Classical.not_not, if_true, if_false, Int.reduceEq, Int.reduceLT, Int.reduceLE, Int.reduceGT, Int.reduceGE, Int.reduceAdd, Int.reduceSub, Int.reduceMul, Int.reduceNeg, Int.reduceNe, Bool.true_and, Bool.and_true, Bool.false_and, Bool.and_false, BEq.rfl, Bool.true_eq_false, Bool.false_eq_true, hB1.sf]
        rw [q_lay h (by omega) (by omega)]
        exact k2
      · rw [show mk1 F (lv m l) a b = lv m l from if_neg (by rintro ⟨-, -, z⟩; exact c3 z)] at k2
        simp (discharger := omega) only [nlit, iI_lit, iI_add, iI_sub, iI_mul, iI_neg, bI_z, bI_o, i10, i01, eq_self, bI_nar, nar_0, nar_1, bI_t, bI_f, Option.some.injEq, exists_eq_left', true_and, and_true, forall_eq, not_true_eq_false, not_false_eq_true, forall_const, false_implies, true_implies, Classical.not_not, if_true, if_false, Int.reduceEq, Int.reduceLT, Int.reduceLE, Int.reduceGT, Int.reduceGE, Int.reduceAdd, Int.reduceSub, Int.reduceMul, Int.reduceNeg, Int.reduceNe, Bool.true_and, Bool.and_true, Bool.false_and, Bool.and_false, BEq.rfl, Bool.true_eq_false, Bool.false_eq_true, c3]
        exact k2
  · rw [show mk1 F (lv m l) a b = lv m l from if_neg (by rintro ⟨z, -⟩; exact c1 z)] at k2
    simp only [eq_false c1, decide_false] at k2
    simp (discharger := omega) only [nlit, iI_lit, iI_add, iI_sub, iI_mul, iI_neg, bI_z, bI_o, i10, i01, eq_self, bI_nar, nar_0, nar_1, bI_t, bI_f, Option.some.injEq, exists_eq_left', true_and, and_true, forall_eq, not_true_eq_false, not_false_eq_true, forall_const, false_implies, true_implies, Classical.not_not, if_true, if_false, Int.reduceEq, Int.reduceLT, Int.reduceLE, Int.reduceGT, Int.reduceGE, Int.reduceAdd, Int.reduceSub, Int.reduceMul, Int.reduceNeg, Int.reduceNe, Bool.true_and, Bool.and_true, Bool.false_and, Bool.and_false, BEq.rfl, Bool.true_eq_false, Bool.false_eq_true, c1]
    exact k2
end
