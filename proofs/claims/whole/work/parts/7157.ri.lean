section
variable {D : wD} {S : wS} {x : Nat} {A : Nat → Nat} {m : xM} {F R : Int} {post : Int32 → wS → Prop}
theorem EO.en {E : Int → Int} (h : EO E) : EN (put41 m E) := fun i a b => by rw [put41_at]; exact h i a b
theorem q_fn_42 (h : XC D S x A) (hB : XB m F R) (h25 : F * R ≤ 25) {k18 : wS → Nat → Int32 → Int32 → Int32 → Int32 → Int32 → Prop} {k30 : wS → Nat → Int32 → Int32 → Int32 → Int32 → Int32 → Int32 → Prop} {kd q its w b : Int} (hkd : 2 ≤ kd ∧ kd ≤ 5) (hq : 0 ≤ q ∧ q ≤ 40000) (hi : its = 0 ∨ its = 1) (hw : 0 ≤ w ∧ w < F * R) (hb : 0 ≤ b ∧ b < F * R) :
    ∀ (n d : Nat) (p : Int) (t : (Int → Int) × Bool), d < n → p + d = F * R → 0 ≤ p → EO t.1 →
    (∀ u, u = runL (fun p => fnP F (F * R) kd q its w b p) p d t → EO u.1 → k30 (xS S x A (put41 m u.1)) x (iI kd) (iI q) (iI (bI u.2)) (iI its) (iI w) (iI (b + 1))) →
    wp_X12_finds_42 D post k18 k30 n (xS S x A (put41 m t.1)) x (iI kd) (iI q) (iI (bI t.2)) (iI its) (iI w) (iI b) (iI p) := by
  have hn := hB.n
  intro n
  induction n with
  | zero => intro d p t hd; omega
  | succ n ih =>
    intro d p t hd hj h0 hE k
    unfold wp_X12_finds_42
    rw [q_squares (hB.p41 t.1)]
    simp (discharger := omega) only [nlit, iI_lit, iI_add, iI_sub, iI_mul, iI_neg, bI_z, bI_o, i10, i01, eq_self, bI_nar, nar_0, nar_1, bI_t, bI_f, Option.some.injEq, exists_eq_left', true_and, and_true, forall_eq, not_true_eq_false, not_false_eq_true, forall_const, false_implies, true_implies, Classical.not_not, if_true, if_false, Int.reduceEq, Int.reduceLT, Int.reduceLE, Int.reduceGT, Int.reduceGE, Int.reduceAdd, Int.reduceSub, Int.reduceMul, Int.reduceNeg, Int.reduceNe, Bool.true_and, Bool.and_true, Bool.false_and, Bool.and_false, BEq.rfl, Bool.true_eq_false, Bool.false_eq_true, iI_le]
    cases d with
    | zero =>
      have c : F * R ≤ p := by omega
      simp (discharger := omega) only [nlit, iI_lit, iI_add, iI_sub, iI_mul, iI_neg, bI_z, bI_o, i10, i01, eq_self, bI_nar, nar_0, nar_1, bI_t, bI_f, Option.some.injEq, exists_eq_left', true_and, and_true, forall_eq, not_true_eq_false, not_false_eq_true, forall_const, false_implies, true_implies, Classical.not_not, if_true, if_false, Int.reduceEq, Int.reduceLT, Int.reduceLE, Int.reduceGT, Int.reduceGE, Int.reduceAdd, Int.reduceSub, Int.reduceMul, Int.reduceNeg, Int.reduceNe, Bool.true_and, Bool.and_true, Bool.false_and, Bool.and_false, BEq.rfl, Bool.true_eq_false, Bool.false_eq_true, c]
      exact k t rfl hE
    | succ d =>
      have c : ¬ F * R ≤ p := by omega
      have v : 0 ≤ vlIx kd its w b p ∧ vlIx kd its w b p < 125000 := by unfold vlIx; omega
      have iv : vp_in (iI (vlIx kd its w b p)) 125000 := iI_in (by omega) (by omega) (by omega)
      have Ev := hE _ v.1 v.2
      simp (discharger := omega) only [nlit, iI_lit, iI_add, iI_sub, iI_mul, iI_neg, bI_z, bI_o, i10, i01, eq_self, bI_nar, nar_0, nar_1, bI_t, bI_f, Option.some.injEq, exists_eq_left', true_and, and_true, forall_eq, not_true_eq_false, not_false_eq_true, forall_const, false_implies, true_implies, Classical.not_not, if_true, if_false, Int.reduceEq, Int.reduceLT, Int.reduceLE, Int.reduceGT, Int.reduceGE, Int.reduceAdd, Int.reduceSub, Int.reduceMul, Int.reduceNeg, Int.reduceNe, Bool.true_and, Bool.and_true, Bool.false_and, Bool.and_false, BEq.rfl, Bool.true_eq_false, Bool.false_eq_true, c]
      rw [q_valueAt]
      simp (discharger := first | decide | omega) only [x_own h, x_kd h, x_r h, x_m h, x_l h, x_k h, x_n h, x_i0, x_i h, x_u0 h, x_u h, xLen, xKd, nlit, iI_lit, iI_add, iI_sub, iI_mul, iI_neg, bI_z, bI_o, i10, i01, eq_self, bI_nar, nar_0, nar_1, up_at, up_f, Option.some.injEq, exists_eq_left', true_and, and_true, forall_eq, not_true_eq_false, not_false_eq_true, forall_const, false_implies, true_implies, Classical.not_not, if_true, if_false, Int.reduceEq, Int.reduceLT, Int.reduceLE, Int.reduceGT, Int.reduceGE, Int.reduceAdd, Int.reduceSub, Int.reduceMul, Int.reduceNeg, Int.reduceNe, eq_true iv]
      rw [put41_at, iI_eq (by omega) (by omega) (by decide) (by decide)]
      have stay : fnP F (F * R) kd q its w b p t = t → wp_X12_finds_126 D post k18 k30 (wp_X12_finds_42 D post k18 k30 n) (xS S x A (put41 m t.1)) x (iI kd) (iI q) (iI (bI t.2)) (iI its) (iI w) (iI b) (iI p) := fun z => by
        simp (discharger := omega) only [nlit, iI_lit, iI_add, iI_sub, iI_mul, iI_neg, bI_z, bI_o, i10, i01, eq_self, bI_nar, nar_0, nar_1, bI_t, bI_f, Option.some.injEq, exists_eq_left', true_and, and_true, forall_eq, not_true_eq_false, not_false_eq_true, forall_const, false_implies, true_implies, Classical.not_not, if_true, if_false, Int.reduceEq, Int.reduceLT, Int.reduceLE, Int.reduceGT, Int.reduceGE, Int.reduceAdd, Int.reduceSub, Int.reduceMul, Int.reduceNeg, Int.reduceNe, Bool.true_and, Bool.and_true, Bool.false_and, Bool.and_false, BEq.rfl, Bool.true_eq_false, Bool.false_eq_true, wp_X12_finds_126]
        refine ih d (p + 1) t (by omega) (by omega) (by omega) hE (fun u hu hE' => k u ?_ hE')
        rw [hu]
        show runL _ (p + 1) d t = runL _ (p + 1) d (fnP F (F * R) kd q its w b p t)
        rw [z]
      have set : fnP F (F * R) kd q its w b p t = (upE t.1 (vlIx kd its w b p) q, true) → wp_X12_finds_116 D post k18 k30 (wp_X12_finds_42 D post k18 k30 n) (xS S x A (put41 m t.1)) x (iI kd) (iI q) (iI its) (iI w) (iI b) (iI p) (iI (vlIx kd its w b p)) := fun z => by
        unfold wp_X12_finds_116
        simp (discharger := first | decide | omega) only [x_own h, x_kd h, x_r h, x_m h, x_l h, x_k h, x_n h, x_i0, x_i h, x_u0 h, x_u h, xLen, xKd, nlit, iI_lit, iI_add, iI_sub, iI_mul, iI_neg, bI_z, bI_o, i10, i01, eq_self, bI_nar, nar_0, nar_1, up_at, up_f, Option.some.injEq, exists_eq_left', true_and, and_true, forall_eq, not_true_eq_false, not_false_eq_true, forall_const, false_implies, true_implies, Classical.not_not, if_true, if_false, Int.reduceEq, Int.reduceLT, Int.reduceLE, Int.reduceGT, Int.reduceGE, Int.reduceAdd, Int.reduceSub, Int.reduceMul, Int.reduceNeg, Int.reduceNe, eq_true iv]
        rw [put41_up]
        simp (discharger := omega) only [nlit, iI_lit, iI_add, iI_sub, iI_mul, iI_neg, bI_z, bI_o, i10, i01, eq_self, bI_nar, nar_0, nar_1, bI_t, bI_f, Option.some.injEq, exists_eq_left', true_and, and_true, forall_eq, not_true_eq_false, not_false_eq_true, forall_const, false_implies, true_implies, Classical.not_not, if_true, if_false, Int.reduceEq, Int.reduceLT, Int.reduceLE, Int.reduceGT, Int.reduceGE, Int.reduceAdd, Int.reduceSub, Int.reduceMul, Int.reduceNeg, Int.reduceNe, Bool.true_and, Bool.and_true, Bool.false_and, Bool.and_false, BEq.rfl, Bool.true_eq_false, Bool.false_eq_true, wp_X12_finds_126]
        refine ih d (p + 1) (upE t.1 (vlIx kd its w b p) q, true) (by omega) (by omega) (by omega) (hE.up (by omega)) (fun u hu hE' => k u ?_ hE')
        rw [hu]
        show runL _ (p + 1) d _ = runL _ (p + 1) d (fnP F (F * R) kd q its w b p t)
        rw [z]
      unfold fnP at stay set
      by_cases z : t.1 (vlIx kd its w b p) = -1
      · simp (discharger := omega) only [nlit, iI_lit, iI_add, iI_sub, iI_mul, iI_neg, bI_z, bI_o, i10, i01, eq_self, bI_nar, nar_0, nar_1, bI_t, bI_f, Option.some.injEq, exists_eq_left', true_and, and_true, forall_eq, not_true_eq_false, not_false_eq_true, forall_const, false_implies, true_implies, Classical.not_not, if_true, if_false, Int.reduceEq, Int.reduceLT, Int.reduceLE, Int.reduceGT, Int.reduceGE, Int.reduceAdd, Int.reduceSub, Int.reduceMul, Int.reduceNeg, Int.reduceNe, Bool.true_and, Bool.and_true, Bool.false_and, Bool.and_false, BEq.rfl, Bool.true_eq_false, Bool.false_eq_true, z]
        rcases hi with rfl | rfl
        · rw [if_pos rfl] at stay set
          simp (discharger := omega) only [nlit, iI_lit, iI_add, iI_sub, iI_mul, iI_neg, bI_z, bI_o, i10, i01, eq_self, bI_nar, nar_0, nar_1, bI_t, bI_f, Option.some.injEq, exists_eq_left', true_and, and_true, forall_eq, not_true_eq_false, not_false_eq_true, forall_const, false_implies, true_implies, Classical.not_not, if_true, if_false, Int.reduceEq, Int.reduceLT, Int.reduceLE, Int.reduceGT, Int.reduceGE, Int.reduceAdd, Int.reduceSub, Int.reduceMul, Int.reduceNeg, Int.reduceNe, Bool.true_and, Bool.and_true, Bool.false_and, Bool.and_false, BEq.rfl, Bool.true_eq_false, Bool.false_eq_true]
          refine q_reaches h (hB.p41 t.1) h25 hE.en hkd hw hb ⟨h0, by omega⟩ (by omega) ?_
          rw [put41_at]
          cases y : rchB F (F * R) kd w b p (q - 1) t.1
          · simp (discharger := omega) only [nlit, iI_lit, iI_add, iI_sub, iI_mul, iI_neg, bI_z, bI_o, i10, i01, eq_self, bI_nar, nar_0, nar_1, bI_t, bI_f, Option.some.injEq, exists_eq_left', true_and, and_true, forall_eq, not_true_eq_false, not_false_eq_true, forall_const, false_implies, true_implies, Classical.not_not, if_true, if_false, Int.reduceEq, Int.reduceLT, Int.reduceLE, Int.reduceGT, Int.reduceGE, Int.reduceAdd, Int.reduceSub, Int.reduceMul, Int.reduceNeg, Int.reduceNe, Bool.true_and, Bool.and_true, Bool.false_and, Bool.and_false, BEq.rfl, Bool.true_eq_false, Bool.false_eq_true]
            exact stay (if_neg (by rw [y]; simp))
          · simp (discharger := omega) only [nlit, iI_lit, iI_add, iI_sub, iI_mul, iI_neg, bI_z, bI_o, i10, i01, eq_self, bI_nar, nar_0, nar_1, bI_t, bI_f, Option.some.injEq, exists_eq_left', true_and, and_true, forall_eq, not_true_eq_false, not_false_eq_true, forall_const, false_implies, true_implies, Classical.not_not, if_true, if_false, Int.reduceEq, Int.reduceLT, Int.reduceLE, Int.reduceGT, Int.reduceGE, Int.reduceAdd, Int.reduceSub, Int.reduceMul, Int.reduceNeg, Int.reduceNe, Bool.true_and, Bool.and_true, Bool.false_and, Bool.and_false, BEq.rfl, Bool.true_eq_false, Bool.false_eq_true]
            exact set (if_pos ⟨z, y⟩)
        · have n10 : ¬ ((1 : Int) = 0) := by decide
          simp only [n10, if_false] at stay set
          simp (discharger := omega) only [nlit, iI_lit, iI_add, iI_sub, iI_mul, iI_neg, bI_z, bI_o, i10, i01, eq_self, bI_nar, nar_0, nar_1, bI_t, bI_f, Option.some.injEq, exists_eq_left', true_and, and_true, forall_eq, not_true_eq_false, not_false_eq_true, forall_const, false_implies, true_implies, Classical.not_not, if_true, if_false, Int.reduceEq, Int.reduceLT, Int.reduceLE, Int.reduceGT, Int.reduceGE, Int.reduceAdd, Int.reduceSub, Int.reduceMul, Int.reduceNeg, Int.reduceNe, Bool.true_and, Bool.and_true, Bool.false_and, Bool.and_false, BEq.rfl, Bool.true_eq_false, Bool.false_eq_true]
          refine q_lasts h (hB.p41 t.1) h25 hE.en hkd hw hb ⟨h0, by omega⟩ ?_
          rw [put41_at]
          have lr := lstB_r (F := F) hE hkd hw hb (p := p) ⟨h0, by omega⟩ h25
          rw [iI_eq (by omega) (by omega) (by omega) (by omega)]
          by_cases y : lstB F (F * R) kd w b p t.1 = q
          · simp (discharger := omega) only [nlit, iI_lit, iI_add, iI_sub, iI_mul, iI_neg, bI_z, bI_o, i10, i01, eq_self, bI_nar, nar_0, nar_1, bI_t, bI_f, Option.some.injEq, exists_eq_left', true_and, and_true, forall_eq, not_true_eq_false, not_false_eq_true, forall_const, false_implies, true_implies, Classical.not_not, if_true, if_false, Int.reduceEq, Int.reduceLT, Int.reduceLE, Int.reduceGT, Int.reduceGE, Int.reduceAdd, Int.reduceSub, Int.reduceMul, Int.reduceNeg, Int.reduceNe, Bool.true_and, Bool.and_true, Bool.false_and, Bool.and_false, BEq.rfl, Bool.true_eq_false, Bool.false_eq_true, y]
            exact set (if_pos ⟨z, decide_eq_true y⟩)
          · simp (discharger := omega) only [nlit, iI_lit, iI_add, iI_sub, iI_mul, iI_neg, bI_z, bI_o, i10, i01, eq_self, bI_nar, nar_0, nar_1, bI_t, bI_f, Option.some.injEq, exists_eq_left', true_and, and_true, forall_eq, not_true_eq_false, not_false_eq_true, forall_const, false_implies, true_implies, Classical.not_not, if_true, if_false, Int.reduceEq, Int.reduceLT, Int.reduceLE, Int.reduceGT, Int.reduceGE, Int.reduceAdd, Int.reduceSub, Int.reduceMul, Int.reduceNeg, Int.reduceNe, Bool.true_and, Bool.and_true, Bool.false_and, Bool.and_false, BEq.rfl, Bool.true_eq_false, Bool.false_eq_true, y]
            exact stay (if_neg (by simp [y]))
      · simp (discharger := omega) only [nlit, iI_lit, iI_add, iI_sub, iI_mul, iI_neg, bI_z, bI_o, i10, i01, eq_self, bI_nar, nar_0, nar_1, bI_t, bI_f, Option.some.injEq, exists_eq_left', true_and, and_true, forall_eq, not_true_eq_false, not_false_eq_true, forall_const, false_implies, true_implies, Classical.not_not, if_true, if_false, Int.reduceEq, Int.reduceLT, Int.reduceLE, Int.reduceGT, Int.reduceGE, Int.reduceAdd, Int.reduceSub, Int.reduceMul, Int.reduceNeg, Int.reduceNe, Bool.true_and, Bool.and_true, Bool.false_and, Bool.and_false, BEq.rfl, Bool.true_eq_false, Bool.false_eq_true, z]
        exact stay (if_neg (fun y => z y.1))
theorem q_fn_30 (h : XC D S x A) (hB : XB m F R) (h25 : F * R ≤ 25) {k18 : wS → Nat → Int32 → Int32 → Int32 → Int32 → Int32 → Prop} {kd q its w : Int} (hkd : 2 ≤ kd ∧ kd ≤ 5) (hq : 0 ≤ q ∧ q ≤ 40000) (hi : its = 0 ∨ its = 1) (hw : 0 ≤ w ∧ w < F * R) :
    ∀ (n d : Nat) (b : Int) (t : (Int → Int) × Bool), d < n → b + d = F * R → 0 ≤ b → EO t.1 →
    (∀ u, u = runL (fun b => runL (fun p => fnP F (F * R) kd q its w b p) 0 (F * R).toNat) b d t → EO u.1 → k18 (xS S x A (put41 m u.1)) x (iI kd) (iI q) (iI (bI u.2)) (iI its) (iI (w + 1))) →
    wp_X12_finds_30 D post k18 n (xS S x A (put41 m t.1)) x (iI kd) (iI q) (iI (bI t.2)) (iI its) (iI w) (iI b) := by
  have hn := hB.n
  intro n
  induction n with
  | zero => intro d b t hd; omega
  | succ n ih =>
    intro d b t hd hj h0 hE k
    unfold wp_X12_finds_30
    rw [q_squares (hB.p41 t.1)]
    simp (discharger := omega) only [nlit, iI_lit, iI_add, iI_sub, iI_mul, iI_neg, bI_z, bI_o, i10, i01, eq_self, bI_nar, nar_0, nar_1, bI_t, bI_f, Option.some.injEq, exists_eq_left', true_and, and_true, forall_eq, not_true_eq_false, not_false_eq_true, forall_const, false_implies, true_implies, Classical.not_not, if_true, if_false, Int.reduceEq, Int.reduceLT, Int.reduceLE, Int.reduceGT, Int.reduceGE, Int.reduceAdd, Int.reduceSub, Int.reduceMul, Int.reduceNeg, Int.reduceNe, Bool.true_and, Bool.and_true, Bool.false_and, Bool.and_false, BEq.rfl, Bool.true_eq_false, Bool.false_eq_true, iI_le]
    cases d with
    | zero =>
      have c : F * R ≤ b := by omega
      simp (discharger := omega) only [nlit, iI_lit, iI_add, iI_sub, iI_mul, iI_neg, bI_z, bI_o, i10, i01, eq_self, bI_nar, nar_0, nar_1, bI_t, bI_f, Option.some.injEq, exists_eq_left', true_and, and_true, forall_eq, not_true_eq_false, not_false_eq_true, forall_const, false_implies, true_implies, Classical.not_not, if_true, if_false, Int.reduceEq, Int.reduceLT, Int.reduceLE, Int.reduceGT, Int.reduceGE, Int.reduceAdd, Int.reduceSub, Int.reduceMul, Int.reduceNeg, Int.reduceNe, Bool.true_and, Bool.and_true, Bool.false_and, Bool.and_false, BEq.rfl, Bool.true_eq_false, Bool.false_eq_true, c]
      exact k t rfl hE
    | succ d =>
      have c : ¬ F * R ≤ b := by omega
      simp (discharger := omega) only [nlit, iI_lit, iI_add, iI_sub, iI_mul, iI_neg, bI_z, bI_o, i10, i01, eq_self, bI_nar, nar_0, nar_1, bI_t, bI_f, Option.some.injEq, exists_eq_left', true_and, and_true, forall_eq, not_true_eq_false, not_false_eq_true, forall_const, false_implies, true_implies, Classical.not_not, if_true, if_false, Int.reduceEq, Int.reduceLT, Int.reduceLE, Int.reduceGT, Int.reduceGE, Int.reduceAdd, Int.reduceSub, Int.reduceMul, Int.reduceNeg, Int.reduceNe, Bool.true_and, Bool.and_true, Bool.false_and, Bool.and_false, BEq.rfl, Bool.true_eq_false, Bool.false_eq_true, c]
      refine ⟨66, q_fn_42 h hB h25 hkd hq hi hw ⟨h0, by omega⟩ 66 (F * R).toNat 0 t (by omega) (by omega) (by decide) hE (fun u hu hE' => ?_)⟩
      refine ih d (b + 1) u (by omega) (by omega) (by omega) hE' (fun u' hu' hE2 => k u' ?_ hE2)
      rw [hu', hu]; rfl
theorem q_fn_18 (h : XC D S x A) (hB : XB m F R) (h25 : F * R ≤ 25) {kd q its : Int} (hkd : 2 ≤ kd ∧ kd ≤ 5) (hq : 0 ≤ q ∧ q ≤ 40000) (hi : its = 0 ∨ its = 1) :
    ∀ (n d : Nat) (w : Int) (t : (Int → Int) × Bool), d < n → w + d = F * R → 0 ≤ w → EO t.1 →
    (∀ u, u = runL (fun w => runL (fun b => runL (fun p => fnP F (F * R) kd q its w b p) 0 (F * R).toNat) 0 (F * R).toNat) w d t → EO u.1 → post (iI (bI u.2)) (xS S x A (put41 m u.1))) →
    wp_X12_finds_18 D post n (xS S x A (put41 m t.1)) x (iI kd) (iI q) (iI (bI t.2)) (iI its) (iI w) := by
  have hn := hB.n
  intro n
  induction n with
  | zero => intro d w t hd; omega
  | succ n ih =>
    intro d w t hd hj h0 hE k
    unfold wp_X12_finds_18
    rw [q_squares (hB.p41 t.1)]
    simp (discharger := omega) only [nlit, iI_lit, iI_add, iI_sub, iI_mul, iI_neg, bI_z, bI_o, i10, i01, eq_self, bI_nar, nar_0, nar_1, bI_t, bI_f, Option.some.injEq, exists_eq_left', true_and, and_true, forall_eq, not_true_eq_false, not_false_eq_true, forall_const, false_implies, true_implies, Classical.not_not, if_true, if_false, Int.reduceEq, Int.reduceLT, Int.reduceLE, Int.reduceGT, Int.reduceGE, Int.reduceAdd, Int.reduceSub, Int.reduceMul, Int.reduceNeg, Int.reduceNe, Bool.true_and, Bool.and_true, Bool.false_and, Bool.and_false, BEq.rfl, Bool.true_eq_false, Bool.false_eq_true, iI_le]
    cases d with
    | zero =>
      have c : F * R ≤ w := by omega
      simp (discharger := omega) only [nlit, iI_lit, iI_add, iI_sub, iI_mul, iI_neg, bI_z, bI_o, i10, i01, eq_self, bI_nar, nar_0, nar_1, bI_t, bI_f, Option.some.injEq, exists_eq_left', true_and, and_true, forall_eq, not_true_eq_false, not_false_eq_true, forall_const, false_implies, true_implies, Classical.not_not, if_true, if_false, Int.reduceEq, Int.reduceLT, Int.reduceLE, Int.reduceGT, Int.reduceGE, Int.reduceAdd, Int.reduceSub, Int.reduceMul, Int.reduceNeg, Int.reduceNe, Bool.true_and, Bool.and_true, Bool.false_and, Bool.and_false, BEq.rfl, Bool.true_eq_false, Bool.false_eq_true, c]
      exact k t rfl hE
    | succ d =>
      have c : ¬ F * R ≤ w := by omega
      simp (discharger := omega) only [nlit, iI_lit, iI_add, iI_sub, iI_mul, iI_neg, bI_z, bI_o, i10, i01, eq_self, bI_nar, nar_0, nar_1, bI_t, bI_f, Option.some.injEq, exists_eq_left', true_and, and_true, forall_eq, not_true_eq_false, not_false_eq_true, forall_const, false_implies, true_implies, Classical.not_not, if_true, if_false, Int.reduceEq, Int.reduceLT, Int.reduceLE, Int.reduceGT, Int.reduceGE, Int.reduceAdd, Int.reduceSub, Int.reduceMul, Int.reduceNeg, Int.reduceNe, Bool.true_and, Bool.and_true, Bool.false_and, Bool.and_false, BEq.rfl, Bool.true_eq_false, Bool.false_eq_true, c]
      refine ⟨66, q_fn_30 h hB h25 hkd hq hi ⟨h0, by omega⟩ 66 (F * R).toNat 0 t (by omega) (by omega) (by decide) hE (fun u hu hE' => ?_)⟩
      refine ih d (w + 1) u (by omega) (by omega) (by omega) hE' (fun u' hu' hE2 => k u' ?_ hE2)
      rw [hu', hu]; rfl
theorem q_finds (h : XC D S x A) (hB : XB m F R) (h25 : F * R ≤ 25) {kd q : Int} (hkd : 2 ≤ kd ∧ kd ≤ 5) (hq : 0 ≤ q ∧ q ≤ 40000) (E : Int → Int) (hE : EO E)
    (k : ∀ u, u = fndE F (F * R) kd q E → EO u.1 → post (iI (bI u.2)) (xS S x A (put41 m u.1))) : wp_X12_finds D post (xS S x A (put41 m E)) x (iI kd) (iI q) := by
  have hn := hB.n
  have e20 : (iI 2 = iI 0) = False := eq_false (by decide)
  simp (discharger := omega) only [nlit, iI_lit, iI_add, iI_sub, iI_mul, iI_neg, bI_z, bI_o, i10, i01, eq_self, bI_nar, nar_0, nar_1, bI_t, bI_f, Option.some.injEq, exists_eq_left', true_and, and_true, forall_eq, not_true_eq_false, not_false_eq_true, forall_const, false_implies, true_implies, Classical.not_not, if_true, if_false, Int.reduceEq, Int.reduceLT, Int.reduceLE, Int.reduceGT, Int.reduceGE, Int.reduceAdd, Int.reduceSub, Int.reduceMul, Int.reduceNeg, Int.reduceNe, Bool.true_and, Bool.and_true, Bool.false_and, Bool.and_false, BEq.rfl, Bool.true_eq_false, Bool.false_eq_true, wp_X12_finds, wp_X12_finds_0, e20]
  rw [iI_rem (by omega) (by omega) (by omega) (by omega), iI_eq (by omega) (by omega) (by decide) (by decide)]
  have k13 : ∀ its : Int, its = (if q % 2 = 0 then 1 else 0) → wp_X12_finds_13 D post (xS S x A (put41 m E)) x (iI kd) (iI q) (iI 0) (iI its) := by
    intro its hi
    unfold wp_X12_finds_13
    have := q_fn_18 (post := post) h hB h25 hkd hq (its := its) (by rw [hi]; split <;> simp) 66 (F * R).toNat 0 (E, false) (by omega) (by omega) (by decide) hE (fun u hu hE' => k u (by rw [hu, hi]; rfl) hE')
    exact ⟨66, this⟩
  by_cases c : q % 2 = 0
  · simp (discharger := omega) only [nlit, iI_lit, iI_add, iI_sub, iI_mul, iI_neg, bI_z, bI_o, i10, i01, eq_self, bI_nar, nar_0, nar_1, bI_t, bI_f, Option.some.injEq, exists_eq_left', true_and, and_true, forall_eq, not_true_eq_false, not_false_eq_true, forall_const, false_implies, true_implies, Classical.not_not, if_true, if_false, Int.reduceEq, Int.reduceLT, Int.reduceLE, Int.reduceGT, Int.reduceGE, Int.reduceAdd, Int.reduceSub, Int.reduceMul, Int.reduceNeg, Int.reduceNe, Bool.true_and, Bool.and_true, Bool.false_and, Bool.and_false, BEq.rfl, Bool.true_eq_false, Bool.false_eq_true, c]
    exact k13 1 (by rw [if_pos c])
  · simp (discharger := omega) only [nlit, iI_lit, iI_add, iI_sub, iI_mul, iI_neg, bI_z, bI_o, i10, i01, eq_self, bI_nar, nar_0, nar_1, bI_t, bI_f, Option.some.injEq, exists_eq_left', true_and, and_true, forall_eq, not_true_eq_false, not_false_eq_true, forall_const, false_implies, true_implies, Classical.not_not, if_true, if_false, Int.reduceEq, Int.reduceLT, Int.reduceLE, Int.reduceGT, Int.reduceGE, Int.reduceAdd, Int.reduceSub, Int.reduceMul, Int.reduceNeg, Int.reduceNe, Bool.true_and, Bool.and_true, Bool.false_and, Bool.and_false, BEq.rfl, Bool.true_eq_false, Bool.false_eq_true, c]
    exact k13 0 (by rw [if_neg c])
end
