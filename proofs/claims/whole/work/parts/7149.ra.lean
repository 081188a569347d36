section
variable {D : wD} {S : wS} {x : Nat} {A : Nat → Nat} {m m0 : xM} {F R : Int} {post : Int32 → wS → Prop} {GP : (Int → Int) → Prop} {v0 : Int → Int}
theorem RSq.mono {p q : Int} {s : RD} (h : RSq F R GP v0 m0 m p s) (hq : p ≤ q) : RSq F R GP v0 m0 m q s :=
  ⟨h.1, h.2.1, h.2.2.1, fun l a b => by have gl := h.2.2.2.1 l a b; exact ⟨gl.1, gl.2.1, gl.2.2.1, ⟨gl.2.2.2.1.1, Int.le_trans gl.2.2.2.1.2 (by omega)⟩, gl.2.2.2.2⟩, h.2.2.2.2⟩
theorem q_standsBracket (h : XC D S x A) {len a p c : Int} (h5 : len ≤ 500) (ha : 0 ≤ a ∧ a < len) {s : RD} (hp : p ≤ a) (hR : RSq F R GP v0 m0 m p s) (hc : 0 ≤ c ∧ c ≤ 255)
    (kn : brkS c s = none → ∀ m', SIM m0 m' → m' 50 0 = m0 50 0 → K24 m m' → post (iI 0) (xS S x A m'))
    (ks : ∀ s1, brkS c s = some s1 → c = 40 ∨ c = 41 ∨ c = 123 → ∀ m', RSq F R GP v0 m0 m' (a + 1) s1 → K24 m m' → post (iI 1) (xS S x A m')) (hcb : brkB c = true) : wp_X12_standsBracket D post (xS S x A m) x (iI c) := by
  have hR' := hR
  obtain ⟨s1, s2, s3, s4, s5, s6, s7, s8⟩ := hR
  have kz : K24 m m := ⟨rfl, rfl, rfl⟩
  have kno : brkS c s = none → post (iI 0) (xS S x A m) := fun q => kn q m s1.1 s1.2 kz
  have z29 : m 50 29 = bI s.2.2.2.2.2.2.2 := s3.2.2
  have z28 : m 50 28 = bI s.2.2.2.2.2.2.1 := s3.2.1
  have z27 : m 50 27 = s.1 := s2.1
  have gs := s4 s.1 s2.2.1 (by omega)
  have gsr := gs.2.2.2.1
  have id : vp_in (iI s.1) 10 := iI_in (by omega) (by omega) (by omega)
  unfold brkS at kn ks kno
  unfold wp_X12_standsBracket wp_X12_standsBracket_0
  simp (discharger := first | decide | omega) only [x_own h, x_kd h, x_r h, x_m h, x_l h, x_k h, x_n h, x_i0, x_i h, x_u0 h, x_u h, xLen, xKd, nlit, iI_lit, iI_add, iI_sub, iI_mul, iI_neg, bI_z, bI_o, i10, i01, eq_self, bI_nar, nar_0, nar_1, up_at, up_f, Option.some.injEq, exists_eq_left', true_and, and_true, forall_eq, not_true_eq_false, not_false_eq_true, forall_const, false_implies, true_implies, Classical.not_not, if_true, if_false, Int.reduceEq, Int.reduceLT, Int.reduceLE, Int.reduceGT, Int.reduceGE, Int.reduceAdd, Int.reduceSub, Int.reduceMul, Int.reduceNeg, Int.reduceNe, z29, z28, z27]
  cases cen : s.2.2.2.2.2.2.2
  · try simp (discharger := omega) only [nlit, iI_lit, iI_add, iI_sub, iI_mul, iI_neg, bI_z, bI_o, i10, i01, eq_self, bI_nar, nar_0, nar_1, bI_t, bI_f, Option.some.injEq, exists_eq_left', true_and, and_true, forall_eq, not_true_eq_false, not_false_eq_true, forall_const, false_implies, true_implies, Classical.not_not, if_true, if_false, Int.reduceEq, Int.reduceLT, Int.reduceLE, Int.reduceGT, Int.reduceGE, Int.reduceAdd, Int.reduceSub, Int.reduceMul, Int.reduceNeg, Int.reduceNe, Bool.true_and, Bool.and_true, Bool.false_and, Bool.and_false, BEq.rfl, Bool.true_eq_false, Bool.false_eq_true]
    cases cnu : s.2.2.2.2.2.2.1
    · try simp (discharger := omega) only [nlit, iI_lit, iI_add, iI_sub, iI_mul, iI_neg, bI_z, bI_o, i10, i01, eq_self, bI_nar, nar_0, nar_1, bI_t, bI_f, Option.some.injEq, exists_eq_left', true_and, and_true, forall_eq, not_true_eq_false, not_false_eq_true, forall_const, false_implies, true_implies, Classical.not_not, if_true, if_false, Int.reduceEq, Int.reduceLT, Int.reduceLE, Int.reduceGT, Int.reduceGE, Int.reduceAdd, Int.reduceSub, Int.reduceMul, Int.reduceNeg, Int.reduceNe, Bool.true_and, Bool.and_true, Bool.false_and, Bool.and_false, BEq.rfl, Bool.true_eq_false, Bool.false_eq_true]
      simp (discharger := first | decide | omega) only [x_own h, x_kd h, x_r h, x_m h, x_l h, x_k h, x_n h, x_i0, x_i h, x_u0 h, x_u h, xLen, xKd, nlit, iI_lit, iI_add, iI_sub, iI_mul, iI_neg, bI_z, bI_o, i10, i01, eq_self, bI_nar, nar_0, nar_1, up_at, up_f, Option.some.injEq, exists_eq_left', true_and, and_true, forall_eq, not_true_eq_false, not_false_eq_true, forall_const, false_implies, true_implies, Classical.not_not, if_true, if_false, Int.reduceEq, Int.reduceLT, Int.reduceLE, Int.reduceGT, Int.reduceGE, Int.reduceAdd, Int.reduceSub, Int.reduceMul, Int.reduceNeg, Int.reduceNe, eq_true id]
      rw [gs.2.2.1, iI_eq (by omega) (by omega) (by decide) (by decide)]
      by_cases c0 : s.2.2.2.1 s.1 = 0
      · simp (discharger := omega) only [nlit, iI_lit, iI_add, iI_sub, iI_mul, iI_neg, bI_z, bI_o, i10, i01, eq_self, bI_nar, nar_0, nar_1, bI_t, bI_f, Option.some.injEq, exists_eq_left', true_and, and_true, forall_eq, not_true_eq_false, not_false_eq_true, forall_const, false_implies, true_implies, Classical.not_not, if_true, if_false, Int.reduceEq, Int.reduceLT, Int.reduceLE, Int.reduceGT, Int.reduceGE, Int.reduceAdd, Int.reduceSub, Int.reduceMul, Int.reduceNeg, Int.reduceNe, Bool.true_and, Bool.and_true, Bool.false_and, Bool.and_false, BEq.rfl, Bool.true_eq_false, Bool.false_eq_true, c0, wp_X12_standsBracket_32]
        exact kno (if_pos (Or.inr (Or.inr (Or.inl c0))))
      · simp (discharger := omega) only [nlit, iI_lit, iI_add, iI_sub, iI_mul, iI_neg, bI_z, bI_o, i10, i01, eq_self, bI_nar, nar_0, nar_1, bI_t, bI_f, Option.some.injEq, exists_eq_left', true_and, and_true, forall_eq, not_true_eq_false, not_false_eq_true, forall_const, false_implies, true_implies, Classical.not_not, if_true, if_false, Int.reduceEq, Int.reduceLT, Int.reduceLE, Int.reduceGT, Int.reduceGE, Int.reduceAdd, Int.reduceSub, Int.reduceMul, Int.reduceNeg, Int.reduceNe, Bool.true_and, Bool.and_true, Bool.false_and, Bool.and_false, BEq.rfl, Bool.true_eq_false, Bool.false_eq_true, c0, iI_eq]
        by_cases c125 : c = 125
        · simp (discharger := omega) only [nlit, iI_lit, iI_add, iI_sub, iI_mul, iI_neg, bI_z, bI_o, i10, i01, eq_self, bI_nar, nar_0, nar_1, bI_t, bI_f, Option.some.injEq, exists_eq_left', true_and, and_true, forall_eq, not_true_eq_false, not_false_eq_true, forall_const, false_implies, true_implies, Classical.not_not, if_true, if_false, Int.reduceEq, Int.reduceLT, Int.reduceLE, Int.reduceGT, Int.reduceGE, Int.reduceAdd, Int.reduceSub, Int.reduceMul, Int.reduceNeg, Int.reduceNe, Bool.true_and, Bool.and_true, Bool.false_and, Bool.and_false, BEq.rfl, Bool.true_eq_false, Bool.false_eq_true, c125, wp_X12_standsBracket_32]
          exact kno (if_pos (Or.inr (Or.inr (Or.inr c125))))
        · have nn : ¬ (s.2.2.2.2.2.2.2 = true ∨ s.2.2.2.2.2.2.1 = true ∨ s.2.2.2.1 s.1 = 0 ∨ c = 125) := by rw [cen, cnu]; simp [c0, c125]
          rw [if_neg nn] at kn ks kno
          simp (discharger := omega) only [nlit, iI_lit, iI_add, iI_sub, iI_mul, iI_neg, bI_z, bI_o, i10, i01, eq_self, bI_nar, nar_0, nar_1, bI_t, bI_f, Option.some.injEq, exists_eq_left', true_and, and_true, forall_eq, not_true_eq_false, not_false_eq_true, forall_const, false_implies, true_implies, Classical.not_not, if_true, if_false, Int.reduceEq, Int.reduceLT, Int.reduceLE, Int.reduceGT, Int.reduceGE, Int.reduceAdd, Int.reduceSub, Int.reduceMul, Int.reduceNeg, Int.reduceNe, Bool.true_and, Bool.and_true, Bool.false_and, Bool.and_false, BEq.rfl, Bool.true_eq_false, Bool.false_eq_true, c125]
          by_cases c41 : c = 41
          · rw [if_pos c41] at kn ks kno
            simp (discharger := omega) only [nlit, iI_lit, iI_add, iI_sub, iI_mul, iI_neg, bI_z, bI_o, i10, i01, eq_self, bI_nar, nar_0, nar_1, bI_t, bI_f, Option.some.injEq, exists_eq_left', true_and, and_true, forall_eq, not_true_eq_false, not_false_eq_true, forall_const, false_implies, true_implies, Classical.not_not, if_true, if_false, Int.reduceEq, Int.reduceLT, Int.reduceLE, Int.reduceGT, Int.reduceGE, Int.reduceAdd, Int.reduceSub, Int.reduceMul, Int.reduceNeg, Int.reduceNe, Bool.true_and, Bool.and_true, Bool.false_and, Bool.and_false, BEq.rfl, Bool.true_eq_false, Bool.false_eq_true, c41]
            simp (discharger := omega) only [nlit, iI_lit, iI_add, iI_sub, iI_mul, iI_neg, bI_z, bI_o, i10, i01, eq_self, bI_nar, nar_0, nar_1, bI_t, bI_f, Option.some.injEq, exists_eq_left', true_and, and_true, forall_eq, not_true_eq_false, not_false_eq_true, forall_const, false_implies, true_implies, Classical.not_not, if_true, if_false, Int.reduceEq, Int.reduceLT, Int.reduceLE, Int.reduceGT, Int.reduceGE, Int.reduceAdd, Int.reduceSub, Int.reduceMul, Int.reduceNeg, Int.reduceNe, Bool.true_and, Bool.and_true, Bool.false_and, Bool.and_false, BEq.rfl, Bool.true_eq_false, Bool.false_eq_true, iI_lt]
            have k7 : K24 m (up m 50 27 (s.1 - 1)) := ⟨up_ne _ (Or.inr (by decide)), up_ne _ (Or.inr (by decide)), up_ne _ (Or.inr (by decide))⟩
            by_cases z : s.1 = 0
            · have : s.1 - 1 < 0 := by omega
              simp (discharger := omega) only [nlit, iI_lit, iI_add, iI_sub, iI_mul, iI_neg, bI_z, bI_o, i10, i01, eq_self, bI_nar, nar_0, nar_1, bI_t, bI_f, Option.some.injEq, exists_eq_left', true_and, and_true, forall_eq, not_true_eq_false, not_false_eq_true, forall_const, false_implies, true_implies, Classical.not_not, if_true, if_false, Int.reduceEq, Int.reduceLT, Int.reduceLE, Int.reduceGT, Int.reduceGE, Int.reduceAdd, Int.reduceSub, Int.reduceMul, Int.reduceNeg, Int.reduceNe, Bool.true_and, Bool.and_true, Bool.false_and, Bool.and_false, BEq.rfl, Bool.true_eq_false, Bool.false_eq_true, this, wp_X12_standsBracket_62]
              exact kn (if_pos z) _ (s1.1.up rfl) (by rw [up_ne _ (Or.inr (by decide))]; exact s1.2) k7
            · have : ¬ s.1 - 1 < 0 := by omega
              rw [if_neg z] at ks
              simp (discharger := omega) only [nlit, iI_lit, iI_add, iI_sub, iI_mul, iI_neg, bI_z, bI_o, i10, i01, eq_self, bI_nar, nar_0, nar_1, bI_t, bI_f, Option.some.injEq, exists_eq_left', true_and, and_true, forall_eq, not_true_eq_false, not_false_eq_true, forall_const, false_implies, true_implies, Classical.not_not, if_true, if_false, Int.reduceEq, Int.reduceLT, Int.reduceLE, Int.reduceGT, Int.reduceGE, Int.reduceAdd, Int.reduceSub, Int.reduceMul, Int.reduceNeg, Int.reduceNe, Bool.true_and, Bool.and_true, Bool.false_and, Bool.and_false, BEq.rfl, Bool.true_eq_false, Bool.false_eq_true, this, wp_X12_standsBracket_62]
              refine ks _ rfl (Or.inr (Or.inl c41)) _ ⟨⟨s1.1.up rfl, by rw [up_ne _ (Or.inr (by decide))]; exact s1.2⟩, ⟨up_at _ _ _ _, by dsimp only; omega⟩, ⟨by rw [up_ne _ (Or.inr (by decide))]; exact s3.1, by rw [up_ne _ (Or.inr (by decide))]; exact s3.2.1, by rw [up_ne _ (Or.inr (by decide))]; exact s3.2.2⟩, fun l a b => ?_, ?_, s6, s7, s8⟩ k7
              · dsimp only at b
                rw [vec_row (up_r _ _ _ rfl), vec_row (up_r _ _ _ rfl), up_f _ _ _ _ rfl]
                have gl := s4 l a (by omega)
                exact ⟨gl.1, gl.2.1, gl.2.2.1, ⟨gl.2.2.2.1.1, Int.le_trans gl.2.2.2.1.2 (by omega)⟩, gl.2.2.2.2⟩
              · rw [up_r _ _ _ rfl]; exact s5
          · rw [if_neg c41] at kn ks kno
            simp (discharger := omega) only [nlit, iI_lit, iI_add, iI_sub, iI_mul, iI_neg, bI_z, bI_o, i10, i01, eq_self, bI_nar, nar_0, nar_1, bI_t, bI_f, Option.some.injEq, exists_eq_left', true_and, and_true, forall_eq, not_true_eq_false, not_false_eq_true, forall_const, false_implies, true_implies, Classical.not_not, if_true, if_false, Int.reduceEq, Int.reduceLT, Int.reduceLE, Int.reduceGT, Int.reduceGE, Int.reduceAdd, Int.reduceSub, Int.reduceMul, Int.reduceNeg, Int.reduceNe, Bool.true_and, Bool.and_true, Bool.false_and, Bool.and_false, BEq.rfl, Bool.true_eq_false, Bool.false_eq_true, c41]
            by_cases c40 : c = 40
            · rw [if_pos c40] at kn ks kno
              simp (discharger := omega) only [nlit, iI_lit, iI_add, iI_sub, iI_mul, iI_neg, bI_z, bI_o, i10, i01, eq_self, bI_nar, nar_0, nar_1, bI_t, bI_f, Option.some.injEq, exists_eq_left', true_and, and_true, forall_eq, not_true_eq_false, not_false_eq_true, forall_const, false_implies, true_implies, Classical.not_not, if_true, if_false, Int.reduceEq, Int.reduceLT, Int.reduceLE, Int.reduceGT, Int.reduceGE, Int.reduceAdd, Int.reduceSub, Int.reduceMul, Int.reduceNeg, Int.reduceNe, Bool.true_and, Bool.and_true, Bool.false_and, Bool.and_false, BEq.rfl, Bool.true_eq_false, Bool.false_eq_true, c40, iI_le]
              by_cases z : s.1 < 4
              · have z4 : ¬ 4 ≤ s.1 := by omega
                rw [if_pos z] at ks
                simp (discharger := omega) only [nlit, iI_lit, iI_add, iI_sub, iI_mul, iI_neg, bI_z, bI_o, i10, i01, eq_self, bI_nar, nar_0, nar_1, bI_t, bI_f, Option.some.injEq, exists_eq_left', true_and, and_true, forall_eq, not_true_eq_false, not_false_eq_true, forall_const, false_implies, true_implies, Classical.not_not, if_true, if_false, Int.reduceEq, Int.reduceLT, Int.reduceLE, Int.reduceGT, Int.reduceGE, Int.reduceAdd, Int.reduceSub, Int.reduceMul, Int.reduceNeg, Int.reduceNe, Bool.true_and, Bool.and_true, Bool.false_and, Bool.and_false, BEq.rfl, Bool.true_eq_false, Bool.false_eq_true, z4]
                refine q_copies (f := 21) (g := 20) h (by decide) (by decide) (by omega) (by omega) (by omega) (by simp only [xLen]; omega) (by simp only [xLen]; omega) (fun e => by cases e) ?_
                generalize hm1 : cpy m 21 (67 * s.1) 20 (67 * (s.1 + 1)) 67 = m1
                have e1 : ∀ r, (r == 20) = false → m1 r = m r := fun r e => by rw [← hm1]; exact cpy_r m e
                have v20 : ∀ l, vec m1 20 (67 * l) = if l = s.1 + 1 then s.2.2.1 s.1 else vec m 20 (67 * l) := fun l => by
                  by_cases q : l = s.1 + 1
                  · rw [if_pos q, q, ← (gs.2.2.2.2 c0).1]
                    funext j
                    unfold vec
                    by_cases y : 0 ≤ j ∧ j < 67
                    · rw [if_pos y, if_pos y, ← hm1, cpy_at _ (by omega) (by omega)]; congr 1; omega
                    · rw [if_neg y, if_neg y]
                  · rw [if_neg q]
                    funext j
                    unfold vec
                    by_cases y : 0 ≤ j ∧ j < 67
                    · rw [if_pos y, if_pos y, ← hm1, cpy_out _ (by omega)]
                    · rw [if_neg y, if_neg y]
                simp (discharger := first | decide | omega) only [x_own h, x_kd h, x_r h, x_m h, x_l h, x_k h, x_n h, x_i0, x_i h, x_u0 h, x_u h, xLen, xKd, nlit, iI_lit, iI_add, iI_sub, iI_mul, iI_neg, bI_z, bI_o, i10, i01, eq_self, bI_nar, nar_0, nar_1, up_at, up_f, Option.some.injEq, exists_eq_left', true_and, and_true, forall_eq, not_true_eq_false, not_false_eq_true, forall_const, false_implies, true_implies, Classical.not_not, if_true, if_false, Int.reduceEq, Int.reduceLT, Int.reduceLE, Int.reduceGT, Int.reduceGE, Int.reduceAdd, Int.reduceSub, Int.reduceMul, Int.reduceNeg, Int.reduceNe]
                rw [show m1 50 27 = s.1 by rw [e1 50 rfl]; exact s2.1]
                have id1 : vp_in (iI (s.1 + 1)) 10 := iI_in (by omega) (by omega) (by omega)
                try simp (discharger := omega) only [nlit, iI_lit, iI_add, iI_sub, iI_mul, iI_neg, bI_z, bI_o, i10, i01, eq_self, bI_nar, nar_0, nar_1, bI_t, bI_f, Option.some.injEq, exists_eq_left', true_and, and_true, forall_eq, not_true_eq_false, not_false_eq_true, forall_const, false_implies, true_implies, Classical.not_not, if_true, if_false, Int.reduceEq, Int.reduceLT, Int.reduceLE, Int.reduceGT, Int.reduceGE, Int.reduceAdd, Int.reduceSub, Int.reduceMul, Int.reduceNeg, Int.reduceNe, Bool.true_and, Bool.and_true, Bool.false_and, Bool.and_false, BEq.rfl, Bool.true_eq_false, Bool.false_eq_true]
                simp (discharger := first | decide | omega) only [x_own h, x_kd h, x_r h, x_m h, x_l h, x_k h, x_n h, x_i0, x_i h, x_u0 h, x_u h, xLen, xKd, nlit, iI_lit, iI_add, iI_sub, iI_mul, iI_neg, bI_z, bI_o, i10, i01, eq_self, bI_nar, nar_0, nar_1, up_at, up_f, Option.some.injEq, exists_eq_left', true_and, and_true, forall_eq, not_true_eq_false, not_false_eq_true, forall_const, false_implies, true_implies, Classical.not_not, if_true, if_false, Int.reduceEq, Int.reduceLT, Int.reduceLE, Int.reduceGT, Int.reduceGE, Int.reduceAdd, Int.reduceSub, Int.reduceMul, Int.reduceNeg, Int.reduceNe, eq_true id1]
                have e5 : ∀ j : Int, j ≠ 27 → up (up m1 50 27 (s.1 + 1)) 22 (s.1 + 1) 0 50 j = m 50 j := fun j q => by rw [up_f _ _ _ _ rfl, up_ne _ (Or.inr q), e1 50 rfl]
                refine ks _ rfl (Or.inl c40) _ ⟨⟨fun r j hk => ?_, ?_⟩, ⟨?_, by dsimp only; omega⟩, ⟨?_, ?_, ?_⟩, fun l a b => ?_, ?_, ?_, s7, ?_⟩ ⟨?_, ?_, ?_⟩
                · rw [up_ne _ (Or.inl (by rintro rfl; cases hk)), up_ne _ (by by_cases q : r = 50 ∧ j = 27; rw [q.1, q.2] at hk; cases hk; omega), e1 r (by cases e : r == 20 with | false => rfl | true => have := eq_of_beq e; subst this; cases hk)]
                  exact s1.1 r j hk
                · rw [e5 _ (by decide)]; exact s1.2
                · rw [up_f _ _ _ _ rfl, up_at]
                · rw [e5 _ (by decide)]; exact s3.1
                · rw [e5 _ (by decide)]; exact s3.2.1
                · rw [e5 _ (by decide)]; exact s3.2.2
                · dsimp only at b ⊢
                  rw [vec_row (up_r _ _ _ rfl), vec_row (up_r _ _ _ rfl), vec_row (up_r _ _ _ rfl), vec_row (up_r _ _ _ rfl), v20, vec_row (e1 21 rfl)]
                  by_cases q : l = s.1 + 1
                  · rw [if_pos q, q, setR_at, setR_at, up_at]
                    exact ⟨rfl, (gs.2.2.2.2 c0).2, rfl, by omega, fun z => absurd rfl z⟩
                  · rw [if_neg q, setR_ne _ _ q, setR_ne _ _ q, up_ne _ (Or.inr q), up_f _ _ _ _ rfl, e1 22 rfl]
                    have gl := s4 l a (by omega)
                    exact ⟨gl.1, gl.2.1, gl.2.2.1, ⟨gl.2.2.2.1.1, Int.le_trans gl.2.2.2.1.2 (by omega)⟩, gl.2.2.2.2⟩
                · rw [up_r _ _ _ rfl, up_r _ _ _ rfl, e1 23 rfl]; exact s5
                · dsimp only; rw [setR_ne _ _ (by omega)]; exact s6
                · dsimp only; rw [setR_ne _ _ (by omega)]; exact s8
                · exact e5 _ (by decide)
                · exact e5 _ (by decide)
                · exact e5 _ (by decide)
              · have z4 : 4 ≤ s.1 := by omega
                have e123 : (iI 40 = iI 123) = False := eq_false (by decide)
                simp (discharger := omega) only [nlit, iI_lit, iI_add, iI_sub, iI_mul, iI_neg, bI_z, bI_o, i10, i01, eq_self, bI_nar, nar_0, nar_1, bI_t, bI_f, Option.some.injEq, exists_eq_left', true_and, and_true, forall_eq, not_true_eq_false, not_false_eq_true, forall_const, false_implies, true_implies, Classical.not_not, if_true, if_false, Int.reduceEq, Int.reduceLT, Int.reduceLE, Int.reduceGT, Int.reduceGE, Int.reduceAdd, Int.reduceSub, Int.reduceMul, Int.reduceNeg, Int.reduceNe, Bool.true_and, Bool.and_true, Bool.false_and, Bool.and_false, BEq.rfl, Bool.true_eq_false, Bool.false_eq_true, z4, wp_X12_standsBracket_128, wp_X12_standsBracket_139, e123]
                exact kno (if_neg z)
            · rw [if_neg c40] at kn ks kno
              have c123 : c = 123 := by unfold brkB at hcb; simp [c40, c41, c125] at hcb; exact hcb
              simp (discharger := omega) only [nlit, iI_lit, iI_add, iI_sub, iI_mul, iI_neg, bI_z, bI_o, i10, i01, eq_self, bI_nar, nar_0, nar_1, bI_t, bI_f, Option.some.injEq, exists_eq_left', true_and, and_true, forall_eq, not_true_eq_false, not_false_eq_true, forall_const, false_implies, true_implies, Classical.not_not, if_true, if_false, Int.reduceEq, Int.reduceLT, Int.reduceLE, Int.reduceGT, Int.reduceGE, Int.reduceAdd, Int.reduceSub, Int.reduceMul, Int.reduceNeg, Int.reduceNe, Bool.true_and, Bool.and_true, Bool.false_and, Bool.and_false, BEq.rfl, Bool.true_eq_false, Bool.false_eq_true, c40, wp_X12_standsBracket_128, wp_X12_standsBracket_139, iI_eq, c123]
              exact ks s rfl (Or.inr (Or.inr c123)) m (RSq.mono hR' (by omega)) kz
    · simp (discharger := omega) only [nlit, iI_lit, iI_add, iI_sub, iI_mul, iI_neg, bI_z, bI_o, i10, i01, eq_self, bI_nar, nar_0, nar_1, bI_t, bI_f, Option.some.injEq, exists_eq_left', true_and, and_true, forall_eq, not_true_eq_false, not_false_eq_true, forall_const, false_implies, true_implies, Classical.not_not, if_true, if_false, Int.reduceEq, Int.reduceLT, Int.reduceLE, Int.reduceGT, Int.reduceGE, Int.reduceAdd, Int.reduceSub, Int.reduceMul, Int.reduceNeg, Int.reduceNe, Bool.true_and, Bool.and_true, Bool.false_and, Bool.and_false, BEq.rfl, Bool.true_eq_false, Bool.false_eq_true, wp_X12_standsBracket_32]
      exact kno (if_pos (Or.inr (Or.inl cnu)))
  · simp (discharger := omega) only [nlit, iI_lit, iI_add, iI_sub, iI_mul, iI_neg, bI_z, bI_o, i10, i01, eq_self, bI_nar, nar_0, nar_1, bI_t, bI_f, Option.some.injEq, exists_eq_left', true_and, and_true, forall_eq, not_true_eq_false, not_false_eq_true, forall_const, false_implies, true_implies, Classical.not_not, if_true, if_false, Int.reduceEq, Int.reduceLT, Int.reduceLE, Int.reduceGT, Int.reduceGE, Int.reduceAdd, Int.reduceSub, Int.reduceMul, Int.reduceNeg, Int.reduceNe, Bool.true_and, Bool.and_true, Bool.false_and, Bool.and_false, BEq.rfl, Bool.true_eq_false, Bool.false_eq_true, wp_X12_standsBracket_32]
    exact kno (if_pos (Or.inl cen))
theorem wEnd_r (t : Int → Int) (len : Int) : ∀ (n : Nat) (a : Int), a ≤ len → a ≤ wEnd t len n a ∧ wEnd t len n a ≤ len := by
  intro n
  induction n with
  | zero => intro a h; unfold wEnd; omega
  | succ n ih => intro a h; unfold wEnd; split; omega; have := ih (a + 1) (by omega); omega
theorem nEnd_r (t : Int → Int) (len : Int) : ∀ (n : Nat) (a : Int), a ≤ len → a ≤ nEnd t len n a ∧ nEnd t len n a ≤ len := by
  intro n
  induction n with
  | zero => intro a h; unfold nEnd; omega
  | succ n ih => intro a h; unfold nEnd; split; omega; have := ih (a + 1) (by omega); omega
theorem RSq.at {p : Int} {s : RD} (h : RSq F R GP v0 m0 m p s) {j : Int} (hj : j = 24 ∨ j = 25) (v : Int) : RSq F R GP v0 m0 (up m 50 j v) p s := by
  have hk : kpB 50 j = false := by rcases hj with rfl | rfl <;> rfl
  have e : ∀ i : Int, i ≠ j → up m 50 j v 50 i = m 50 i := fun i q => up_ne _ (Or.inr q)
  refine ⟨⟨h.1.1.up hk, by rw [e _ (by omega)]; exact h.1.2⟩, ⟨by rw [e _ (by omega)]; exact h.2.1.1, h.2.1.2⟩, ⟨by rw [e _ (by omega)]; exact h.2.2.1.1, by rw [e _ (by omega)]; exact h.2.2.1.2.1, by rw [e _ (by omega)]; exact h.2.2.1.2.2⟩, fun l a b => ?_, ?_, h.2.2.2.2.2⟩
  · rw [vec_row (up_r _ _ _ rfl), vec_row (up_r _ _ _ rfl), up_f _ _ _ _ rfl]; exact h.2.2.2.1 l a b
  · rw [up_r _ _ _ rfl]; exact h.2.2.2.2.1
/-- the end of a note -/
theorem q_sN_130 (h : XC D S x A) {t : Int → Int} {len : Int} : ∀ (n d : Nat) (a : Int) (m : xM), d < n → a + d = len → 0 ≤ a → len ≤ 500 → TX m t len → m 50 24 = a → m 50 13 = len →
    (∀ m', (∃ w, m' = up m 50 24 w) → m' 50 24 = nEnd t len d a → wp_X12_standsNext_168 D post (xS S x A m') x) → wp_X12_standsNext_130 D post n (xS S x A m) x := by
  intro n
  induction n with
  | zero => intro d a m hd; omega
  | succ n ih =>
    intro d a m hd hj h0 h5 hx e24 e13 k
    unfold wp_X12_standsNext_130
    simp (discharger := first | decide | omega) only [x_own h, x_kd h, x_r h, x_m h, x_l h, x_k h, x_n h, x_i0, x_i h, x_u0 h, x_u h, xLen, xKd, nlit, iI_lit, iI_add, iI_sub, iI_mul, iI_neg, bI_z, bI_o, i10, i01, eq_self, bI_nar, nar_0, nar_1, up_at, up_f, Option.some.injEq, exists_eq_left', true_and, and_true, forall_eq, not_true_eq_false, not_false_eq_true, forall_const, false_implies, true_implies, Classical.not_not, if_true, if_false, Int.reduceEq, Int.reduceLT, Int.reduceLE, Int.reduceGT, Int.reduceGE, Int.reduceAdd, Int.reduceSub, Int.reduceMul, Int.reduceNeg, Int.reduceNe]
    rw [show m 50 24 = a from e24, show m 50 13 = len from e13, iI_le (by omega) (by omega) (by omega) (by omega)]
    have self : ∃ w, m = up m 50 24 w := ⟨m 50 24, by
      funext r j
      unfold up
      split
      · next q => rw [q.1, q.2]
      · rfl⟩
    cases d with
    | zero =>
      have c : len ≤ a := by omega
      simp (discharger := omega) only [nlit, iI_lit, iI_add, iI_sub, iI_mul, iI_neg, bI_z, bI_o, i10, i01, eq_self, bI_nar, nar_0, nar_1, bI_t, bI_f, Option.some.injEq, exists_eq_left', true_and, and_true, forall_eq, not_true_eq_false, not_false_eq_true, forall_const, false_implies, true_implies, Classical.not_not, if_true, if_false, Int.reduceEq, Int.reduceLT, Int.reduceLE, Int.reduceGT, Int.reduceGE, Int.reduceAdd, Int.reduceSub, Int.reduceMul, Int.reduceNeg, Int.reduceNe, Bool.true_and, Bool.and_true, Bool.false_and, Bool.and_false, BEq.rfl, Bool.true_eq_false, Bool.false_eq_true, c]
      exact k m self e24
    | succ d =>
      have c : ¬ len ≤ a := by omega
      have ia : vp_in (iI a) 500 := iI_in (by omega) (by omega) (by omega)
      have ta := hx.2 a h0 (by omega)
      unfold nEnd at k
      simp (discharger := omega) only [nlit, iI_lit, iI_add, iI_sub, iI_mul, iI_neg, bI_z, bI_o, i10, i01, eq_self, bI_nar, nar_0, nar_1, bI_t, bI_f, Option.some.injEq, exists_eq_left', true_and, and_true, forall_eq, not_true_eq_false, not_false_eq_true, forall_const, false_implies, true_implies, Classical.not_not, if_true, if_false, Int.reduceEq, Int.reduceLT, Int.reduceLE, Int.reduceGT, Int.reduceGE, Int.reduceAdd, Int.reduceSub, Int.reduceMul, Int.reduceNeg, Int.reduceNe, Bool.true_and, Bool.and_true, Bool.false_and, Bool.and_false, BEq.rfl, Bool.true_eq_false, Bool.false_eq_true, c]
      simp (discharger := first | decide | omega) only [x_own h, x_kd h, x_r h, x_m h, x_l h, x_k h, x_n h, x_i0, x_i h, x_u0 h, x_u h, xLen, xKd, nlit, iI_lit, iI_add, iI_sub, iI_mul, iI_neg, bI_z, bI_o, i10, i01, eq_self, bI_nar, nar_0, nar_1, up_at, up_f, Option.some.injEq, exists_eq_left', true_and, and_true, forall_eq, not_true_eq_false, not_false_eq_true, forall_const, false_implies, true_implies, Classical.not_not, if_true, if_false, Int.reduceEq, Int.reduceLT, Int.reduceLE, Int.reduceGT, Int.reduceGE, Int.reduceAdd, Int.reduceSub, Int.reduceMul, Int.reduceNeg, Int.reduceNe, eq_true ia]
      rw [ta.1, iI_eq (by omega) (by omega) (by decide) (by decide)]
      by_cases z : t a = 125
      · rw [if_pos (Or.inr z)] at k
        simp (discharger := omega) only [nlit, iI_lit, iI_add, iI_sub, iI_mul, iI_neg, bI_z, bI_o, i10, i01, eq_self, bI_nar, nar_0, nar_1, bI_t, bI_f, Option.some.injEq, exists_eq_left', true_and, and_true, forall_eq, not_true_eq_false, not_false_eq_true, forall_const, false_implies, true_implies, Classical.not_not, if_true, if_false, Int.reduceEq, Int.reduceLT, Int.reduceLE, Int.reduceGT, Int.reduceGE, Int.reduceAdd, Int.reduceSub, Int.reduceMul, Int.reduceNeg, Int.reduceNe, Bool.true_and, Bool.and_true, Bool.false_and, Bool.and_false, BEq.rfl, Bool.true_eq_false, Bool.false_eq_true, z]
        exact k m self e24
      · rw [if_neg (by omega)] at k
        simp (discharger := omega) only [nlit, iI_lit, iI_add, iI_sub, iI_mul, iI_neg, bI_z, bI_o, i10, i01, eq_self, bI_nar, nar_0, nar_1, bI_t, bI_f, Option.some.injEq, exists_eq_left', true_and, and_true, forall_eq, not_true_eq_false, not_false_eq_true, forall_const, false_implies, true_implies, Classical.not_not, if_true, if_false, Int.reduceEq, Int.reduceLT, Int.reduceLE, Int.reduceGT, Int.reduceGE, Int.reduceAdd, Int.reduceSub, Int.reduceMul, Int.reduceNeg, Int.reduceNe, Bool.true_and, Bool.and_true, Bool.false_and, Bool.and_false, BEq.rfl, Bool.true_eq_false, Bool.false_eq_true, z]
        refine ih d (a + 1) _ (by omega) (by omega) (by omega) h5 (hx.row (up_r _ _ _ rfl)) (up_at _ _ _ _) (by rw [up_ne _ (Or.inr (by decide))]; exact e13) (fun m' ⟨w, hw⟩ q => k m' ⟨w, by rw [hw, up_up]⟩ q)
/-- the end of a word -/
theorem q_sN_25 (h : XC D S x A) {t : Int → Int} {len c b : Int} (hc : 0 ≤ c ∧ c ≤ 255) (hb : brkB c = false) : ∀ (n d : Nat) (a : Int) (m : xM), d < n → a + d = len → 0 ≤ a → len ≤ 500 → TX m t len → m 50 24 = a → m 50 13 = len →
    (∀ m', (∃ w, m' = up m 50 24 w) → m' 50 24 = wEnd t len d a → wp_X12_standsNext_85 D post (xS S x A m') x (iI b) (iI c)) → wp_X12_standsNext_25 D post n (xS S x A m) x (iI b) (iI c) := by
  intro n
  induction n with
  | zero => intro d a m hd; omega
  | succ n ih =>
    intro d a m hd hj h0 h5 hx e24 e13 k
    have self : ∃ w, m = up m 50 24 w := ⟨m 50 24, by
      funext r j
      unfold up
      split
      · next q => rw [q.1, q.2]
      · rfl⟩
    unfold wp_X12_standsNext_25
    refine q_isBracket (by omega) ?_
    rw [hb]
    simp (discharger := first | decide | omega) only [x_own h, x_kd h, x_r h, x_m h, x_l h, x_k h, x_n h, x_i0, x_i h, x_u0 h, x_u h, xLen, xKd, nlit, iI_lit, iI_add, iI_sub, iI_mul, iI_neg, bI_z, bI_o, i10, i01, eq_self, bI_nar, nar_0, nar_1, up_at, up_f, Option.some.injEq, exists_eq_left', true_and, and_true, forall_eq, not_true_eq_false, not_false_eq_true, forall_const, false_implies, true_implies, Classical.not_not, if_true, if_false, Int.reduceEq, Int.reduceLT, Int.reduceLE, Int.reduceGT, Int.reduceGE, Int.reduceAdd, Int.reduceSub, Int.reduceMul, Int.reduceNeg, Int.reduceNe]
    rw [show m 50 24 = a from e24, show m 50 13 = len from e13, iI_le (by omega) (by omega) (by omega) (by omega)]
    cases d with
    | zero =>
      have c : len ≤ a := by omega
      simp (discharger := omega) only [nlit, iI_lit, iI_add, iI_sub, iI_mul, iI_neg, bI_z, bI_o, i10, i01, eq_self, bI_nar, nar_0, nar_1, bI_t, bI_f, Option.some.injEq, exists_eq_left', true_and, and_true, forall_eq, not_true_eq_false, not_false_eq_true, forall_const, false_implies, true_implies, Classical.not_not, if_true, if_false, Int.reduceEq, Int.reduceLT, Int.reduceLE, Int.reduceGT, Int.reduceGE, Int.reduceAdd, Int.reduceSub, Int.reduceMul, Int.reduceNeg, Int.reduceNe, Bool.true_and, Bool.and_true, Bool.false_and, Bool.and_false, BEq.rfl, Bool.true_eq_false, Bool.false_eq_true, c]
      exact k m self e24
    | succ d =>
      have c : ¬ len ≤ a := by omega
      have ia : vp_in (iI a) 500 := iI_in (by omega) (by omega) (by omega)
      have ta := hx.2 a h0 (by omega)
      unfold wEnd at k
      simp (discharger := omega) only [nlit, iI_lit, iI_add, iI_sub, iI_mul, iI_neg, bI_z, bI_o, i10, i01, eq_self, bI_nar, nar_0, nar_1, bI_t, bI_f, Option.some.injEq, exists_eq_left', true_and, and_true, forall_eq, not_true_eq_false, not_false_eq_true, forall_const, false_implies, true_implies, Classical.not_not, if_true, if_false, Int.reduceEq, Int.reduceLT, Int.reduceLE, Int.reduceGT, Int.reduceGE, Int.reduceAdd, Int.reduceSub, Int.reduceMul, Int.reduceNeg, Int.reduceNe, Bool.true_and, Bool.and_true, Bool.false_and, Bool.and_false, BEq.rfl, Bool.true_eq_false, Bool.false_eq_true, c]
      simp (discharger := first | decide | omega) only [x_own h, x_kd h, x_r h, x_m h, x_l h, x_k h, x_n h, x_i0, x_i h, x_u0 h, x_u h, xLen, xKd, nlit, iI_lit, iI_add, iI_sub, iI_mul, iI_neg, bI_z, bI_o, i10, i01, eq_self, bI_nar, nar_0, nar_1, up_at, up_f, Option.some.injEq, exists_eq_left', true_and, and_true, forall_eq, not_true_eq_false, not_false_eq_true, forall_const, false_implies, true_implies, Classical.not_not, if_true, if_false, Int.reduceEq, Int.reduceLT, Int.reduceLE, Int.reduceGT, Int.reduceGE, Int.reduceAdd, Int.reduceSub, Int.reduceMul, Int.reduceNeg, Int.reduceNe, eq_true ia]
      rw [ta.1, iI_eq (by omega) (by omega) (by decide) (by decide)]
      by_cases z : t a = 32
      · rw [if_pos (Or.inr (Or.inl z))] at k
        simp (discharger := omega) only [nlit, iI_lit, iI_add, iI_sub, iI_mul, iI_neg, bI_z, bI_o, i10, i01, eq_self, bI_nar, nar_0, nar_1, bI_t, bI_f, Option.some.injEq, exists_eq_left', true_and, and_true, forall_eq, not_true_eq_false, not_false_eq_true, forall_const, false_implies, true_implies, Classical.not_not, if_true, if_false, Int.reduceEq, Int.reduceLT, Int.reduceLE, Int.reduceGT, Int.reduceGE, Int.reduceAdd, Int.reduceSub, Int.reduceMul, Int.reduceNeg, Int.reduceNe, Bool.true_and, Bool.and_true, Bool.false_and, Bool.and_false, BEq.rfl, Bool.true_eq_false, Bool.false_eq_true, z]
        exact k m self e24
      · simp (discharger := omega) only [nlit, iI_lit, iI_add, iI_sub, iI_mul, iI_neg, bI_z, bI_o, i10, i01, eq_self, bI_nar, nar_0, nar_1, bI_t, bI_f, Option.some.injEq, exists_eq_left', true_and, and_true, forall_eq, not_true_eq_false, not_false_eq_true, forall_const, false_implies, true_implies, Classical.not_not, if_true, if_false, Int.reduceEq, Int.reduceLT, Int.reduceLE, Int.reduceGT, Int.reduceGE, Int.reduceAdd, Int.reduceSub, Int.reduceMul, Int.reduceNeg, Int.reduceNe, Bool.true_and, Bool.and_true, Bool.false_and, Bool.and_false, BEq.rfl, Bool.true_eq_false, Bool.false_eq_true, z]
        refine q_isBracket (by omega) ?_
        cases zb : brkB (t a)
        · rw [if_neg (by rw [zb]; simp; omega)] at k
          try simp (discharger := omega) only [nlit, iI_lit, iI_add, iI_sub, iI_mul, iI_neg, bI_z, bI_o, i10, i01, eq_self, bI_nar, nar_0, nar_1, bI_t, bI_f, Option.some.injEq, exists_eq_left', true_and, and_true, forall_eq, not_true_eq_false, not_false_eq_true, forall_const, false_implies, true_implies, Classical.not_not, if_true, if_false, Int.reduceEq, Int.reduceLT, Int.reduceLE, Int.reduceGT, Int.reduceGE, Int.reduceAdd, Int.reduceSub, Int.reduceMul, Int.reduceNeg, Int.reduceNe, Bool.true_and, Bool.and_true, Bool.false_and, Bool.and_false, BEq.rfl, Bool.true_eq_false, Bool.false_eq_true]
          simp (discharger := first | decide | omega) only [x_own h, x_kd h, x_r h, x_m h, x_l h, x_k h, x_n h, x_i0, x_i h, x_u0 h, x_u h, xLen, xKd, nlit, iI_lit, iI_add, iI_sub, iI_mul, iI_neg, bI_z, bI_o, i10, i01, eq_self, bI_nar, nar_0, nar_1, up_at, up_f, Option.some.injEq, exists_eq_left', true_and, and_true, forall_eq, not_true_eq_false, not_false_eq_true, forall_const, false_implies, true_implies, Classical.not_not, if_true, if_false, Int.reduceEq, Int.reduceLT, Int.reduceLE, Int.reduceGT, Int.reduceGE, Int.reduceAdd, Int.reduceSub, Int.reduceMul, Int.reduceNeg, Int.reduceNe]
          rw [show m 50 24 = a from e24]
          try simp (discharger := omega) only [nlit, iI_lit, iI_add, iI_sub, iI_mul, iI_neg, bI_z, bI_o, i10, i01, eq_self, bI_nar, nar_0, nar_1, bI_t, bI_f, Option.some.injEq, exists_eq_left', true_and, and_true, forall_eq, not_true_eq_false, not_false_eq_true, forall_const, false_implies, true_implies, Classical.not_not, if_true, if_false, Int.reduceEq, Int.reduceLT, Int.reduceLE, Int.reduceGT, Int.reduceGE, Int.reduceAdd, Int.reduceSub, Int.reduceMul, Int.reduceNeg, Int.reduceNe, Bool.true_and, Bool.and_true, Bool.false_and, Bool.and_false, BEq.rfl, Bool.true_eq_false, Bool.false_eq_true]
          refine ih d (a + 1) _ (by omega) (by omega) (by omega) h5 (hx.row (up_r _ _ _ rfl)) (up_at _ _ _ _) (by rw [up_ne _ (Or.inr (by decide))]; exact e13) (fun m' ⟨w, hw⟩ q => k m' ⟨w, by rw [hw, up_up]⟩ q)
        · rw [if_pos (Or.inr (Or.inr zb))] at k
          try simp (discharger := omega) only [nlit, iI_lit, iI_add, iI_sub, iI_mul, iI_neg, bI_z, bI_o, i10, i01, eq_self, bI_nar, nar_0, nar_1, bI_t, bI_f, Option.some.injEq, exists_eq_left', true_and, and_true, forall_eq, not_true_eq_false, not_false_eq_true, forall_const, false_implies, true_implies, Classical.not_not, if_true, if_false, Int.reduceEq, Int.reduceLT, Int.reduceLE, Int.reduceGT, Int.reduceGE, Int.reduceAdd, Int.reduceSub, Int.reduceMul, Int.reduceNeg, Int.reduceNe, Bool.true_and, Bool.and_true, Bool.false_and, Bool.and_false, BEq.rfl, Bool.true_eq_false, Bool.false_eq_true]
          exact k m self e24
end
