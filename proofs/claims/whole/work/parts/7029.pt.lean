section
variable {D : wD} {S : wS} {x : Nat} {A : Nat → Nat} {m : xM} {F R : Int}
theorem playM_f {L : List Mv} {t : Mv} {r : Nat} (j : Int) (h : (r == 3 || r == 4 || r == 5 || r == 6 || r == 7 || r == 8 || r == 9 || r == 10 || r == 50) = false) : playM F R m L t r j = m r j := by
  simp at h
  unfold playM play1
  rw [ldm_f _ _ (by simp; omega), cpy_ne _ (by simp; omega), up_ne _ (Or.inl (by omega)), lsM_f _ _ _ _ _ (by simp; omega), up_ne _ (Or.inl (by omega)), up_ne _ (Or.inl (by omega))]
theorem playM_50 {L : List Mv} {t : Mv} {j : Int} (h : j ≠ 11) : playM F R m L t 50 j = m 50 j := by
  unfold playM play1
  rw [ldm_f _ _ rfl, cpy_ne _ rfl, up_ne _ (Or.inr h), lsM_f _ _ _ _ _ rfl, up_f _ _ _ _ rfl, up_f _ _ _ _ rfl]
theorem playM_made {L : List Mv} {t : Mv} : playM F R m L t 50 11 = m 50 11 + 1 := by
  unfold playM
  rw [ldm_f _ _ rfl, cpy_ne _ rfl, up_at]
theorem playM_10 {L : List Mv} {t : Mv} (j : Int) : playM F R m L t 10 j = if j = m 50 11 then bI (loudB F (pv m) t) else m 10 j := by
  unfold playM play1
  rw [ldm_f _ _ rfl, cpy_ne _ rfl, up_f _ _ _ _ rfl, lsM_f _ _ _ _ _ rfl]
  by_cases c : j = m 50 11
  · rw [if_pos c, c, up_at]
  · rw [if_neg c, up_ne _ (Or.inr c), up_f _ _ _ _ rfl]
theorem playM_9 {L : List Mv} {t : Mv} (j : Int) : playM F R m L t 9 j = if j = m 50 11 then codeT t else m 9 j := by
  unfold playM play1
  rw [ldm_f _ _ rfl, cpy_ne _ rfl, up_f _ _ _ _ rfl, lsM_f _ _ _ _ _ rfl, up_f _ _ _ _ rfl]
  by_cases c : j = m 50 11
  · rw [if_pos c, c, up_at]
  · rw [if_neg c, up_ne _ (Or.inr c)]
theorem playM_gv {L : List Mv} {t : Mv} (hu : clV (mkT F R (pv m) t)) (k : Int) : gv (playM F R m L t) k = if k = m 50 11 + 1 then mkT F R (pv m) t else gv m k := by
  have e8 : playM F R m L t 8 = cpy (up (lsM (play1 F m t) 0 L (mkT F R (pv m) t)) 50 11 (m 50 11 + 1)) 3 67 8 (67 * (m 50 11 + 1)) 67 8 := by unfold playM ldm; exact putV_r _ _ _ rfl
  have e3 : ∀ j, 0 ≤ j → j < 67 → (up (lsM (play1 F m t) 0 L (mkT F R (pv m) t)) 50 11 (m 50 11 + 1)) 3 (67 + j) = mkT F R (pv m) t j := fun j h1 h2 => by
    rw [up_f _ _ _ _ rfl]
    have : lv (lsM (play1 F m t) 0 L (mkT F R (pv m) t)) (0 + 1) j = mkT F R (pv m) t j := by rw [lsM_next hu]
    rw [lvec_at _ ⟨h1, h2⟩] at this
    exact this
  funext j
  unfold gv vec
  rw [e8]
  by_cases cj : 0 ≤ j ∧ j < 67
  · rw [if_pos cj]
    by_cases ck : k = m 50 11 + 1
    · rw [if_pos ck, ck, cpy_at _ (by omega) (by omega)]
      have := e3 j cj.1 cj.2
      rw [show (67 : Int) + (67 * (m 50 11 + 1) + j - 67 * (m 50 11 + 1)) = 67 + j by omega]
      exact this
    · rw [if_neg ck, if_pos cj, cpy_out _ (by omega), up_f _ _ _ _ rfl, lsM_f _ _ _ _ _ rfl]
      unfold play1
      rw [up_f _ _ _ _ rfl, up_f _ _ _ _ rfl]
  · rw [if_neg cj]
    by_cases ck : k = m 50 11 + 1
    · rw [if_pos ck]; exact (hu j cj).symm
    · rw [if_neg ck, if_neg cj]
theorem playM_pv {L : List Mv} {t : Mv} (hu : clV (mkT F R (pv m) t)) : pv (playM F R m L t) = mkT F R (pv m) t := by
  unfold pv
  rw [playM_made, playM_gv hu, if_pos rfl]
  rfl
theorem playM_lv {L : List Mv} {t : Mv} (hu : clV (mkT F R (pv m) t)) : lv (playM F R m L t) 0 = pv (playM F R m L t) := by
  have : playM F R m L t = ldm (cpy (up (lsM (play1 F m t) 0 L (mkT F R (pv m) t)) 50 11 (m 50 11 + 1)) 3 67 8 (67 * (m 50 11 + 1)) 67) := rfl
  rw [this, ldm_lv, pv_ldm]
theorem RG_play (hG : RG m F R) (hmd : m 50 11 < 80) {L : List Mv} {t : Mv} (hu : clV (mkT F R (pv m) t)) (ho : okV F R (mkT F R (pv m) t)) : RG (playM F R m L t) F R := by
  have hm := hG.m0
  refine ⟨⟨by rw [playM_50 (by decide)]; exact hG.b.f, by rw [playM_50 (by decide)]; exact hG.b.r, hG.b.2.2⟩, by rw [playM_made]; omega, fun k h1 h2 => ?_⟩
  rw [playM_made] at h2
  rw [playM_gv hu]
  split
  · exact ho
  · exact hG.v k h1 (by omega)
theorem q_play {post : Int32 → wS → Prop} (h : XC D S x A) (hG : RG m F R) (hl : ∀ k, 0 ≤ k → k < 80 → 0 ≤ m 10 k ∧ m 10 k ≤ 1) (hK : properB F R (gv m 0) = true → mvOK F R (pv m) ∧ ∀ t ∈ movesL F R (pv m), stOK F R (mkT F R (pv m) t)) {v : Int} (hi : i32 v)
    (k0 : (properB F R (gv m 0) && decide (m 50 11 < 80)) = false → post (iI 0) (xS S x A (up (ldm m) 50 0 1)))
    (k1 : properB F R (gv m 0) = true → m 50 11 < 80 → ∀ w, clV w → inB v 0 ((movesL F R (pv m)).length - 1) = false → post (iI 0) (xS S x A (lsM (up (ldm m) 50 0 2) 0 (movesL F R (pv m)) w)))
    (k2 : properB F R (gv m 0) = true → m 50 11 < 80 → (0 ≤ v ∧ v < (movesL F R (pv m)).length) → ∀ t w, t = (movesL F R (pv m)).getD v.toNat (0, 0, 0) → clV w →
      post (iI (stateB F R (playM F R (askM m) (movesL F R (pv m)) t))) (xS S x A (lsM (playM F R (askM m) (movesL F R (pv m)) t) 0 (movesL F R (mkT F R (pv m) t)) w))) : wp_X12_play D post (xS S x A m) x (iI v) := by
  have hm := hG.m0
  have h4 := hG.b.f4; have h8 := hG.b.f8; have r4 := hG.b.r4; have r8 := hG.b.r8
  have hn := hG.b.n
  have e11 : ldm m 50 11 = m 50 11 := ldm_f m _ rfl
  unfold wp_X12_play wp_X12_play_0
  refine q_isAskable h hG ?_
  rw [x_i0]
  simp (discharger := omega) only [nlit, iI_lit, iI_add, iI_sub, iI_mul, iI_neg, bI_z, bI_o, i10, i01, eq_self, bI_nar, nar_0, nar_1, bI_t, bI_f, Option.some.injEq, exists_eq_left', true_and, and_true, forall_eq, not_true_eq_false, not_false_eq_true, forall_const, false_implies, true_implies, Classical.not_not, if_true, if_false, Int.reduceEq, Int.reduceLT, Int.reduceLE, Int.reduceGT, Int.reduceGE, Int.reduceAdd, Int.reduceSub, Int.reduceMul, Int.reduceNeg, Int.reduceNe, Bool.true_and, Bool.and_true, Bool.false_and, Bool.and_false, BEq.rfl, Bool.true_eq_false, Bool.false_eq_true, wp_X12_play_21, e11, iI_le]
  have fail : ((properB F R (gv m 0) && decide (m 50 11 < 80)) = false) → wp_X12_play_22 D post (xS S x A (ldm m)) x (iI v) x (iI 0) := fun z => by
    unfold wp_X12_play_22
    simp (discharger := omega) only [nlit, iI_lit, iI_add, iI_sub, iI_mul, iI_neg, bI_z, bI_o, i10, i01, eq_self, bI_nar, nar_0, nar_1, bI_t, bI_f, Option.some.injEq, exists_eq_left', true_and, and_true, forall_eq, not_true_eq_false, not_false_eq_true, forall_const, false_implies, true_implies, Classical.not_not, if_true, if_false, Int.reduceEq, Int.reduceLT, Int.reduceLE, Int.reduceGT, Int.reduceGE, Int.reduceAdd, Int.reduceSub, Int.reduceMul, Int.reduceNeg, Int.reduceNe, Bool.true_and, Bool.and_true, Bool.false_and, Bool.and_false, BEq.rfl, Bool.true_eq_false, Bool.false_eq_true]
    rw [q_can0 h]
    simp (discharger := omega) only [nlit, iI_lit, iI_add, iI_sub, iI_mul, iI_neg, bI_z, bI_o, i10, i01, eq_self, bI_nar, nar_0, nar_1, bI_t, bI_f, Option.some.injEq, exists_eq_left', true_and, and_true, forall_eq, not_true_eq_false, not_false_eq_true, forall_const, false_implies, true_implies, Classical.not_not, if_true, if_false, Int.reduceEq, Int.reduceLT, Int.reduceLE, Int.reduceGT, Int.reduceGE, Int.reduceAdd, Int.reduceSub, Int.reduceMul, Int.reduceNeg, Int.reduceNe, Bool.true_and, Bool.and_true, Bool.false_and, Bool.and_false, BEq.rfl, Bool.true_eq_false, Bool.false_eq_true, wp_X12_play_42]
    exact k0 z
  cases c : properB F R (gv m 0)
  · try simp (discharger := omega) only [nlit, iI_lit, iI_add, iI_sub, iI_mul, iI_neg, bI_z, bI_o, i10, i01, eq_self, bI_nar, nar_0, nar_1, bI_t, bI_f, Option.some.injEq, exists_eq_left', true_and, and_true, forall_eq, not_true_eq_false, not_false_eq_true, forall_const, false_implies, true_implies, Classical.not_not, if_true, if_false, Int.reduceEq, Int.reduceLT, Int.reduceLE, Int.reduceGT, Int.reduceGE, Int.reduceAdd, Int.reduceSub, Int.reduceMul, Int.reduceNeg, Int.reduceNe, Bool.true_and, Bool.and_true, Bool.false_and, Bool.and_false, BEq.rfl, Bool.true_eq_false, Bool.false_eq_true]
    exact fail (by simp [c])
  · try simp (discharger := omega) only [nlit, iI_lit, iI_add, iI_sub, iI_mul, iI_neg, bI_z, bI_o, i10, i01, eq_self, bI_nar, nar_0, nar_1, bI_t, bI_f, Option.some.injEq, exists_eq_left', true_and, and_true, forall_eq, not_true_eq_false, not_false_eq_true, forall_const, false_implies, true_implies, Classical.not_not, if_true, if_false, Int.reduceEq, Int.reduceLT, Int.reduceLE, Int.reduceGT, Int.reduceGE, Int.reduceAdd, Int.reduceSub, Int.reduceMul, Int.reduceNeg, Int.reduceNe, Bool.true_and, Bool.and_true, Bool.false_and, Bool.and_false, BEq.rfl, Bool.true_eq_false, Bool.false_eq_true]
    by_cases c80 : m 50 11 < 80
    · have e : ¬ 80 ≤ m 50 11 := by omega
      simp (discharger := omega) only [nlit, iI_lit, iI_add, iI_sub, iI_mul, iI_neg, bI_z, bI_o, i10, i01, eq_self, bI_nar, nar_0, nar_1, bI_t, bI_f, Option.some.injEq, exists_eq_left', true_and, and_true, forall_eq, not_true_eq_false, not_false_eq_true, forall_const, false_implies, true_implies, Classical.not_not, if_true, if_false, Int.reduceEq, Int.reduceLT, Int.reduceLE, Int.reduceGT, Int.reduceGE, Int.reduceAdd, Int.reduceSub, Int.reduceMul, Int.reduceNeg, Int.reduceNe, Bool.true_and, Bool.and_true, Bool.false_and, Bool.and_false, BEq.rfl, Bool.true_eq_false, Bool.false_eq_true, e]
      have hk := hK c
      have k1 := k1 c c80
      have k2 := k2 c c80
      have hGa := hG.ask
      have el : lv (askM m) 0 = pv m := askM_lv
      have pa : pv (askM m) = pv m := pv_ask
      have ea : askM m 50 11 = m 50 11 := (up_ne _ (Or.inr (by decide))).trans e11
      unfold wp_X12_play_22
      simp (discharger := omega) only [nlit, iI_lit, iI_add, iI_sub, iI_mul, iI_neg, bI_z, bI_o, i10, i01, eq_self, bI_nar, nar_0, nar_1, bI_t, bI_f, Option.some.injEq, exists_eq_left', true_and, and_true, forall_eq, not_true_eq_false, not_false_eq_true, forall_const, false_implies, true_implies, Classical.not_not, if_true, if_false, Int.reduceEq, Int.reduceLT, Int.reduceLE, Int.reduceGT, Int.reduceGE, Int.reduceAdd, Int.reduceSub, Int.reduceMul, Int.reduceNeg, Int.reduceNe, Bool.true_and, Bool.and_true, Bool.false_and, Bool.and_false, BEq.rfl, Bool.true_eq_false, Bool.false_eq_true]
      rw [q_can1 h]
      try simp (discharger := omega) only [nlit, iI_lit, iI_add, iI_sub, iI_mul, iI_neg, bI_z, bI_o, i10, i01, eq_self, bI_nar, nar_0, nar_1, bI_t, bI_f, Option.some.injEq, exists_eq_left', true_and, and_true, forall_eq, not_true_eq_false, not_false_eq_true, forall_const, false_implies, true_implies, Classical.not_not, if_true, if_false, Int.reduceEq, Int.reduceLT, Int.reduceLE, Int.reduceGT, Int.reduceGE, Int.reduceAdd, Int.reduceSub, Int.reduceMul, Int.reduceNeg, Int.reduceNe, Bool.true_and, Bool.and_true, Bool.false_and, Bool.and_false, BEq.rfl, Bool.true_eq_false, Bool.false_eq_true]
      change wp_X12_isMove D _ (xS S x A (askM m)) x (iI v)
      refine q_isMove h hGa.b (by rw [el]; exact hG.pv) (by rw [el]; exact hk.1) hi ?_
      intro w hw
      rw [el, q_can h]
      simp (discharger := omega) only [nlit, iI_lit, iI_add, iI_sub, iI_mul, iI_neg, bI_z, bI_o, i10, i01, eq_self, bI_nar, nar_0, nar_1, bI_t, bI_f, Option.some.injEq, exists_eq_left', true_and, and_true, forall_eq, not_true_eq_false, not_false_eq_true, forall_const, false_implies, true_implies, Classical.not_not, if_true, if_false, Int.reduceEq, Int.reduceLT, Int.reduceLE, Int.reduceGT, Int.reduceGE, Int.reduceAdd, Int.reduceSub, Int.reduceMul, Int.reduceNeg, Int.reduceNe, Bool.true_and, Bool.and_true, Bool.false_and, Bool.and_false, BEq.rfl, Bool.true_eq_false, Bool.false_eq_true, wp_X12_play_42]
      cases c2 : inB v 0 ((movesL F R (pv m)).length - 1)
      · try simp (discharger := omega) only [nlit, iI_lit, iI_add, iI_sub, iI_mul, iI_neg, bI_z, bI_o, i10, i01, eq_self, bI_nar, nar_0, nar_1, bI_t, bI_f, Option.some.injEq, exists_eq_left', true_and, and_true, forall_eq, not_true_eq_false, not_false_eq_true, forall_const, false_implies, true_implies, Classical.not_not, if_true, if_false, Int.reduceEq, Int.reduceLT, Int.reduceLE, Int.reduceGT, Int.reduceGE, Int.reduceAdd, Int.reduceSub, Int.reduceMul, Int.reduceNeg, Int.reduceNe, Bool.true_and, Bool.and_true, Bool.false_and, Bool.and_false, BEq.rfl, Bool.true_eq_false, Bool.false_eq_true]
        have := k1 w hw c2
        rw [cn_false, up50_lsM]
        unfold askM
        rw [up_up]
        exact this
      · have hv : 0 ≤ v ∧ v < (movesL F R (pv m)).length := by unfold inB at c2; simp at c2; omega
        have hmem := getD_mem hv
        have hu := hk.2 _ hmem
        have ok := movesL_mem (F := F) (R := R) (by omega) hmem
        have k2 := fun w h2 => k2 hv ((movesL F R (pv m)).getD v.toNat (0, 0, 0)) w rfl h2
        have hcl := mkT_clV h4 h8 r4 r8 hG.pv (vec_clV _ _ _) ok
        generalize ht : (movesL F R (pv m)).getD v.toNat (0, 0, 0) = t at *
        try simp (discharger := omega) only [nlit, iI_lit, iI_add, iI_sub, iI_mul, iI_neg, bI_z, bI_o, i10, i01, eq_self, bI_nar, nar_0, nar_1, bI_t, bI_f, Option.some.injEq, exists_eq_left', true_and, and_true, forall_eq, not_true_eq_false, not_false_eq_true, forall_const, false_implies, true_implies, Classical.not_not, if_true, if_false, Int.reduceEq, Int.reduceLT, Int.reduceLE, Int.reduceGT, Int.reduceGE, Int.reduceAdd, Int.reduceSub, Int.reduceMul, Int.reduceNeg, Int.reduceNe, Bool.true_and, Bool.and_true, Bool.false_and, Bool.and_false, BEq.rfl, Bool.true_eq_false, Bool.false_eq_true]
        rw [cn_true, up50_lsM]
        have eaa : up (askM m) 50 0 0 = askM m := by unfold askM; rw [up_up]
        rw [eaa, ← pa]
        refine q_plays (t := t) h hGa (by rw [el, pa]) (by rw [ea]; exact c80) (by rw [pa]; exact hk.1.2) (by rw [pa]; exact hv) (by rw [pa]; exact ht.symm) ?_
        have hcl2 : clV (mkT F R (pv (askM m)) t) := by rw [pa]; exact hcl
        have pp : pv (playM F R (askM m) (movesL F R (pv (askM m))) t) = mkT F R (pv m) t := by rw [playM_pv hcl2, pa]
        have hl2 : ∀ k, 0 ≤ k → k < 80 → 0 ≤ playM F R (askM m) (movesL F R (pv (askM m))) t 10 k ∧ playM F R (askM m) (movesL F R (pv (askM m))) t 10 k ≤ 1 := fun k h1 h2 => by
          rw [playM_10]
          split
          · exact bI_r _
          · have : askM m 10 k = m 10 k := (up_f _ _ _ _ rfl).trans (ldm_f m _ rfl)
            rw [this]; exact hl k h1 h2
        refine q_stateNow h (RG_play hGa (by rw [ea]; exact c80) hcl2 (by rw [pa]; exact hu.1)) (playM_lv hcl2) (by rw [pp]; exact hu.2.1) (by rw [pp]; exact hu.2.2) hl2 ?_
        intro w' hw'
        rw [pp, pa]
        exact k2 w' hw'
    · have e : 80 ≤ m 50 11 := by omega
      simp (discharger := omega) only [nlit, iI_lit, iI_add, iI_sub, iI_mul, iI_neg, bI_z, bI_o, i10, i01, eq_self, bI_nar, nar_0, nar_1, bI_t, bI_f, Option.some.injEq, exists_eq_left', true_and, and_true, forall_eq, not_true_eq_false, not_false_eq_true, forall_const, false_implies, true_implies, Classical.not_not, if_true, if_false, Int.reduceEq, Int.reduceLT, Int.reduceLE, Int.reduceGT, Int.reduceGE, Int.reduceAdd, Int.reduceSub, Int.reduceMul, Int.reduceNeg, Int.reduceNe, Bool.true_and, Bool.and_true, Bool.false_and, Bool.and_false, BEq.rfl, Bool.true_eq_false, Bool.false_eq_true, e]
      exact fail (by simp [c80])
end
