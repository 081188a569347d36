/-- a position whose moves can be listed -/
abbrev stOK (F R : Int) (u : Int → Int) : Prop := okV F R u ∧ mvOK F R u ∧ kingB F R u (u 64) < F * R
def mkT (F R : Int) (v : Int → Int) (t : Mv) : Int → Int := mkV F R v t.1 t.2.1 t.2.2
/-- the sign behind the letters -/
def endC (F R : Int) (u : Int → Int) : Int := if chkB F R u (u 64) then (if mateB F R u then 35 else 43) else 0
theorem endC_v (F R : Int) (u : Int → Int) : endC F R u = 0 ∨ endC F R u = 35 ∨ endC F R u = 43 := by
  unfold endC
  cases chkB F R u (u 64) <;> cases mateB F R u <;> simp
/-- the letters of a move with the end -/
def sanW (F R : Int) (v : Int → Int) (L : List Mv) (t : Mv) : List Int := sanA F v L t ++ (if endC F R (mkT F R v t) = 0 then [] else [endC F R (mkT F R v t)])
theorem scr_ls0 (m : xM) (L : List Mv) (w u : Int → Int) : scr (lsM m 0 L w) (lsM m 0 L u) := by
  have := scr_putV (lsM m 0 L w) u (l := 1) (by decide)
  rw [show (67 : Int) * 1 = 67 * (0 + 1) by decide, lsM_putV] at this
  exact this
section
variable {D : wD} {S : wS} {x : Nat} {A : Nat → Nat} {m : xM} {F R : Int}
theorem mkT_clV {v : Int → Int} {t : Mv} (h4 : 4 ≤ F) (h8 : F ≤ 8) (r4 : 4 ≤ R) (r8 : R ≤ 8) (hv : okV F R v) (hc : clV v) (ok : okMv F R v t) : clV (mkT F R v t) := by
  obtain ⟨-, -, -, c6, -⟩ := mk6_ok (bec := t.2.2) h4 h8 r4 r8 hv hc ok.1 ok.2.1 ⟨ok.2.2.1.1, by have := ok.2.2.1.2; omega⟩
  exact clV_up c6 (by decide)
theorem q_endOf {post : Int32 → wS → Prop} (h : XC D S x A) (hB : XB m F R) {w : Int → Int} (hv : okV F R (lv m 0)) (hLn : (movesL F R (lv m 0)).length ≤ 320) {mv : Int} {t : Mv} (hm : 0 ≤ mv ∧ mv < (movesL F R (lv m 0)).length) (ht : t = (movesL F R (lv m 0)).getD mv.toNat (0, 0, 0)) (hu : stOK F R (mkT F R (lv m 0) t))
    (k : ∀ m', scr (lsM m 0 (movesL F R (lv m 0)) w) m' → post (iI (endC F R (mkT F R (lv m 0) t))) (xS S x A m')) : wp_X12_endOf D post (xS S x A (lsM m 0 (movesL F R (lv m 0)) w)) x (iI mv) := by
  have hn := hB.n
  have h4 := hB.f4; have h8 := hB.f8; have r4 := hB.r4; have r8 := hB.r8
  unfold wp_X12_endOf wp_X12_endOf_0
  simp (discharger := omega) only [nlit, iI_lit, iI_add, iI_sub, iI_mul, iI_neg, bI_z, bI_o, i10, i01, eq_self, bI_nar, nar_0, nar_1, bI_t, bI_f, Option.some.injEq, exists_eq_left', true_and, and_true, forall_eq, not_true_eq_false, not_false_eq_true, forall_const, false_implies, true_implies, Classical.not_not, if_true, if_false, Int.reduceEq, Int.reduceLT, Int.reduceLE, Int.reduceGT, Int.reduceGE, Int.reduceAdd, Int.reduceSub, Int.reduceMul, Int.reduceNeg, Int.reduceNe, Bool.true_and, Bool.and_true, Bool.false_and, Bool.and_false, BEq.rfl, Bool.true_eq_false, Bool.false_eq_true]
  refine q_makesListed h hB (by decide) hv hLn hm ?_
  intro t' ht' ok
  rw [← ht] at ht'
  subst ht'
  have hc := mkT_clV h4 h8 r4 r8 hv (lv_clV m 0) ok
  have s1 := scr_ls0 m (movesL F R (lv m 0)) w (mkT F R (lv m 0) t')
  have el : lv (lsM m 0 (movesL F R (lv m 0)) (mkT F R (lv m 0) t')) 1 = mkT F R (lv m 0) t' := lsM_next hc
  have hB1 := hB.ls 0 (movesL F R (lv m 0)) (mkT F R (lv m 0) t')
  change wp_X12_side D _ (xS S x A (lsM m 0 (movesL F R (lv m 0)) (mkT F R (lv m 0) t'))) x (iI 1)
  rw [q_side h (by decide), el]
  have hs := hu.1.s
  refine q_isInCheck h hB1 (by decide) (by rw [el]; exact hu.1) hs (by rw [el]; exact hu.2.2) ?_
  rw [el]
  unfold endC at k
  try simp (discharger := omega) only [nlit, iI_lit, iI_add, iI_sub, iI_mul, iI_neg, bI_z, bI_o, i10, i01, eq_self, bI_nar, nar_0, nar_1, bI_t, bI_f, Option.some.injEq, exists_eq_left', true_and, and_true, forall_eq, not_true_eq_false, not_false_eq_true, forall_const, false_implies, true_implies, Classical.not_not, if_true, if_false, Int.reduceEq, Int.reduceLT, Int.reduceLE, Int.reduceGT, Int.reduceGE, Int.reduceAdd, Int.reduceSub, Int.reduceMul, Int.reduceNeg, Int.reduceNe, Bool.true_and, Bool.and_true, Bool.false_and, Bool.and_false, BEq.rfl, Bool.true_eq_false, Bool.false_eq_true]
  cases c : chkB F R (mkT F R (lv m 0) t') (mkT F R (lv m 0) t' 64)
  · try simp (discharger := omega) only [nlit, iI_lit, iI_add, iI_sub, iI_mul, iI_neg, bI_z, bI_o, i10, i01, eq_self, bI_nar, nar_0, nar_1, bI_t, bI_f, Option.some.injEq, exists_eq_left', true_and, and_true, forall_eq, not_true_eq_false, not_false_eq_true, forall_const, false_implies, true_implies, Classical.not_not, if_true, if_false, Int.reduceEq, Int.reduceLT, Int.reduceLE, Int.reduceGT, Int.reduceGE, Int.reduceAdd, Int.reduceSub, Int.reduceMul, Int.reduceNeg, Int.reduceNe, Bool.true_and, Bool.and_true, Bool.false_and, Bool.and_false, BEq.rfl, Bool.true_eq_false, Bool.false_eq_true]
    have := k _ s1
    rw [c] at this
    simpa using this
  · try simp (discharger := omega) only [nlit, iI_lit, iI_add, iI_sub, iI_mul, iI_neg, bI_z, bI_o, i10, i01, eq_self, bI_nar, nar_0, nar_1, bI_t, bI_f, Option.some.injEq, exists_eq_left', true_and, and_true, forall_eq, not_true_eq_false, not_false_eq_true, forall_const, false_implies, true_implies, Classical.not_not, if_true, if_false, Int.reduceEq, Int.reduceLT, Int.reduceLE, Int.reduceGT, Int.reduceGE, Int.reduceAdd, Int.reduceSub, Int.reduceMul, Int.reduceNeg, Int.reduceNe, Bool.true_and, Bool.and_true, Bool.false_and, Bool.and_false, BEq.rfl, Bool.true_eq_false, Bool.false_eq_true]
    refine q_isMateAt h hB1 (by decide) (by rw [el]; exact hu.1) (by rw [el]; exact hu.2.1) (by rw [el]; exact hu.2.2) ?_
    intro m' hm'
    rw [el] at hm' ⊢
    have s2 : scr (lsM m 0 (movesL F R (lv m 0)) w) m' := by
      rcases hm' with e | ⟨w', -, e⟩
      · rw [e]; exact s1
      · rw [e]; exact s1.trans (scr_lsM _ _ _ (by decide))
    have k := k m' s2
    rw [c] at k
    simp (discharger := omega) only [nlit, iI_lit, iI_add, iI_sub, iI_mul, iI_neg, bI_z, bI_o, i10, i01, eq_self, bI_nar, nar_0, nar_1, bI_t, bI_f, Option.some.injEq, exists_eq_left', true_and, and_true, forall_eq, not_true_eq_false, not_false_eq_true, forall_const, false_implies, true_implies, Classical.not_not, if_true, if_false, Int.reduceEq, Int.reduceLT, Int.reduceLE, Int.reduceGT, Int.reduceGE, Int.reduceAdd, Int.reduceSub, Int.reduceMul, Int.reduceNeg, Int.reduceNe, Bool.true_and, Bool.and_true, Bool.false_and, Bool.and_false, BEq.rfl, Bool.true_eq_false, Bool.false_eq_true, wp_X12_endOf_36]
    cases c2 : mateB F R (mkT F R (lv m 0) t')
    · rw [c2] at k
      try simp (discharger := omega) only [nlit, iI_lit, iI_add, iI_sub, iI_mul, iI_neg, bI_z, bI_o, i10, i01, eq_self, bI_nar, nar_0, nar_1, bI_t, bI_f, Option.some.injEq, exists_eq_left', true_and, and_true, forall_eq, not_true_eq_false, not_false_eq_true, forall_const, false_implies, true_implies, Classical.not_not, if_true, if_false, Int.reduceEq, Int.reduceLT, Int.reduceLE, Int.reduceGT, Int.reduceGE, Int.reduceAdd, Int.reduceSub, Int.reduceMul, Int.reduceNeg, Int.reduceNe, Bool.true_and, Bool.and_true, Bool.false_and, Bool.and_false, BEq.rfl, Bool.true_eq_false, Bool.false_eq_true]
      simpa using k
    · rw [c2] at k
      try simp (discharger := omega) only [nlit, iI_lit, iI_add, iI_sub, iI_mul, iI_neg, bI_z, bI_o, i10, i01, eq_self, bI_nar, nar_0, nar_1, bI_t, bI_f, Option.some.injEq, exists_eq_left', true_and, and_true, forall_eq, not_true_eq_false, not_false_eq_true, forall_const, false_implies, true_implies, Classical.not_not, if_true, if_false, Int.reduceEq, Int.reduceLT, Int.reduceLE, Int.reduceGT, Int.reduceGE, Int.reduceAdd, Int.reduceSub, Int.reduceMul, Int.reduceNeg, Int.reduceNe, Bool.true_and, Bool.and_true, Bool.false_and, Bool.and_false, BEq.rfl, Bool.true_eq_false, Bool.false_eq_true]
      simpa using k
theorem q_spellsWhole {post : wS → Prop} (h : XC D S x A) (hB : XB m F R) {w : Int → Int} (hv : okV F R (lv m 0)) (hLn : (movesL F R (lv m 0)).length ≤ 320) {mv : Int} {t : Mv} (hm : 0 ≤ mv ∧ mv < (movesL F R (lv m 0)).length) (ht : t = (movesL F R (lv m 0)).getD mv.toNat (0, 0, 0)) (hu : stOK F R (mkT F R (lv m 0) t))
    (k : ∀ m', scr (spM (lsM m 0 (movesL F R (lv m 0)) w) mv (sanW F R (lv m 0) (movesL F R (lv m 0)) t)) m' → post (xS S x A m')) : wp_X12_spellsWhole D post (xS S x A (lsM m 0 (movesL F R (lv m 0)) w)) x (iI mv) := by
  have hn := hB.n
  unfold wp_X12_spellsWhole wp_X12_spellsWhole_0
  refine q_spellsAhead h hB rfl hv (fun t ht => movesL_mem (by omega) ht) hLn hm ht ?_
  rw [spM_lsM]
  have e3 : lv (spM m mv (sanA F (lv m 0) (movesL F R (lv m 0)) t)) 0 = lv m 0 := spM_lv _ _ _ _
  have hB1 := hB.sp mv (sanA F (lv m 0) (movesL F R (lv m 0)) t)
  have q := q_endOf (post := fun r_3 S_4 => ((r_3 = iI 0 → wp_X12_spellsWhole_21 D post S_4) ∧ (¬ r_3 = iI 0 → wp_X12_spells D (fun S_7 => wp_X12_spellsWhole_21 D post S_7) S_4 x (iI mv) r_3))) (w := w) (t := t) h hB1 (by rw [e3]; exact hv) (by rw [e3]; exact hLn) (by rw [e3]; exact hm) (by rw [e3]; exact ht) (by rw [e3]; exact hu)
  rw [e3] at q
  refine q ?_
  intro m' hm'
  rw [← spM_lsM] at hm'
  have ev := endC_v F R (mkT F R (lv m 0) t)
  unfold sanW at k
  simp (discharger := omega) only [nlit, iI_lit, iI_add, iI_sub, iI_mul, iI_neg, bI_z, bI_o, i10, i01, eq_self, bI_nar, nar_0, nar_1, bI_t, bI_f, Option.some.injEq, exists_eq_left', true_and, and_true, forall_eq, not_true_eq_false, not_false_eq_true, forall_const, false_implies, true_implies, Classical.not_not, if_true, if_false, Int.reduceEq, Int.reduceLT, Int.reduceLE, Int.reduceGT, Int.reduceGE, Int.reduceAdd, Int.reduceSub, Int.reduceMul, Int.reduceNeg, Int.reduceNe, Bool.true_and, Bool.and_true, Bool.false_and, Bool.and_false, BEq.rfl, Bool.true_eq_false, Bool.false_eq_true, iI_eq, wp_X12_spellsWhole_21]
  by_cases c : endC F R (mkT F R (lv m 0) t) = 0
  · rw [if_pos c, List.append_nil] at k
    simp (discharger := omega) only [nlit, iI_lit, iI_add, iI_sub, iI_mul, iI_neg, bI_z, bI_o, i10, i01, eq_self, bI_nar, nar_0, nar_1, bI_t, bI_f, Option.some.injEq, exists_eq_left', true_and, and_true, forall_eq, not_true_eq_false, not_false_eq_true, forall_const, false_implies, true_implies, Classical.not_not, if_true, if_false, Int.reduceEq, Int.reduceLT, Int.reduceLE, Int.reduceGT, Int.reduceGE, Int.reduceAdd, Int.reduceSub, Int.reduceMul, Int.reduceNeg, Int.reduceNe, Bool.true_and, Bool.and_true, Bool.false_and, Bool.and_false, BEq.rfl, Bool.true_eq_false, Bool.false_eq_true, c]
    exact k m' hm'
  · rw [if_neg c] at k
    simp (discharger := omega) only [nlit, iI_lit, iI_add, iI_sub, iI_mul, iI_neg, bI_z, bI_o, i10, i01, eq_self, bI_nar, nar_0, nar_1, bI_t, bI_f, Option.some.injEq, exists_eq_left', true_and, and_true, forall_eq, not_true_eq_false, not_false_eq_true, forall_const, false_implies, true_implies, Classical.not_not, if_true, if_false, Int.reduceEq, Int.reduceLT, Int.reduceLE, Int.reduceGT, Int.reduceGE, Int.reduceAdd, Int.reduceSub, Int.reduceMul, Int.reduceNeg, Int.reduceNe, Bool.true_and, Bool.and_true, Bool.false_and, Bool.and_false, BEq.rfl, Bool.true_eq_false, Bool.false_eq_true, c]
    -- m' is a state with these letters
    have e : m' = spM m' mv (sanA F (lv m 0) (movesL F R (lv m 0)) t) := by
      funext r j
      unfold spM
      have hr := fun (z : r = 17 ∨ r = 18) => hm'.row (r := r) (by rcases z with z | z <;> subst z <;> rfl)
      by_cases c1 : r = 18 ∧ j = mv
      · rw [if_pos c1, hr (Or.inr c1.1)]
        unfold spM
        rw [if_pos c1]
      · rw [if_neg c1]
        by_cases c2 : r = 17 ∧ 12 * mv ≤ j ∧ j < 12 * mv + (sanA F (lv m 0) (movesL F R (lv m 0)) t).length
        · rw [if_pos c2, hr (Or.inl c2.1)]
          unfold spM
          rw [if_neg c1, if_pos c2]
        · rw [if_neg c2]
    rw [e]
    have hl := sanA_len F (lv m 0) (movesL F R (lv m 0)) t
    refine q_spells h (by omega) (by omega) ?_
    refine k _ ?_
    intro r j q1 q2 q3
    by_cases z : r = 17 ∨ r = 18
    · have hr := hm'.row (r := r) (by rcases z with z | z <;> subst z <;> rfl)
      unfold spM
      rw [hr]
      unfold spM
      split
      · rfl
      · split
        · rfl
        · split
          · rename_i a b c; exact absurd ⟨c.1, c.2.1, by simp; omega⟩ b
          · rfl
    · have hz : (r == 17 || r == 18) = false := by simp; omega
      rw [spM_f _ _ _ _ hz, spM_f _ _ _ _ hz]
      have := hm' r j q1 q2 q3
      rw [spM_f _ _ _ _ hz] at this
      exact this
end
