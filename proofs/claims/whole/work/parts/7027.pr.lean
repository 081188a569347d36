theorem up50_lsM (m : xM) (L : List Mv) (w : Int → Int) (j v : Int) : up (lsM m 0 L w) 50 j v = lsM (up m 50 j v) 0 L w := by
  funext r i
  by_cases c : r = 50
  · subst c
    rw [lsM_f _ _ _ _ _ rfl]
    by_cases e : i = j
    · subst e; rw [up_at, up_at]
    · rw [up_ne _ (Or.inr e), up_ne _ (Or.inr e), lsM_f _ _ _ _ _ rfl]
  · rw [up_ne _ (Or.inl c)]
    unfold lsM putV
    split
    · rfl
    · unfold putL
      split
      · rfl
      · split
        · rfl
        · rw [up_ne _ (Or.inl c)]
/-- the state in which the moves of the present position stand listed -/
def askM (m : xM) : xM := up (ldm m) 50 0 0
theorem sanW_len (F R : Int) (v : Int → Int) (L : List Mv) (t : Mv) : (sanW F R v L t).length ≤ 9 := by
  have := sanA_len F v L t
  unfold sanW
  split <;> simp <;> omega
section
variable {D : wD} {S : wS} {x : Nat} {A : Nat → Nat} {m : xM} {F R : Int}
theorem askM_lv : lv (askM m) 0 = pv m := (lv_row3 (up_r _ _ _ rfl) 0).trans (ldm_lv m)
theorem RG.ldm (hG : RG m F R) : RG (ldm m) F R := by
  have e : ∀ j, Jvm.Pilot.COpeningsCabinetLaw_law_r5693_3db0e9.ldm m 50 j = m 50 j := fun j => ldm_f m j rfl
  refine ⟨hG.b.ldm, by rw [e]; exact hG.m0, fun k h1 h2 => ?_⟩
  rw [e] at h2
  have : gv (Jvm.Pilot.COpeningsCabinetLaw_law_r5693_3db0e9.ldm m) k = gv m k := vec_row (putV_r m _ _ rfl) _
  rw [this]; exact hG.v k h1 h2
theorem RG.ask (hG : RG m F R) : RG (askM m) F R := hG.ldm.up0 0
theorem pv_ldm : pv (ldm m) = pv m := by
  unfold pv gv
  rw [ldm_f m _ rfl]
  exact vec_row (putV_r m _ _ rfl) _
theorem pv_ask : pv (askM m) = pv m := (pv_up0 0).trans pv_ldm
theorem q_asked {post : Int32 → wS → Prop} (h : XC D S x A) (hG : RG m F R) (hK : properB F R (gv m 0) = true → mvOK F R (pv m)) {v : Int} (hi : i32 v)
    (k0 : properB F R (gv m 0) = false → post (iI 0) (xS S x A (up (ldm m) 50 0 1)))
    (k1 : properB F R (gv m 0) = true → ∀ w, clV w → inB v 0 ((movesL F R (pv m)).length - 1) = false → post (iI 0) (xS S x A (lsM (up (ldm m) 50 0 2) 0 (movesL F R (pv m)) w)))
    (k2 : properB F R (gv m 0) = true → ∀ w, clV w → (0 ≤ v ∧ v < (movesL F R (pv m)).length) → post (iI 1) (xS S x A (lsM (askM m) 0 (movesL F R (pv m)) w))) : wp_X12_isAskedMove D post (xS S x A m) x (iI v) := by
  refine q_isAskedMove h hG hK hi k0 (fun c w hw c2 => ?_) (fun c w hw c2 => ?_)
  · have := k1 c w hw c2
    rw [up50_lsM, up_up]
    exact this
  · have := k2 c w hw (by unfold inB at c2; simp at c2; omega)
    rw [up50_lsM, up_up]
    exact this
theorem q_moveFrom {post : Int32 → wS → Prop} (h : XC D S x A) (hG : RG m F R) (hK : properB F R (gv m 0) = true → mvOK F R (pv m)) {v : Int} (hi : i32 v)
    (k0 : properB F R (gv m 0) = false → post (iI 0) (xS S x A (up (ldm m) 50 0 1)))
    (k1 : properB F R (gv m 0) = true → ∀ w, clV w → inB v 0 ((movesL F R (pv m)).length - 1) = false → post (iI 0) (xS S x A (lsM (up (ldm m) 50 0 2) 0 (movesL F R (pv m)) w)))
    (k2 : properB F R (gv m 0) = true → ∀ w, clV w → (0 ≤ v ∧ v < (movesL F R (pv m)).length) → post (iI ((movesL F R (pv m)).getD v.toNat (0, 0, 0)).1) (xS S x A (lsM (askM m) 0 (movesL F R (pv m)) w))) : wp_X12_moveFrom D post (xS S x A m) x (iI v) := by
  unfold wp_X12_moveFrom wp_X12_moveFrom_0
  refine q_asked h hG hK hi (fun c => ?_) (fun c w hw c2 => ?_) (fun c w hw c2 => ?_)
  · simp (discharger := omega) only [nlit, iI_lit, iI_add, iI_sub, iI_mul, iI_neg, bI_z, bI_o, i10, i01, eq_self, bI_nar, nar_0, nar_1, bI_t, bI_f, Option.some.injEq, exists_eq_left', true_and, and_true, forall_eq, not_true_eq_false, not_false_eq_true, forall_const, false_implies, true_implies, Classical.not_not, if_true, if_false, Int.reduceEq, Int.reduceLT, Int.reduceLE, Int.reduceGT, Int.reduceGE, Int.reduceAdd, Int.reduceSub, Int.reduceMul, Int.reduceNeg, Int.reduceNe, Bool.true_and, Bool.and_true, Bool.false_and, Bool.and_false, BEq.rfl, Bool.true_eq_false, Bool.false_eq_true, wp_X12_moveFrom_18]; exact k0 c
  · simp (discharger := omega) only [nlit, iI_lit, iI_add, iI_sub, iI_mul, iI_neg, bI_z, bI_o, i10, i01, eq_self, bI_nar, nar_0, nar_1, bI_t, bI_f, Option.some.injEq, exists_eq_left', true_and, and_true, forall_eq, not_true_eq_false, not_false_eq_true, forall_const, false_implies, true_implies, Classical.not_not, if_true, if_false, Int.reduceEq, Int.reduceLT, Int.reduceLE, Int.reduceGT, Int.reduceGE, Int.reduceAdd, Int.reduceSub, Int.reduceMul, Int.reduceNeg, Int.reduceNe, Bool.true_and, Bool.and_true, Bool.false_and, Bool.and_false, BEq.rfl, Bool.true_eq_false, Bool.false_eq_true, wp_X12_moveFrom_18]; exact k1 c w hw c2
  · have hl := (hK c).2
    have := k2 c w hw c2
    simp (discharger := omega) only [nlit, iI_lit, iI_add, iI_sub, iI_mul, iI_neg, bI_z, bI_o, i10, i01, eq_self, bI_nar, nar_0, nar_1, bI_t, bI_f, Option.some.injEq, exists_eq_left', true_and, and_true, forall_eq, not_true_eq_false, not_false_eq_true, forall_const, false_implies, true_implies, Classical.not_not, if_true, if_false, Int.reduceEq, Int.reduceLT, Int.reduceLE, Int.reduceGT, Int.reduceGE, Int.reduceAdd, Int.reduceSub, Int.reduceMul, Int.reduceNeg, Int.reduceNe, Bool.true_and, Bool.and_true, Bool.false_and, Bool.and_false, BEq.rfl, Bool.true_eq_false, Bool.false_eq_true, wp_X12_moveFrom_18]
    simp (discharger := first | decide | omega) only [x_own h, x_kd h, x_r h, x_m h, x_l h, x_k h, x_n h, x_i0, x_i h, x_u0 h, x_u h, xLen, xKd, nlit, iI_lit, iI_add, iI_sub, iI_mul, iI_neg, bI_z, bI_o, i10, i01, eq_self, bI_nar, nar_0, nar_1, up_at, up_f, Option.some.injEq, exists_eq_left', true_and, and_true, forall_eq, not_true_eq_false, not_false_eq_true, forall_const, false_implies, true_implies, Classical.not_not, if_true, if_false, Int.reduceEq, Int.reduceLT, Int.reduceLE, Int.reduceGT, Int.reduceGE, Int.reduceAdd, Int.reduceSub, Int.reduceMul, Int.reduceNeg, Int.reduceNe, eq_true (iI_in (a := v) (n := 2560) (by omega) (by omega) (by omega))]
    rw [lsM_e0 _ w (Or.inl rfl) c2]
    exact this
theorem q_moveTo {post : Int32 → wS → Prop} (h : XC D S x A) (hG : RG m F R) (hK : properB F R (gv m 0) = true → mvOK F R (pv m)) {v : Int} (hi : i32 v)
    (k0 : properB F R (gv m 0) = false → post (iI 0) (xS S x A (up (ldm m) 50 0 1)))
    (k1 : properB F R (gv m 0) = true → ∀ w, clV w → inB v 0 ((movesL F R (pv m)).length - 1) = false → post (iI 0) (xS S x A (lsM (up (ldm m) 50 0 2) 0 (movesL F R (pv m)) w)))
    (k2 : properB F R (gv m 0) = true → ∀ w, clV w → (0 ≤ v ∧ v < (movesL F R (pv m)).length) → post (iI ((movesL F R (pv m)).getD v.toNat (0, 0, 0)).2.1) (xS S x A (lsM (askM m) 0 (movesL F R (pv m)) w))) : wp_X12_moveTo D post (xS S x A m) x (iI v) := by
  unfold wp_X12_moveTo wp_X12_moveTo_0
  refine q_asked h hG hK hi (fun c => ?_) (fun c w hw c2 => ?_) (fun c w hw c2 => ?_)
  · simp (discharger := omega) only [nlit, iI_lit, iI_add, iI_sub, iI_mul, iI_neg, bI_z, bI_o, i10, i01, eq_self, bI_nar, nar_0, nar_1, bI_t, bI_f, Option.some.injEq, exists_eq_left', true_and, and_true, forall_eq, not_true_eq_false, not_false_eq_true, forall_const, false_implies, true_implies, Classical.not_not, if_true, if_false, Int.reduceEq, Int.reduceLT, Int.reduceLE, Int.reduceGT, Int.reduceGE, Int.reduceAdd, Int.reduceSub, Int.reduceMul, Int.reduceNeg, Int.reduceNe, Bool.true_and, Bool.and_true, Bool.false_and, Bool.and_false, BEq.rfl, Bool.true_eq_false, Bool.false_eq_true, wp_X12_moveTo_18]; exact k0 c
  · simp (discharger := omega) only [nlit, iI_lit, iI_add, iI_sub, iI_mul, iI_neg, bI_z, bI_o, i10, i01, eq_self, bI_nar, nar_0, nar_1, bI_t, bI_f, Option.some.injEq, exists_eq_left', true_and, and_true, forall_eq, not_true_eq_false, not_false_eq_true, forall_const, false_implies, true_implies, Classical.not_not, if_true, if_false, Int.reduceEq, Int.reduceLT, Int.reduceLE, Int.reduceGT, Int.reduceGE, Int.reduceAdd, Int.reduceSub, Int.reduceMul, Int.reduceNeg, Int.reduceNe, Bool.true_and, Bool.and_true, Bool.false_and, Bool.and_false, BEq.rfl, Bool.true_eq_false, Bool.false_eq_true, wp_X12_moveTo_18]; exact k1 c w hw c2
  · have hl := (hK c).2
    have := k2 c w hw c2
    simp (discharger := omega) only [nlit, iI_lit, iI_add, iI_sub, iI_mul, iI_neg, bI_z, bI_o, i10, i01, eq_self, bI_nar, nar_0, nar_1, bI_t, bI_f, Option.some.injEq, exists_eq_left', true_and, and_true, forall_eq, not_true_eq_false, not_false_eq_true, forall_const, false_implies, true_implies, Classical.not_not, if_true, if_false, Int.reduceEq, Int.reduceLT, Int.reduceLE, Int.reduceGT, Int.reduceGE, Int.reduceAdd, Int.reduceSub, Int.reduceMul, Int.reduceNeg, Int.reduceNe, Bool.true_and, Bool.and_true, Bool.false_and, Bool.and_false, BEq.rfl, Bool.true_eq_false, Bool.false_eq_true, wp_X12_moveTo_18]
    simp (discharger := first | decide | omega) only [x_own h, x_kd h, x_r h, x_m h, x_l h, x_k h, x_n h, x_i0, x_i h, x_u0 h, x_u h, xLen, xKd, nlit, iI_lit, iI_add, iI_sub, iI_mul, iI_neg, bI_z, bI_o, i10, i01, eq_self, bI_nar, nar_0, nar_1, up_at, up_f, Option.some.injEq, exists_eq_left', true_and, and_true, forall_eq, not_true_eq_false, not_false_eq_true, forall_const, false_implies, true_implies, Classical.not_not, if_true, if_false, Int.reduceEq, Int.reduceLT, Int.reduceLE, Int.reduceGT, Int.reduceGE, Int.reduceAdd, Int.reduceSub, Int.reduceMul, Int.reduceNeg, Int.reduceNe, eq_true (iI_in (a := v) (n := 2560) (by omega) (by omega) (by omega))]
    rw [lsM_e0 _ w (Or.inr (Or.inl rfl)) c2]
    exact this
theorem q_moveBecomes {post : Int32 → wS → Prop} (h : XC D S x A) (hG : RG m F R) (hK : properB F R (gv m 0) = true → mvOK F R (pv m)) {v : Int} (hi : i32 v)
    (k0 : properB F R (gv m 0) = false → post (iI 0) (xS S x A (up (ldm m) 50 0 1)))
    (k1 : properB F R (gv m 0) = true → ∀ w, clV w → inB v 0 ((movesL F R (pv m)).length - 1) = false → post (iI 0) (xS S x A (lsM (up (ldm m) 50 0 2) 0 (movesL F R (pv m)) w)))
    (k2 : properB F R (gv m 0) = true → ∀ w, clV w → (0 ≤ v ∧ v < (movesL F R (pv m)).length) → post (iI ((movesL F R (pv m)).getD v.toNat (0, 0, 0)).2.2) (xS S x A (lsM (askM m) 0 (movesL F R (pv m)) w))) : wp_X12_moveBecomes D post (xS S x A m) x (iI v) := by
  unfold wp_X12_moveBecomes wp_X12_moveBecomes_0
  refine q_asked h hG hK hi (fun c => ?_) (fun c w hw c2 => ?_) (fun c w hw c2 => ?_)
  · simp (discharger := omega) only [nlit, iI_lit, iI_add, iI_sub, iI_mul, iI_neg, bI_z, bI_o, i10, i01, eq_self, bI_nar, nar_0, nar_1, bI_t, bI_f, Option.some.injEq, exists_eq_left', true_and, and_true, forall_eq, not_true_eq_false, not_false_eq_true, forall_const, false_implies, true_implies, Classical.not_not, if_true, if_false, Int.reduceEq, Int.reduceLT, Int.reduceLE, Int.reduceGT, Int.reduceGE, Int.reduceAdd, Int.reduceSub, Int.reduceMul, Int.reduceNeg, Int.reduceNe, Bool.true_and, Bool.and_true, Bool.false_and, Bool.and_false, BEq.rfl, Bool.true_eq_false, Bool.false_eq_true, wp_X12_moveBecomes_18]; exact k0 c
  · simp (discharger := omega) only [nlit, iI_lit, iI_add, iI_sub, iI_mul, iI_neg, bI_z, bI_o, i10, i01, eq_self, bI_nar, nar_0, nar_1, bI_t, bI_f, Option.some.injEq, exists_eq_left', true_and, and_true, forall_eq, not_true_eq_false, not_false_eq_true, forall_const, false_implies, true_implies, Classical.not_not, if_true, if_false, Int.reduceEq, Int.reduceLT, Int.reduceLE, Int.reduceGT, Int.reduceGE, Int.reduceAdd, Int.reduceSub, Int.reduceMul, Int.reduceNeg, Int.reduceNe, Bool.true_and, Bool.and_true, Bool.false_and, Bool.and_false, BEq.rfl, Bool.true_eq_false, Bool.false_eq_true, wp_X12_moveBecomes_18]; exact k1 c w hw c2
  · have hl := (hK c).2
    have := k2 c w hw c2
    simp (discharger := omega) only [nlit, iI_lit, iI_add, iI_sub, iI_mul, iI_neg, bI_z, bI_o, i10, i01, eq_self, bI_nar, nar_0, nar_1, bI_t, bI_f, Option.some.injEq, exists_eq_left', true_and, and_true, forall_eq, not_true_eq_false, not_false_eq_true, forall_const, false_implies, true_implies, Classical.not_not, if_true, if_false, Int.reduceEq, Int.reduceLT, Int.reduceLE, Int.reduceGT, Int.reduceGE, Int.reduceAdd, Int.reduceSub, Int.reduceMul, Int.reduceNeg, Int.reduceNe, Bool.true_and, Bool.and_true, Bool.false_and, Bool.and_false, BEq.rfl, Bool.true_eq_false, Bool.false_eq_true, wp_X12_moveBecomes_18]
    simp (discharger := first | decide | omega) only [x_own h, x_kd h, x_r h, x_m h, x_l h, x_k h, x_n h, x_i0, x_i h, x_u0 h, x_u h, xLen, xKd, nlit, iI_lit, iI_add, iI_sub, iI_mul, iI_neg, bI_z, bI_o, i10, i01, eq_self, bI_nar, nar_0, nar_1, up_at, up_f, Option.some.injEq, exists_eq_left', true_and, and_true, forall_eq, not_true_eq_false, not_false_eq_true, forall_const, false_implies, true_implies, Classical.not_not, if_true, if_false, Int.reduceEq, Int.reduceLT, Int.reduceLE, Int.reduceGT, Int.reduceGE, Int.reduceAdd, Int.reduceSub, Int.reduceMul, Int.reduceNeg, Int.reduceNe, eq_true (iI_in (a := v) (n := 2560) (by omega) (by omega) (by omega))]
    rw [lsM_e0 _ w (Or.inr (Or.inr rfl)) c2]
    exact this
theorem q_spellsWholeV {post : wS → Prop} (h : XC D S x A) (hB : XB m F R) {v0 : Int → Int} (hlv : lv m 0 = v0) {w : Int → Int} (hv : okV F R v0) (hLn : (movesL F R v0).length ≤ 320) {mv : Int} {t : Mv} (hm : 0 ≤ mv ∧ mv < (movesL F R v0).length) (ht : t = (movesL F R v0).getD mv.toNat (0, 0, 0)) (hu : stOK F R (mkT F R v0 t))
    (k : ∀ m', scr (spM (lsM m 0 (movesL F R v0) w) mv (sanW F R v0 (movesL F R v0) t)) m' → post (xS S x A m')) : wp_X12_spellsWhole D post (xS S x A (lsM m 0 (movesL F R v0) w)) x (iI mv) := by
  subst hlv
  exact q_spellsWhole h hB hv hLn hm ht hu k
theorem q_writeMove {post : Int32 → wS → Prop} (h : XC D S x A) (hG : RG m F R) (hK : properB F R (gv m 0) = true → mvOK F R (pv m) ∧ ∀ t ∈ movesL F R (pv m), stOK F R (mkT F R (pv m) t)) {v : Int} (hi : i32 v)
    (k0 : properB F R (gv m 0) = false → post (iI 0) (xS S x A (up (ldm m) 50 0 1)))
    (k1 : properB F R (gv m 0) = true → ∀ w, clV w → inB v 0 ((movesL F R (pv m)).length - 1) = false → post (iI 0) (xS S x A (lsM (up (ldm m) 50 0 2) 0 (movesL F R (pv m)) w)))
    (k2 : properB F R (gv m 0) = true → (0 ≤ v ∧ v < (movesL F R (pv m)).length) → ∀ w t W m', clV w → t = (movesL F R (pv m)).getD v.toNat (0, 0, 0) → W = sanW F R (pv m) (movesL F R (pv m)) t → scr (spM (lsM (askM m) 0 (movesL F R (pv m)) w) v W) m' →
      post (iI W.length) (xS S x A (cpy (up m' 50 15 W.length) 17 (12 * v) 14 0 W.length))) : wp_X12_writeMove D post (xS S x A m) x (iI v) := by
  unfold wp_X12_writeMove wp_X12_writeMove_0
  refine q_asked h hG (fun c => (hK c).1) hi (fun c => ?_) (fun c w hw c2 => ?_) (fun c w hw c2 => ?_)
  · simp (discharger := omega) only [nlit, iI_lit, iI_add, iI_sub, iI_mul, iI_neg, bI_z, bI_o, i10, i01, eq_self, bI_nar, nar_0, nar_1, bI_t, bI_f, Option.some.injEq, exists_eq_left', true_and, and_true, forall_eq, not_true_eq_false, not_false_eq_true, forall_const, false_implies, true_implies, Classical.not_not, if_true, if_false, Int.reduceEq, Int.reduceLT, Int.reduceLE, Int.reduceGT, Int.reduceGE, Int.reduceAdd, Int.reduceSub, Int.reduceMul, Int.reduceNeg, Int.reduceNe, Bool.true_and, Bool.and_true, Bool.false_and, Bool.and_false, BEq.rfl, Bool.true_eq_false, Bool.false_eq_true]; exact k0 c
  · simp (discharger := omega) only [nlit, iI_lit, iI_add, iI_sub, iI_mul, iI_neg, bI_z, bI_o, i10, i01, eq_self, bI_nar, nar_0, nar_1, bI_t, bI_f, Option.some.injEq, exists_eq_left', true_and, and_true, forall_eq, not_true_eq_false, not_false_eq_true, forall_const, false_implies, true_implies, Classical.not_not, if_true, if_false, Int.reduceEq, Int.reduceLT, Int.reduceLE, Int.reduceGT, Int.reduceGE, Int.reduceAdd, Int.reduceSub, Int.reduceMul, Int.reduceNeg, Int.reduceNe, Bool.true_and, Bool.and_true, Bool.false_and, Bool.and_false, BEq.rfl, Bool.true_eq_false, Bool.false_eq_true]; exact k1 c w hw c2
  · have hl := (hK c).1.2
    have hu := (hK c).2 _ (getD_mem c2)
    have k2 := k2 c c2 w
    have el : lv (askM m) 0 = pv m := askM_lv
    have hGa := hG.ask
    simp (discharger := omega) only [nlit, iI_lit, iI_add, iI_sub, iI_mul, iI_neg, bI_z, bI_o, i10, i01, eq_self, bI_nar, nar_0, nar_1, bI_t, bI_f, Option.some.injEq, exists_eq_left', true_and, and_true, forall_eq, not_true_eq_false, not_false_eq_true, forall_const, false_implies, true_implies, Classical.not_not, if_true, if_false, Int.reduceEq, Int.reduceLT, Int.reduceLE, Int.reduceGT, Int.reduceGE, Int.reduceAdd, Int.reduceSub, Int.reduceMul, Int.reduceNeg, Int.reduceNe, Bool.true_and, Bool.and_true, Bool.false_and, Bool.and_false, BEq.rfl, Bool.true_eq_false, Bool.false_eq_true]
    refine q_spellsWholeV h hGa.b el hG.pv hl c2 rfl hu ?_
    intro m' hm'
    have k2 := k2 _ _ m' hw rfl rfl hm'
    have hlen := sanW_len F R (pv m) (movesL F R (pv m)) ((movesL F R (pv m)).getD v.toNat (0, 0, 0))
    have e18 : m' 18 v = (sanW F R (pv m) (movesL F R (pv m)) ((movesL F R (pv m)).getD v.toNat (0, 0, 0))).length := by
      rw [hm'.row (r := 18) rfl, spM_n]
    generalize (sanW F R (pv m) (movesL F R (pv m)) ((movesL F R (pv m)).getD v.toNat (0, 0, 0))) = W at *
    simp (discharger := first | decide | omega) only [x_own h, x_kd h, x_r h, x_m h, x_l h, x_k h, x_n h, x_i0, x_i h, x_u0 h, x_u h, xLen, xKd, nlit, iI_lit, iI_add, iI_sub, iI_mul, iI_neg, bI_z, bI_o, i10, i01, eq_self, bI_nar, nar_0, nar_1, up_at, up_f, Option.some.injEq, exists_eq_left', true_and, and_true, forall_eq, not_true_eq_false, not_false_eq_true, forall_const, false_implies, true_implies, Classical.not_not, if_true, if_false, Int.reduceEq, Int.reduceLT, Int.reduceLE, Int.reduceGT, Int.reduceGE, Int.reduceAdd, Int.reduceSub, Int.reduceMul, Int.reduceNeg, Int.reduceNe, eq_true (iI_in (a := v) (n := 320) (by omega) (by omega) (by omega)), e18]
    refine q_copies (f := 17) (g := 14) h (by decide) (by decide) (by omega) (by decide) (by omega) (by simp only [xLen]; omega) (by simp only [xLen]; omega) (fun e => by cases e) ?_
    simp (discharger := first | decide | omega) only [x_own h, x_kd h, x_r h, x_m h, x_l h, x_k h, x_n h, x_i0, x_i h, x_u0 h, x_u h, xLen, xKd, nlit, iI_lit, iI_add, iI_sub, iI_mul, iI_neg, bI_z, bI_o, i10, i01, eq_self, bI_nar, nar_0, nar_1, up_at, up_f, Option.some.injEq, exists_eq_left', true_and, and_true, forall_eq, not_true_eq_false, not_false_eq_true, forall_const, false_implies, true_implies, Classical.not_not, if_true, if_false, Int.reduceEq, Int.reduceLT, Int.reduceLE, Int.reduceGT, Int.reduceGE, Int.reduceAdd, Int.reduceSub, Int.reduceMul, Int.reduceNeg, Int.reduceNe, cpy_ne, e18]
    exact k2
end
