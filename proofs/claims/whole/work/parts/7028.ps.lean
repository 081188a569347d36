def codeT (t : Mv) : Int := 4096 * t.2.2 + 64 * t.1 + t.2.1
def loudB (F : Int) (v : Int → Int) (t : Mv) : Bool := decide (kindO (v t.1) = 6) || takesB F v t.1 t.2.1
def play1 (F : Int) (m : xM) (t : Mv) : xM := up (up m 9 (m 50 11) (codeT t)) 10 (m 50 11) (bI (loudB F (pv m) t))
/-- the state behind a move that is made in the present game -/
def playM (F R : Int) (m : xM) (L : List Mv) (t : Mv) : xM := ldm (cpy (up (lsM (play1 F m t) 0 L (mkT F R (pv m) t)) 50 11 (m 50 11 + 1)) 3 67 8 (67 * (m 50 11 + 1)) 67)
section
variable {D : wD} {S : wS} {x : Nat} {A : Nat → Nat} {m : xM} {F R : Int}
theorem q_codeOf {post : Int32 → wS → Prop} (h : XC D S x A) {L : List Mv} {w : Int → Int} (hLn : L.length ≤ 320) {mv : Int} {t : Mv} (hm : 0 ≤ mv ∧ mv < L.length) (ht : t = L.getD mv.toNat (0, 0, 0)) : wp_X12_codeOf D post (xS S x A (lsM m 0 L w)) x (iI mv) = post (iI (codeT t)) (xS S x A (lsM m 0 L w)) := by
  have im : vp_in (iI mv) 2560 := iI_in (by omega) (by omega) (by omega)
  simp (discharger := first | decide | omega) only [x_own h, x_kd h, x_r h, x_m h, x_l h, x_k h, x_n h, x_i0, x_i h, x_u0 h, x_u h, xLen, xKd, nlit, iI_lit, iI_add, iI_sub, iI_mul, iI_neg, bI_z, bI_o, i10, i01, eq_self, bI_nar, nar_0, nar_1, up_at, up_f, Option.some.injEq, exists_eq_left', true_and, and_true, forall_eq, not_true_eq_false, not_false_eq_true, forall_const, false_implies, true_implies, Classical.not_not, if_true, if_false, Int.reduceEq, Int.reduceLT, Int.reduceLE, Int.reduceGT, Int.reduceGE, Int.reduceAdd, Int.reduceSub, Int.reduceMul, Int.reduceNeg, Int.reduceNe, wp_X12_codeOf, wp_X12_codeOf_0, eq_true im]
  rw [lsM_e0 m w (Or.inl rfl) hm, lsM_e0 m w (Or.inr (Or.inl rfl)) hm, lsM_e0 m w (Or.inr (Or.inr rfl)) hm, ← ht]
  rfl
theorem up_lsM (m : xM) (L : List Mv) (w : Int → Int) {f : Nat} (a v : Int) (hf : (f == 3 || f == 7 || f == 4 || f == 5 || f == 6) = false) : up (lsM m 0 L w) f a v = lsM (up m f a v) 0 L w := by
  funext r i
  by_cases c : r = f
  · subst c
    rw [lsM_f _ _ _ _ _ hf]
    by_cases e : i = a
    · subst e; rw [up_at, up_at]
    · rw [up_ne _ (Or.inr e), up_ne _ (Or.inr e), lsM_f _ _ _ _ _ hf]
  · rw [up_ne _ (Or.inl c)]
    unfold lsM putV
    split
    · rfl
    · unfold putL
      split
      · rfl
      · split
        · rfl
        · rw [up_ne _ (Or.inl c)]
theorem up_lv {f : Nat} (a v l : Int) (hf : (3 == f) = false) : lv (up m f a v) l = lv m l := lv_row3 (up_r m a v hf) l
theorem play1_lv (t : Mv) (l : Int) : lv (play1 F m t) l = lv m l := (up_lv _ _ _ rfl).trans (up_lv _ _ _ rfl)
theorem q_plays {post : wS → Prop} (h : XC D S x A) (hG : RG m F R) (hlv : lv m 0 = pv m) (hmd : m 50 11 < 80) {w : Int → Int} (hLn : (movesL F R (pv m)).length ≤ 320) {mv : Int} {t : Mv} (hm : 0 ≤ mv ∧ mv < (movesL F R (pv m)).length) (ht : t = (movesL F R (pv m)).getD mv.toNat (0, 0, 0))
    (k : post (xS S x A (playM F R m (movesL F R (pv m)) t))) : wp_X12_plays D post (xS S x A (lsM m 0 (movesL F R (pv m)) w)) x (iI mv) := by
  have hn := hG.b.n
  have h4 := hG.b.f4; have h8 := hG.b.f8; have r4 := hG.b.r4; have r8 := hG.b.r8
  have hm0 := hG.m0
  have im : vp_in (iI mv) 2560 := iI_in (by omega) (by omega) (by omega)
  have i80 : vp_in (iI (m 50 11)) 80 := iI_in (by omega) (by omega) (by omega)
  have ok := movesL_mem (F := F) (R := R) (by omega) (getD_mem hm)
  rw [← ht] at ok
  have a1 := ok.1; have a2 := ok.2.1
  have p1 := hG.pv.p t.1 a1.1 (by omega)
  have k1 := kindO_r p1
  have e11 : ∀ w', lsM m 0 (movesL F R (pv m)) w' 50 11 = m 50 11 := fun w' => lsM_f m 0 _ w' _ rfl
  have e4 : lsM m 0 (movesL F R (pv m)) w 4 mv = t.1 := by rw [ht]; exact lsM_e0 m w (Or.inl rfl) hm
  have e5 : lsM m 0 (movesL F R (pv m)) w 5 mv = t.2.1 := by rw [ht]; exact lsM_e0 m w (Or.inr (Or.inl rfl)) hm
  have el : lv (up (lsM m 0 (movesL F R (pv m)) w) 9 (m 50 11) (codeT t)) 0 = pv m := (up_lv _ _ _ rfl).trans ((lsM_lv m 0 _ w).trans hlv)
  have hB1 : XB (up (lsM m 0 (movesL F R (pv m)) w) 9 (m 50 11) (codeT t)) F R := by
    have := hG.b.ls 0 (movesL F R (pv m)) w
    exact ⟨by rw [up_f _ _ _ _ rfl]; exact this.f, by rw [up_f _ _ _ _ rfl]; exact this.r, this.2.2⟩
  have k66 : ∀ lo : Bool, lo = loudB F (pv m) t → wp_X12_plays_66 D post (xS S x A (up (lsM m 0 (movesL F R (pv m)) w) 9 (m 50 11) (codeT t))) x (iI mv) (A 10) (iI (m 50 11)) (iI (bI lo)) := by
    intro lo hlo
    have nar : vp_nar .boolean (iI (bI lo)) = iI (bI lo) := by cases lo <;> rfl
    have es : up (up (lsM m 0 (movesL F R (pv m)) w) 9 (m 50 11) (codeT t)) 10 (m 50 11) (bI lo) = lsM (play1 F m t) 0 (movesL F R (pv m)) w := by
      rw [up_lsM _ _ _ _ _ rfl, up_lsM _ _ _ _ _ rfl, hlo]
      rfl
    simp (discharger := first | decide | omega) only [x_own h, x_kd h, x_r h, x_m h, x_l h, x_k h, x_n h, x_i0, x_i h, x_u0 h, x_u h, xLen, xKd, nlit, iI_lit, iI_add, iI_sub, iI_mul, iI_neg, bI_z, bI_o, i10, i01, eq_self, bI_nar, nar_0, nar_1, up_at, up_f, Option.some.injEq, exists_eq_left', true_and, and_true, forall_eq, not_true_eq_false, not_false_eq_true, forall_const, false_implies, true_implies, Classical.not_not, if_true, if_false, Int.reduceEq, Int.reduceLT, Int.reduceLE, Int.reduceGT, Int.reduceGE, Int.reduceAdd, Int.reduceSub, Int.reduceMul, Int.reduceNeg, Int.reduceNe, wp_X12_plays_66, nar, eq_true i80]
    rw [es]
    have l1 : lv (play1 F m t) 0 = pv m := (play1_lv t 0).trans hlv
    have hBp : XB (play1 F m t) F R := by
      unfold play1
      exact ⟨by rw [up_f _ _ _ _ rfl, up_f _ _ _ _ rfl]; exact hG.b.f, by rw [up_f _ _ _ _ rfl, up_f _ _ _ _ rfl]; exact hG.b.r, hG.b.2.2⟩
    have q : ∀ P : wS → Prop, P (xS S x A (lsM (play1 F m t) 0 (movesL F R (pv m)) (mkT F R (pv m) t))) → wp_X12_makesListed D P (xS S x A (lsM (play1 F m t) 0 (movesL F R (pv m)) w)) x (iI 0) (iI mv) := by
      intro P hP
      rw [← l1] at hP hLn hm ⊢
      refine q_makesListed h hBp (by decide) (by rw [l1]; exact hG.pv) hLn hm ?_
      intro t' ht' _
      rw [l1] at ht' ⊢
      rw [l1] at hP
      rw [ht', ← ht]
      exact hP
    refine q _ ?_
    have c11 : lsM (play1 F m t) 0 (movesL F R (pv m)) (mkT F R (pv m) t) 50 11 = m 50 11 := by
      rw [lsM_f _ _ _ _ _ rfl]
      unfold play1
      rw [up_f _ _ _ _ rfl, up_f _ _ _ _ rfl]
    simp (discharger := first | decide | omega) only [x_own h, x_kd h, x_r h, x_m h, x_l h, x_k h, x_n h, x_i0, x_i h, x_u0 h, x_u h, xLen, xKd, nlit, iI_lit, iI_add, iI_sub, iI_mul, iI_neg, bI_z, bI_o, i10, i01, eq_self, bI_nar, nar_0, nar_1, up_at, up_f, Option.some.injEq, exists_eq_left', true_and, and_true, forall_eq, not_true_eq_false, not_false_eq_true, forall_const, false_implies, true_implies, Classical.not_not, if_true, if_false, Int.reduceEq, Int.reduceLT, Int.reduceLE, Int.reduceGT, Int.reduceGE, Int.reduceAdd, Int.reduceSub, Int.reduceMul, Int.reduceNeg, Int.reduceNe, c11]
    rw [q_presentAt, up_at]
    refine q_copies (f := 3) (g := 8) h (by decide) (by decide) (by decide) (by omega) (by decide) (by decide) (by simp only [xLen]; omega) (fun e => by cases e) ?_
    refine q_loads h (by rw [cpy_ne _ rfl, up_at]; omega) ?_
    exact k
  have k61 : loudB F (pv m) t = true → wp_X12_plays_61 D post (xS S x A (up (lsM m 0 (movesL F R (pv m)) w) 9 (m 50 11) (codeT t))) x (iI mv) (A 10) (iI (m 50 11)) := fun z => by
    unfold wp_X12_plays_61
    exact k66 true z.symm
  simp (discharger := first | decide | omega) only [x_own h, x_kd h, x_r h, x_m h, x_l h, x_k h, x_n h, x_i0, x_i h, x_u0 h, x_u h, xLen, xKd, nlit, iI_lit, iI_add, iI_sub, iI_mul, iI_neg, bI_z, bI_o, i10, i01, eq_self, bI_nar, nar_0, nar_1, up_at, up_f, Option.some.injEq, exists_eq_left', true_and, and_true, forall_eq, not_true_eq_false, not_false_eq_true, forall_const, false_implies, true_implies, Classical.not_not, if_true, if_false, Int.reduceEq, Int.reduceLT, Int.reduceLE, Int.reduceGT, Int.reduceGE, Int.reduceAdd, Int.reduceSub, Int.reduceMul, Int.reduceNeg, Int.reduceNe, wp_X12_plays, wp_X12_plays_0]
  rw [q_codeOf h hLn hm ht]
  simp (discharger := first | decide | omega) only [x_own h, x_kd h, x_r h, x_m h, x_l h, x_k h, x_n h, x_i0, x_i h, x_u0 h, x_u h, xLen, xKd, nlit, iI_lit, iI_add, iI_sub, iI_mul, iI_neg, bI_z, bI_o, i10, i01, eq_self, bI_nar, nar_0, nar_1, up_at, up_f, Option.some.injEq, exists_eq_left', true_and, and_true, forall_eq, not_true_eq_false, not_false_eq_true, forall_const, false_implies, true_implies, Classical.not_not, if_true, if_false, Int.reduceEq, Int.reduceLT, Int.reduceLE, Int.reduceGT, Int.reduceGE, Int.reduceAdd, Int.reduceSub, Int.reduceMul, Int.reduceNeg, Int.reduceNe, e11, e4, e5, eq_true i80, eq_true im]
  rw [q_on h (by decide) (by omega) (by omega), el, q_kindOf p1]
  simp (discharger := omega) only [nlit, iI_lit, iI_add, iI_sub, iI_mul, iI_neg, bI_z, bI_o, i10, i01, eq_self, bI_nar, nar_0, nar_1, bI_t, bI_f, Option.some.injEq, exists_eq_left', true_and, and_true, forall_eq, not_true_eq_false, not_false_eq_true, forall_const, false_implies, true_implies, Classical.not_not, if_true, if_false, Int.reduceEq, Int.reduceLT, Int.reduceLE, Int.reduceGT, Int.reduceGE, Int.reduceAdd, Int.reduceSub, Int.reduceMul, Int.reduceNeg, Int.reduceNe, Bool.true_and, Bool.and_true, Bool.false_and, Bool.and_false, BEq.rfl, Bool.true_eq_false, Bool.false_eq_true, iI_eq]
  by_cases c1 : kindO (pv m t.1) = 6
  · simp (discharger := omega) only [nlit, iI_lit, iI_add, iI_sub, iI_mul, iI_neg, bI_z, bI_o, i10, i01, eq_self, bI_nar, nar_0, nar_1, bI_t, bI_f, Option.some.injEq, exists_eq_left', true_and, and_true, forall_eq, not_true_eq_false, not_false_eq_true, forall_const, false_implies, true_implies, Classical.not_not, if_true, if_false, Int.reduceEq, Int.reduceLT, Int.reduceLE, Int.reduceGT, Int.reduceGE, Int.reduceAdd, Int.reduceSub, Int.reduceMul, Int.reduceNeg, Int.reduceNe, Bool.true_and, Bool.and_true, Bool.false_and, Bool.and_false, BEq.rfl, Bool.true_eq_false, Bool.false_eq_true, c1]
    exact k61 (by simp [loudB, c1])
  · simp (discharger := omega) only [nlit, iI_lit, iI_add, iI_sub, iI_mul, iI_neg, bI_z, bI_o, i10, i01, eq_self, bI_nar, nar_0, nar_1, bI_t, bI_f, Option.some.injEq, exists_eq_left', true_and, and_true, forall_eq, not_true_eq_false, not_false_eq_true, forall_const, false_implies, true_implies, Classical.not_not, if_true, if_false, Int.reduceEq, Int.reduceLT, Int.reduceLE, Int.reduceGT, Int.reduceGE, Int.reduceAdd, Int.reduceSub, Int.reduceMul, Int.reduceNeg, Int.reduceNe, Bool.true_and, Bool.and_true, Bool.false_and, Bool.and_false, BEq.rfl, Bool.true_eq_false, Bool.false_eq_true, c1]
    simp (discharger := first | decide | omega) only [x_own h, x_kd h, x_r h, x_m h, x_l h, x_k h, x_n h, x_i0, x_i h, x_u0 h, x_u h, xLen, xKd, nlit, iI_lit, iI_add, iI_sub, iI_mul, iI_neg, bI_z, bI_o, i10, i01, eq_self, bI_nar, nar_0, nar_1, up_at, up_f, Option.some.injEq, exists_eq_left', true_and, and_true, forall_eq, not_true_eq_false, not_false_eq_true, forall_const, false_implies, true_implies, Classical.not_not, if_true, if_false, Int.reduceEq, Int.reduceLT, Int.reduceLE, Int.reduceGT, Int.reduceGE, Int.reduceAdd, Int.reduceSub, Int.reduceMul, Int.reduceNeg, Int.reduceNe, e4, e5, eq_true im]
    refine q_takes h hB1 (by decide) (by rw [el]; exact hG.pv) (by omega) (by omega) ?_
    rw [el]
    try simp (discharger := omega) only [nlit, iI_lit, iI_add, iI_sub, iI_mul, iI_neg, bI_z, bI_o, i10, i01, eq_self, bI_nar, nar_0, nar_1, bI_t, bI_f, Option.some.injEq, exists_eq_left', true_and, and_true, forall_eq, not_true_eq_false, not_false_eq_true, forall_const, false_implies, true_implies, Classical.not_not, if_true, if_false, Int.reduceEq, Int.reduceLT, Int.reduceLE, Int.reduceGT, Int.reduceGE, Int.reduceAdd, Int.reduceSub, Int.reduceMul, Int.reduceNeg, Int.reduceNe, Bool.true_and, Bool.and_true, Bool.false_and, Bool.and_false, BEq.rfl, Bool.true_eq_false, Bool.false_eq_true]
    cases c2 : takesB F (pv m) t.1 t.2.1
    · try simp (discharger := omega) only [nlit, iI_lit, iI_add, iI_sub, iI_mul, iI_neg, bI_z, bI_o, i10, i01, eq_self, bI_nar, nar_0, nar_1, bI_t, bI_f, Option.some.injEq, exists_eq_left', true_and, and_true, forall_eq, not_true_eq_false, not_false_eq_true, forall_const, false_implies, true_implies, Classical.not_not, if_true, if_false, Int.reduceEq, Int.reduceLT, Int.reduceLE, Int.reduceGT, Int.reduceGE, Int.reduceAdd, Int.reduceSub, Int.reduceMul, Int.reduceNeg, Int.reduceNe, Bool.true_and, Bool.and_true, Bool.false_and, Bool.and_false, BEq.rfl, Bool.true_eq_false, Bool.false_eq_true]
      exact k66 false (by simp [loudB, c1, c2])
    · try simp (discharger := omega) only [nlit, iI_lit, iI_add, iI_sub, iI_mul, iI_neg, bI_z, bI_o, i10, i01, eq_self, bI_nar, nar_0, nar_1, bI_t, bI_f, Option.some.injEq, exists_eq_left', true_and, and_true, forall_eq, not_true_eq_false, not_false_eq_true, forall_const, false_implies, true_implies, Classical.not_not, if_true, if_false, Int.reduceEq, Int.reduceLT, Int.reduceLE, Int.reduceGT, Int.reduceGE, Int.reduceAdd, Int.reduceSub, Int.reduceMul, Int.reduceNeg, Int.reduceNe, Bool.true_and, Bool.and_true, Bool.false_and, Bool.and_false, BEq.rfl, Bool.true_eq_false, Bool.false_eq_true]
      exact k61 (by simp [loudB, c1, c2])
end
