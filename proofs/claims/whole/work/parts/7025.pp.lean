theorem spM_lsM (m : xM) (mv : Int) (W : List Int) (L : List Mv) (w : Int → Int) : spM (lsM m 0 L w) mv W = lsM (spM m mv W) 0 L w := by
  funext r j
  by_cases c : r = 17 ∨ r = 18
  · rw [lsM_f _ 0 L w j (by rcases c with e | e <;> subst e <;> rfl)]
    unfold spM
    split
    · rfl
    · split
      · rfl
      · exact lsM_f _ 0 L w j (by rcases c with e | e <;> subst e <;> rfl)
  · have hr : (r == 17 || r == 18) = false := by simp; omega
    rw [spM_f _ _ _ _ hr]
    unfold lsM putV
    split
    · rfl
    · unfold putL
      split
      · rfl
      · split
        · rfl
        · exact (spM_f _ _ _ _ hr).symm
/-- what stands listed at level 0 -/
def Ls (m : xM) (L : List Mv) : Prop := m 7 0 = L.length ∧ ∀ k : Int, 0 ≤ k → k < L.length → ∀ r, (r = 4 ∨ r = 5 ∨ r = 6) → m r k = pickM r (L.getD k.toNat (0, 0, 0))
theorem Ls_lsM {m : xM} {L : List Mv} (h : Ls m L) : lsM m 0 L (lv m 1) = m := by
  have e : lv (putL m 0 L) 1 = lv m 1 := lv_putL _ _ _ _
  unfold lsM
  rw [← e]
  have := putV_lv (putL m 0 L) 1
  rw [show (67 : Int) * (0 + 1) = 67 * 1 by decide, this]
  funext r j
  unfold putL
  by_cases c : r = 7 ∧ j = 0
  · rw [if_pos c, c.1, c.2]; exact h.1.symm
  · rw [if_neg c]
    by_cases c2 : (r = 4 ∨ r = 5 ∨ r = 6) ∧ 320 * 0 ≤ j ∧ j < 320 * 0 + L.length
    · rw [if_pos c2, h.2 j (by omega) (by omega) r c2.1]
      congr 2; omega
    · rw [if_neg c2]
theorem lsM_Ls (m : xM) (L : List Mv) (w : Int → Int) : Ls (lsM m 0 L w) L :=
  ⟨lsM_n m 0 L w, fun k h1 h2 r hr => lsM_e0 m w hr ⟨h1, h2⟩⟩
/-- the same, but for what stands at the levels from 1 on -/
def scr (m m' : xM) : Prop := ∀ r j, ¬ (r = 3 ∧ 67 ≤ j) → ¬ ((r = 4 ∨ r = 5 ∨ r = 6) ∧ 320 ≤ j) → ¬ (r = 7 ∧ 1 ≤ j) → m' r j = m r j
theorem scr.refl (m : xM) : scr m m := fun _ _ _ _ _ => rfl
theorem scr.trans {m m' m'' : xM} (h : scr m m') (h' : scr m' m'') : scr m m'' := fun r j a b c => (h' r j a b c).trans (h r j a b c)
theorem scr.row {m m' : xM} (h : scr m m') {r : Nat} (hr : (r == 3 || r == 7 || r == 4 || r == 5 || r == 6) = false) : m' r = m r := by
  simp at hr
  funext j
  exact h r j (by omega) (by omega) (by omega)
theorem scr.lv {m m' : xM} (h : scr m m') : lv m' 0 = lv m 0 := by
  funext k
  unfold Jvm.Pilot.COpeningsCabinetLaw_law_r5693_3db0e9.lv vec
  by_cases c : 0 ≤ k ∧ k < 67
  · rw [if_pos c, if_pos c]; exact h 3 _ (by omega) (by omega) (by omega)
  · rw [if_neg c, if_neg c]
theorem scr.Ls {m m' : xM} (h : scr m m') {L : List Mv} (hL : Ls m L) (hn : L.length ≤ 320) : Ls m' L := by
  refine ⟨(h 7 0 (by omega) (by omega) (by omega)).trans hL.1, fun k h1 h2 r hr => ?_⟩
  exact (h r k (by omega) (by omega) (by omega)).trans (hL.2 k h1 h2 r hr)
theorem scr_putV (m : xM) {l : Int} (w : Int → Int) (hl : 1 ≤ l) : scr m (putV m (67 * l) w) := fun r j a _ _ => by
  unfold putV; rw [if_neg]; omega
theorem scr_lsM (m : xM) {l : Int} (L : List Mv) (w : Int → Int) (hl : 1 ≤ l) : scr m (lsM m l L w) := fun r j a b c => by
  unfold lsM putV
  rw [if_neg (by omega)]
  unfold putL
  rw [if_neg (by omega), if_neg (by omega)]
section
variable {D : wD} {S : wS} {x : Nat} {A : Nat → Nat} {m : xM} {F R : Int}
theorem XB.scr {m' : xM} (hB : XB m F R) (h : scr m m') : XB m' F R := by
  have e := h.row (r := 50) rfl
  exact ⟨by rw [e]; exact hB.f, by rw [e]; exact hB.r, hB.2.2⟩
theorem q_spellsAhead {post : wS → Prop} (h : XC D S x A) (hB : XB m F R) {v : Int → Int} (hlv : lv m 0 = v) (hv : okV F R v) {L : List Mv} {w : Int → Int} (hL : ∀ t ∈ L, okMv F R v t) (hLn : L.length ≤ 320) {mv : Int} {t : Mv} (hm : 0 ≤ mv ∧ mv < L.length) (ht : t = L.getD mv.toNat (0, 0, 0))
    (k : post (xS S x A (spM (lsM m 0 L w) mv (sanA F v L t)))) : wp_X12_spellsAhead D post (xS S x A (lsM m 0 L w)) x (iI mv) := by
  have hn := hB.n
  have im : vp_in (iI mv) 2560 := iI_in (by omega) (by omega) (by omega)
  have i8 : vp_in (iI mv) 320 := iI_in (by omega) (by omega) (by omega)
  have e4 : lsM m 0 L w 4 mv = t.1 := by rw [ht]; exact lsM_e0 m w (Or.inl rfl) hm
  have e5 : lsM m 0 L w 5 mv = t.2.1 := by rw [ht]; exact lsM_e0 m w (Or.inr (Or.inl rfl)) hm
  have ok := hL _ (getD_mem hm)
  rw [← ht] at ok
  have a1 := ok.1; have a2 := ok.2.1
  have hB2 := (hB.ls 0 L w).sp mv []
  have el : lv (spM (lsM m 0 L w) mv []) 0 = v := (spM_lv _ _ _ _).trans ((lsM_lv m 0 L w).trans hlv)
  have p1 := hv.p t.1 a1.1 (by omega)
  have k1 := kindO_r p1
  simp (discharger := first | decide | omega) only [x_own h, x_kd h, x_r h, x_m h, x_l h, x_k h, x_n h, x_i0, x_i h, x_u0 h, x_u h, xLen, xKd, nlit, iI_lit, iI_add, iI_sub, iI_mul, iI_neg, bI_z, bI_o, i10, i01, eq_self, bI_nar, nar_0, nar_1, up_at, up_f, Option.some.injEq, exists_eq_left', true_and, and_true, forall_eq, not_true_eq_false, not_false_eq_true, forall_const, false_implies, true_implies, Classical.not_not, if_true, if_false, Int.reduceEq, Int.reduceLT, Int.reduceLE, Int.reduceGT, Int.reduceGE, Int.reduceAdd, Int.reduceSub, Int.reduceMul, Int.reduceNeg, Int.reduceNe, wp_X12_spellsAhead, wp_X12_spellsAhead_0, eq_true im, eq_true i8, e4, e5]
  rw [spM_0]
  rw [q_on h (by decide) (by omega) (by omega), el, q_kindOf p1]
  refine q_isCastling h hB2 (by decide) (by rw [el]; exact hv) (by omega) (by omega) ?_
  rw [el]
  try simp (discharger := omega) only [nlit, iI_lit, iI_add, iI_sub, iI_mul, iI_neg, bI_z, bI_o, i10, i01, eq_self, bI_nar, nar_0, nar_1, bI_t, bI_f, Option.some.injEq, exists_eq_left', true_and, and_true, forall_eq, not_true_eq_false, not_false_eq_true, forall_const, false_implies, true_implies, Classical.not_not, if_true, if_false, Int.reduceEq, Int.reduceLT, Int.reduceLE, Int.reduceGT, Int.reduceGE, Int.reduceAdd, Int.reduceSub, Int.reduceMul, Int.reduceNeg, Int.reduceNe, Bool.true_and, Bool.and_true, Bool.false_and, Bool.and_false, BEq.rfl, Bool.true_eq_false, Bool.false_eq_true]
  cases c0 : castingB F v t.1 t.2.1
  · unfold sanA at k
    rw [c0] at k
    simp only [Bool.false_eq_true, if_false] at k
    have k138 : ∀ W : List Int, W = headA F v L t → wp_X12_spellsAhead_138 D post (xS S x A (spM (lsM m 0 L w) mv W)) x (iI mv) (iI t.1) (iI t.2.1) := fun W hW =>
      q_spellsAhead_138 h hB hlv hv hm hLn ht ok (by rw [hW]; have := headA_len F v L t; omega) (by rw [hW]; exact k)
    unfold headA at k138
    simp (discharger := omega) only [nlit, iI_lit, iI_add, iI_sub, iI_mul, iI_neg, bI_z, bI_o, i10, i01, eq_self, bI_nar, nar_0, nar_1, bI_t, bI_f, Option.some.injEq, exists_eq_left', true_and, and_true, forall_eq, not_true_eq_false, not_false_eq_true, forall_const, false_implies, true_implies, Classical.not_not, if_true, if_false, Int.reduceEq, Int.reduceLT, Int.reduceLE, Int.reduceGT, Int.reduceGE, Int.reduceAdd, Int.reduceSub, Int.reduceMul, Int.reduceNeg, Int.reduceNe, Bool.true_and, Bool.and_true, Bool.false_and, Bool.and_false, BEq.rfl, Bool.true_eq_false, Bool.false_eq_true, iI_eq]
    by_cases c1 : kindO (v t.1) = 6
    · simp only [c1, if_true] at k138
      simp (discharger := omega) only [nlit, iI_lit, iI_add, iI_sub, iI_mul, iI_neg, bI_z, bI_o, i10, i01, eq_self, bI_nar, nar_0, nar_1, bI_t, bI_f, Option.some.injEq, exists_eq_left', true_and, and_true, forall_eq, not_true_eq_false, not_false_eq_true, forall_const, false_implies, true_implies, Classical.not_not, if_true, if_false, Int.reduceEq, Int.reduceLT, Int.reduceLE, Int.reduceGT, Int.reduceGE, Int.reduceAdd, Int.reduceSub, Int.reduceMul, Int.reduceNeg, Int.reduceNe, Bool.true_and, Bool.and_true, Bool.false_and, Bool.and_false, BEq.rfl, Bool.true_eq_false, Bool.false_eq_true, c1]
      refine q_takes h hB2 (by decide) (by rw [el]; exact hv) (by omega) (by omega) ?_
      rw [el]
      try simp (discharger := omega) only [nlit, iI_lit, iI_add, iI_sub, iI_mul, iI_neg, bI_z, bI_o, i10, i01, eq_self, bI_nar, nar_0, nar_1, bI_t, bI_f, Option.some.injEq, exists_eq_left', true_and, and_true, forall_eq, not_true_eq_false, not_false_eq_true, forall_const, false_implies, true_implies, Classical.not_not, if_true, if_false, Int.reduceEq, Int.reduceLT, Int.reduceLE, Int.reduceGT, Int.reduceGE, Int.reduceAdd, Int.reduceSub, Int.reduceMul, Int.reduceNeg, Int.reduceNe, Bool.true_and, Bool.and_true, Bool.false_and, Bool.and_false, BEq.rfl, Bool.true_eq_false, Bool.false_eq_true]
      cases c2 : takesB F v t.1 t.2.1
      · rw [c2] at k138
        simp (discharger := omega) only [nlit, iI_lit, iI_add, iI_sub, iI_mul, iI_neg, bI_z, bI_o, i10, i01, eq_self, bI_nar, nar_0, nar_1, bI_t, bI_f, Option.some.injEq, exists_eq_left', true_and, and_true, forall_eq, not_true_eq_false, not_false_eq_true, forall_const, false_implies, true_implies, Classical.not_not, if_true, if_false, Int.reduceEq, Int.reduceLT, Int.reduceLE, Int.reduceGT, Int.reduceGE, Int.reduceAdd, Int.reduceSub, Int.reduceMul, Int.reduceNeg, Int.reduceNe, Bool.true_and, Bool.and_true, Bool.false_and, Bool.and_false, BEq.rfl, Bool.true_eq_false, Bool.false_eq_true, wp_X12_spellsAhead_116]
        exact k138 [] (by simp)
      · rw [c2] at k138
        try simp (discharger := omega) only [nlit, iI_lit, iI_add, iI_sub, iI_mul, iI_neg, bI_z, bI_o, i10, i01, eq_self, bI_nar, nar_0, nar_1, bI_t, bI_f, Option.some.injEq, exists_eq_left', true_and, and_true, forall_eq, not_true_eq_false, not_false_eq_true, forall_const, false_implies, true_implies, Classical.not_not, if_true, if_false, Int.reduceEq, Int.reduceLT, Int.reduceLE, Int.reduceGT, Int.reduceGE, Int.reduceAdd, Int.reduceSub, Int.reduceMul, Int.reduceNeg, Int.reduceNe, Bool.true_and, Bool.and_true, Bool.false_and, Bool.and_false, BEq.rfl, Bool.true_eq_false, Bool.false_eq_true]
        rw [q_fileOf hB2 (by omega)]
        try simp (discharger := omega) only [nlit, iI_lit, iI_add, iI_sub, iI_mul, iI_neg, bI_z, bI_o, i10, i01, eq_self, bI_nar, nar_0, nar_1, bI_t, bI_f, Option.some.injEq, exists_eq_left', true_and, and_true, forall_eq, not_true_eq_false, not_false_eq_true, forall_const, false_implies, true_implies, Classical.not_not, if_true, if_false, Int.reduceEq, Int.reduceLT, Int.reduceLE, Int.reduceGT, Int.reduceGE, Int.reduceAdd, Int.reduceSub, Int.reduceMul, Int.reduceNeg, Int.reduceNe, Bool.true_and, Bool.and_true, Bool.false_and, Bool.and_false, BEq.rfl, Bool.true_eq_false, Bool.false_eq_true]
        refine q_spells h (by omega) (by simp) ?_
        simp (discharger := omega) only [nlit, iI_lit, iI_add, iI_sub, iI_mul, iI_neg, bI_z, bI_o, i10, i01, eq_self, bI_nar, nar_0, nar_1, bI_t, bI_f, Option.some.injEq, exists_eq_left', true_and, and_true, forall_eq, not_true_eq_false, not_false_eq_true, forall_const, false_implies, true_implies, Classical.not_not, if_true, if_false, Int.reduceEq, Int.reduceLT, Int.reduceLE, Int.reduceGT, Int.reduceGE, Int.reduceAdd, Int.reduceSub, Int.reduceMul, Int.reduceNeg, Int.reduceNe, Bool.true_and, Bool.and_true, Bool.false_and, Bool.and_false, BEq.rfl, Bool.true_eq_false, Bool.false_eq_true, wp_X12_spellsAhead_116]
        exact k138 _ (by simp [fileC])
    · simp only [c1, if_false] at k138
      simp (discharger := omega) only [nlit, iI_lit, iI_add, iI_sub, iI_mul, iI_neg, bI_z, bI_o, i10, i01, eq_self, bI_nar, nar_0, nar_1, bI_t, bI_f, Option.some.injEq, exists_eq_left', true_and, and_true, forall_eq, not_true_eq_false, not_false_eq_true, forall_const, false_implies, true_implies, Classical.not_not, if_true, if_false, Int.reduceEq, Int.reduceLT, Int.reduceLE, Int.reduceGT, Int.reduceGE, Int.reduceAdd, Int.reduceSub, Int.reduceMul, Int.reduceNeg, Int.reduceNe, Bool.true_and, Bool.and_true, Bool.false_and, Bool.and_false, BEq.rfl, Bool.true_eq_false, Bool.false_eq_true, c1, wp_X12_spellsAhead_116, iI_eq]
      rw [q_letterOf k1]
      refine q_spells h (by omega) (by simp) ?_
      refine q_spellsFrom h hB hlv hv hL hLn hm ht (by simp) ?_
      exact k138 _ (by simp)
  · unfold sanA at k
    rw [c0] at k
    simp only [if_true] at k
    try simp (discharger := omega) only [nlit, iI_lit, iI_add, iI_sub, iI_mul, iI_neg, bI_z, bI_o, i10, i01, eq_self, bI_nar, nar_0, nar_1, bI_t, bI_f, Option.some.injEq, exists_eq_left', true_and, and_true, forall_eq, not_true_eq_false, not_false_eq_true, forall_const, false_implies, true_implies, Classical.not_not, if_true, if_false, Int.reduceEq, Int.reduceLT, Int.reduceLE, Int.reduceGT, Int.reduceGE, Int.reduceAdd, Int.reduceSub, Int.reduceMul, Int.reduceNeg, Int.reduceNe, Bool.true_and, Bool.and_true, Bool.false_and, Bool.and_false, BEq.rfl, Bool.true_eq_false, Bool.false_eq_true]
    refine ⟨6, ?_⟩
    by_cases c1 : t.1 < t.2.1
    · rw [if_pos c1] at k
      exact q_spellsAhead_45 (N := 3) h (by omega) (by omega) (by omega) (Or.inl ⟨rfl, c1⟩) (by simpa using k) 6 3 0 (by decide) (by decide)
    · rw [if_neg c1] at k
      exact q_spellsAhead_45 (N := 5) h (by omega) (by omega) (by omega) (Or.inr ⟨rfl, c1⟩) (by simpa using k) 6 5 0 (by decide) (by decide)
end
