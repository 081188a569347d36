section
variable {D : wD} {S : wS} {x : Nat} {A : Nat → Nat} {m m0 : xM} {F R : Int} {GP : (Int → Int) → Prop} {v0 : Int → Int}
/-- the fault of the text, and what was read -/
abbrev rdT (F R made : Int) (t : Int → Int) (len : Int) (v : Int → Int) : Int × RD := rdM F R made t len 502 0 (rd0 v)
theorem q_reads {post : wS → Prop} (h : XC D S x A) (hG : GPc F R GP) (hB : XB m F R) (hmd : 0 ≤ m 50 11 ∧ m 50 11 ≤ 80) {t : Int → Int} {len : Int} (hx : TX m t len) (h13 : m 50 13 = len) (h0 : 0 ≤ len) (hlv : lv m 0 = v0) (hP : GP v0)
    (k0 : (rdT F R (m 50 11) t len v0).1 ≠ -1 → ∀ m', SIM m m' → m' 50 0 = m 50 0 → m' 50 25 = (rdT F R (m 50 11) t len v0).1 → post (xS S x A m'))
    (k1 : (rdT F R (m 50 11) t len v0).1 = -1 → ∀ m', RSq F R GP v0 m m' len (rdT F R (m 50 11) t len v0).2 → m' 50 25 = -1 → post (xS S x A m')) : wp_X12_reads D post (xS S x A m) x := by
  have h5 := hx.1
  have f0 : fits .boolean (.int (iI 0)) = true := by decide
  have i0 : vp_in (iI 0) 10 := iI_in (by omega) (by omega) (by omega)
  have eu : ∀ (mm : xM) (j : Nat) (v : Int), uI (xS S x A mm) x j (iI v) = xS S x A (up mm 50 j v) := fun mm j v => x_u0 h j v
  unfold wp_X12_reads wp_X12_reads_0
  simp (discharger := first | decide | omega) only [x_own h, x_kd h, x_r h, x_m h, x_l h, x_k h, x_n h, x_i0, x_i h, x_u0 h, x_u h, xLen, xKd, nlit, iI_lit, iI_add, iI_sub, iI_mul, iI_neg, bI_z, bI_o, i10, i01, eq_self, bI_nar, nar_0, nar_1, up_at, up_f, Option.some.injEq, exists_eq_left', true_and, and_true, forall_eq, not_true_eq_false, not_false_eq_true, forall_const, false_implies, true_implies, Classical.not_not, if_true, if_false, Int.reduceEq, Int.reduceLT, Int.reduceLE, Int.reduceGT, Int.reduceGE, Int.reduceAdd, Int.reduceSub, Int.reduceMul, Int.reduceNeg, Int.reduceNe, eq_true i0, eq_true f0]
  generalize hm1 : up (up (up (up (up (up (up m 50 27 0) 22 0 0) 50 26 0) 50 28 0) 50 29 0) 50 25 (-1)) 50 24 0 = m1
  have e50 : ∀ j : Int, j ≠ 24 → j ≠ 25 → j ≠ 26 → j ≠ 27 → j ≠ 28 → j ≠ 29 → m1 50 j = m 50 j := fun j a b c d e f => by
    rw [← hm1, up_ne _ (Or.inr a), up_ne _ (Or.inr b), up_ne _ (Or.inr f), up_ne _ (Or.inr e), up_ne _ (Or.inr c), up_f _ _ _ _ rfl, up_ne _ (Or.inr d)]
  have er : ∀ r, r ≠ 50 → r ≠ 22 → m1 r = m r := fun r a b => by
    funext j
    rw [← hm1, up_ne _ (Or.inl a), up_ne _ (Or.inl a), up_ne _ (Or.inl a), up_ne _ (Or.inl a), up_ne _ (Or.inl a), up_ne _ (Or.inl b), up_ne _ (Or.inl a)]
  have e22 : m1 22 0 = 0 := by rw [← hm1, up_f _ _ _ _ rfl, up_f _ _ _ _ rfl, up_f _ _ _ _ rfl, up_f _ _ _ _ rfl, up_f _ _ _ _ rfl, up_at]
  have e24 : m1 50 24 = 0 := by rw [← hm1]; exact up_at _ _ _ _
  have e25 : m1 50 25 = -1 := by rw [← hm1, up_ne _ (Or.inr (by decide))]; exact up_at _ _ _ _
  have e29 : m1 50 29 = 0 := by rw [← hm1, up_ne _ (Or.inr (by decide)), up_ne _ (Or.inr (by decide))]; exact up_at _ _ _ _
  have e28 : m1 50 28 = 0 := by rw [← hm1, up_ne _ (Or.inr (by decide)), up_ne _ (Or.inr (by decide)), up_ne _ (Or.inr (by decide))]; exact up_at _ _ _ _
  have e26 : m1 50 26 = 0 := by rw [← hm1, up_ne _ (Or.inr (by decide)), up_ne _ (Or.inr (by decide)), up_ne _ (Or.inr (by decide)), up_ne _ (Or.inr (by decide))]; exact up_at _ _ _ _
  have e27 : m1 50 27 = 0 := by rw [← hm1, up_ne _ (Or.inr (by decide)), up_ne _ (Or.inr (by decide)), up_ne _ (Or.inr (by decide)), up_ne _ (Or.inr (by decide)), up_ne _ (Or.inr (by decide)), up_f _ _ _ _ rfl]; exact up_at _ _ _ _
  refine q_copies (f := 3) (g := 20) h (by decide) (by decide) (by decide) (by decide) (by decide) (by decide) (by decide) (fun e => by cases e) ?_
  have hlv1 : lv m1 0 = v0 := by rw [← hlv]; exact vec_row (er 3 (by decide) (by decide)) _
  generalize hm2 : cpy m1 3 0 20 0 67 = m2
  have f2 : ∀ r, (r == 20) = false → m2 r = m1 r := fun r e => by rw [← hm2]; exact cpy_r m1 e
  have v20 : vec m2 20 (67 * 0) = v0 := by
    rw [← hlv1]
    funext j
    unfold lv vec
    by_cases q : 0 ≤ j ∧ j < 67
    · rw [if_pos q, if_pos q, ← hm2, cpy_at _ (by omega) (by omega)]; congr 1; omega
    · rw [if_neg q, if_neg q]
  have sm : SIM m m2 := fun r j hk => by
    have n20 : (r == 20) = false := by cases e : r == 20 with | false => rfl | true => have := eq_of_beq e; subst this; cases hk
    have n22 : r ≠ 22 := by rintro rfl; cases hk
    rw [f2 r n20]
    by_cases c : r = 50
    · subst c
      rw [e50 j (by rintro rfl; cases hk) (by rintro rfl; cases hk) (by rintro rfl; cases hk) (by rintro rfl; cases hk) (by rintro rfl; cases hk) (by rintro rfl; cases hk)]
    · rw [er r c n22]
  have g50 : ∀ j, m2 50 j = m1 50 j := fun j => by rw [f2 50 rfl]
  try simp (discharger := omega) only [nlit, iI_lit, iI_add, iI_sub, iI_mul, iI_neg, bI_z, bI_o, i10, i01, eq_self, bI_nar, nar_0, nar_1, bI_t, bI_f, Option.some.injEq, exists_eq_left', true_and, and_true, forall_eq, not_true_eq_false, not_false_eq_true, forall_const, false_implies, true_implies, Classical.not_not, if_true, if_false, Int.reduceEq, Int.reduceLT, Int.reduceLE, Int.reduceGT, Int.reduceGE, Int.reduceAdd, Int.reduceSub, Int.reduceMul, Int.reduceNeg, Int.reduceNe, Bool.true_and, Bool.and_true, Bool.false_and, Bool.and_false, BEq.rfl, Bool.true_eq_false, Bool.false_eq_true]
  have hR : RSq F R GP v0 m m2 0 (rd0 v0) := by
    refine ⟨⟨sm, by rw [g50, e50 0 (by decide) (by decide) (by decide) (by decide) (by decide) (by decide)]⟩, ⟨by rw [g50]; exact e27, Int.le_refl 0, by show (0 : Int) ≤ 4; decide⟩, ⟨by rw [g50]; exact e26, by rw [g50]; exact e28, by rw [g50]; exact e29⟩, fun l a b => ?_, trivial, rfl, ?_, rfl⟩
    · have l0 : l = 0 := by unfold rd0 at b; dsimp only at b; omega
      rw [l0]
      refine ⟨v20, hP, by rw [f2 22 rfl]; exact e22, ⟨Int.le_refl 0, Int.le_refl 0⟩, fun z => absurd rfl z⟩
    · unfold rd0; simp; omega
  refine ⟨503, q_reads_54 (m0 := m) (res := rdT F R (m 50 11) t len v0) h hG hB hmd hx (fun s' q1 q2 m' q3 q4 q5 => k0 q1 m' q3 q4 q5) (fun q1 m' q2 q3 => k1 q1 m' q2 q3) 503 len.toNat 0 m2 (rd0 v0) (by omega) (by omega) (by omega) (by decide) ?_ hR (by rw [g50]; exact e24) (by rw [g50]; exact e25) (by rw [g50, e50 13 (by decide) (by decide) (by decide) (by decide) (by decide) (by decide)]; exact h13)⟩
  exact rdM_fuel F R (m 50 11) t h5 500 _ _ 0 (rd0 v0) (by omega) (by omega) (by omega) (by omega) (by omega)
theorem q_fault {post : Int32 → wS → Prop} (h : XC D S x A) (hG : RG m F R) (hGP : GPc F R GP) (hP : properB F R (gv m 0) = true → GP (pv m)) {t : Int → Int} {len : Int} (hx : TX m t len) (h13 : m 50 13 = len) (h0 : 0 ≤ len)
    (k0 : properB F R (gv m 0) = false → ∀ m', SIM m m' → m' 50 0 = 1 → post (iI 0) (xS S x A m'))
    (k1 : properB F R (gv m 0) = true → ∀ m', SIM m m' → m' 50 0 = 0 → post (iI (rdT F R (m 50 11) t len (pv m)).1) (xS S x A m')) : wp_X12_fault D post (xS S x A m) x := by
  unfold wp_X12_fault wp_X12_fault_0
  refine q_isAskable h hG ?_
  try simp (discharger := omega) only [nlit, iI_lit, iI_add, iI_sub, iI_mul, iI_neg, bI_z, bI_o, i10, i01, eq_self, bI_nar, nar_0, nar_1, bI_t, bI_f, Option.some.injEq, exists_eq_left', true_and, and_true, forall_eq, not_true_eq_false, not_false_eq_true, forall_const, false_implies, true_implies, Classical.not_not, if_true, if_false, Int.reduceEq, Int.reduceLT, Int.reduceLE, Int.reduceGT, Int.reduceGE, Int.reduceAdd, Int.reduceSub, Int.reduceMul, Int.reduceNeg, Int.reduceNe, Bool.true_and, Bool.and_true, Bool.false_and, Bool.and_false, BEq.rfl, Bool.true_eq_false, Bool.false_eq_true]
  rw [q_can h]
  try simp (discharger := omega) only [nlit, iI_lit, iI_add, iI_sub, iI_mul, iI_neg, bI_z, bI_o, i10, i01, eq_self, bI_nar, nar_0, nar_1, bI_t, bI_f, Option.some.injEq, exists_eq_left', true_and, and_true, forall_eq, not_true_eq_false, not_false_eq_true, forall_const, false_implies, true_implies, Classical.not_not, if_true, if_false, Int.reduceEq, Int.reduceLT, Int.reduceLE, Int.reduceGT, Int.reduceGE, Int.reduceAdd, Int.reduceSub, Int.reduceMul, Int.reduceNeg, Int.reduceNe, Bool.true_and, Bool.and_true, Bool.false_and, Bool.and_false, BEq.rfl, Bool.true_eq_false, Bool.false_eq_true]
  have sm : ∀ z, SIM m (up (ldm m) 50 0 z) := fun z => (SIM.rf m).ldm.up0 z
  cases cp : properB F R (gv m 0)
  · try simp (discharger := omega) only [nlit, iI_lit, iI_add, iI_sub, iI_mul, iI_neg, bI_z, bI_o, i10, i01, eq_self, bI_nar, nar_0, nar_1, bI_t, bI_f, Option.some.injEq, exists_eq_left', true_and, and_true, forall_eq, not_true_eq_false, not_false_eq_true, forall_const, false_implies, true_implies, Classical.not_not, if_true, if_false, Int.reduceEq, Int.reduceLT, Int.reduceLE, Int.reduceGT, Int.reduceGE, Int.reduceAdd, Int.reduceSub, Int.reduceMul, Int.reduceNeg, Int.reduceNe, Bool.true_and, Bool.and_true, Bool.false_and, Bool.and_false, BEq.rfl, Bool.true_eq_false, Bool.false_eq_true]
    exact k0 cp _ (sm 1) (up_at _ _ _ _)
  · have k1 := k1 cp
    have hP := hP cp
    rw [cn_true]
    try simp (discharger := omega) only [nlit, iI_lit, iI_add, iI_sub, iI_mul, iI_neg, bI_z, bI_o, i10, i01, eq_self, bI_nar, nar_0, nar_1, bI_t, bI_f, Option.some.injEq, exists_eq_left', true_and, and_true, forall_eq, not_true_eq_false, not_false_eq_true, forall_const, false_implies, true_implies, Classical.not_not, if_true, if_false, Int.reduceEq, Int.reduceLT, Int.reduceLE, Int.reduceGT, Int.reduceGE, Int.reduceAdd, Int.reduceSub, Int.reduceMul, Int.reduceNeg, Int.reduceNe, Bool.true_and, Bool.and_true, Bool.false_and, Bool.and_false, BEq.rfl, Bool.true_eq_false, Bool.false_eq_true]
    have sm0 := sm 0
    have e0 : up (ldm m) 50 0 0 50 0 = 0 := up_at _ _ _ _
    have el : lv (up (ldm m) 50 0 0) 0 = pv m := askM_lv
    generalize up (ldm m) 50 0 0 = m1 at sm0 e0 el
    have e11 : m1 50 11 = m 50 11 := sm0.o rfl
    refine q_reads h hGP (sm0.XB hG.b) (by rw [e11]; exact hG.m0) (hx.row (sm0.row rfl)) ((sm0.o rfl).trans h13) h0 el hP (fun q1 m' q2 q3 q4 => ?_) (fun q1 m' q2 q3 => ?_)
    · rw [x_i0, show m' 50 ((25 : Nat) : Int) = _ from q4, e11]
      exact k1 m' (sm0.tr q2) (by rw [q3]; exact e0)
    · rw [x_i0, show m' 50 ((25 : Nat) : Int) = _ from q3, ← q1, e11]
      exact k1 m' (sm0.tr q2.1.1) (by rw [q2.1.2]; exact e0)
theorem lnB_lin {F R : Int} {ix : Int → Int} : ∀ (ts : List Mv) (k : Int) (v : Int → Int), lnB F R ix k v ts → linB F R v ts := by
  intro ts
  induction ts with
  | nil => intro k v _; exact trivial
  | cons t ts ih => intro k v h; exact ⟨by rw [h.1.2.2]; exact getD_mem ⟨h.1.1, h.1.2.1⟩, ih (k + 1) _ h.2⟩
theorem q_rdMv_71 {post : Int32 → wS → Prop} (h : XC D S x A) (hGP : GPc F R GP) {N : Int} (hN : 0 ≤ N ∧ N ≤ 80) {ix : Int → Int} : ∀ (n : Nat) (ts : List Mv) (j : Int) (m : xM), ts.length < n → j + ts.length = N → 0 ≤ j → RG m F R → m 50 11 + ts.length ≤ 80 → GP (pv m) → lv m 0 = pv m → (∀ i, j ≤ i → i < N → m 23 i = ix i) → lnB F R ix j (pv m) ts →
    (∀ m', SIM (playMs F R m ts) m' → m' 50 0 = m 50 0 → post (iI N) (xS S x A m')) → wp_X12_readMoves_71 D post n (xS S x A m) x (iI N) (iI j) := by
  intro n
  induction n with
  | zero => intro ts j m hd; omega
  | succ n ih =>
    intro ts j m hd hj h0 hG h80 hP hlv hix hl k
    have g := hGP _ hP
    unfold wp_X12_readMoves_71
    simp (discharger := omega) only [nlit, iI_lit, iI_add, iI_sub, iI_mul, iI_neg, bI_z, bI_o, i10, i01, eq_self, bI_nar, nar_0, nar_1, bI_t, bI_f, Option.some.injEq, exists_eq_left', true_and, and_true, forall_eq, not_true_eq_false, not_false_eq_true, forall_const, false_implies, true_implies, Classical.not_not, if_true, if_false, Int.reduceEq, Int.reduceLT, Int.reduceLE, Int.reduceGT, Int.reduceGE, Int.reduceAdd, Int.reduceSub, Int.reduceMul, Int.reduceNeg, Int.reduceNe, Bool.true_and, Bool.and_true, Bool.false_and, Bool.and_false, BEq.rfl, Bool.true_eq_false, Bool.false_eq_true, iI_le]
    cases ts with
    | nil =>
      have c : N ≤ j := by simp at hj; omega
      simp (discharger := omega) only [nlit, iI_lit, iI_add, iI_sub, iI_mul, iI_neg, bI_z, bI_o, i10, i01, eq_self, bI_nar, nar_0, nar_1, bI_t, bI_f, Option.some.injEq, exists_eq_left', true_and, and_true, forall_eq, not_true_eq_false, not_false_eq_true, forall_const, false_implies, true_implies, Classical.not_not, if_true, if_false, Int.reduceEq, Int.reduceLT, Int.reduceLE, Int.reduceGT, Int.reduceGE, Int.reduceAdd, Int.reduceSub, Int.reduceMul, Int.reduceNeg, Int.reduceNe, Bool.true_and, Bool.and_true, Bool.false_and, Bool.and_false, BEq.rfl, Bool.true_eq_false, Bool.false_eq_true, c]
      exact k m (SIM.rf m) rfl
    | cons t ts =>
      have hc : ((t :: ts).length : Int) = ts.length + 1 := by simp
      have hcn : (t :: ts).length = ts.length + 1 := by simp
      rw [hc] at hj h80
      have c : ¬ N ≤ j := by omega
      simp (discharger := omega) only [nlit, iI_lit, iI_add, iI_sub, iI_mul, iI_neg, bI_z, bI_o, i10, i01, eq_self, bI_nar, nar_0, nar_1, bI_t, bI_f, Option.some.injEq, exists_eq_left', true_and, and_true, forall_eq, not_true_eq_false, not_false_eq_true, forall_const, false_implies, true_implies, Classical.not_not, if_true, if_false, Int.reduceEq, Int.reduceLT, Int.reduceLE, Int.reduceGT, Int.reduceGE, Int.reduceAdd, Int.reduceSub, Int.reduceMul, Int.reduceNeg, Int.reduceNe, Bool.true_and, Bool.and_true, Bool.false_and, Bool.and_false, BEq.rfl, Bool.true_eq_false, Bool.false_eq_true, c]
      have hL := g.2.2.1.2
      obtain ⟨⟨l1, l2, l3⟩, l4⟩ := hl
      refine q_movesM h hG.b (l := 0) (by decide) hlv g.1 g.2.2.1 (fun m2 s2 hA => ?_)
      have ij : vp_in (iI j) 500 := iI_in (by omega) (by omega) (by omega)
      have e23 : m2 23 j = ix j := by rw [s2.row rfl]; exact hix j (by omega) (by omega)
      simp (discharger := first | decide | omega) only [x_own h, x_kd h, x_r h, x_m h, x_l h, x_k h, x_n h, x_i0, x_i h, x_u0 h, x_u h, xLen, xKd, nlit, iI_lit, iI_add, iI_sub, iI_mul, iI_neg, bI_z, bI_o, i10, i01, eq_self, bI_nar, nar_0, nar_1, up_at, up_f, Option.some.injEq, exists_eq_left', true_and, and_true, forall_eq, not_true_eq_false, not_false_eq_true, forall_const, false_implies, true_implies, Classical.not_not, if_true, if_false, Int.reduceEq, Int.reduceLT, Int.reduceLE, Int.reduceGT, Int.reduceGE, Int.reduceAdd, Int.reduceSub, Int.reduceMul, Int.reduceNeg, Int.reduceNe, eq_true ij]
      rw [e23]
      have hG2 : RG m2 F R := ((SIM.rf m).scM s2).RG hG
      have ep : pv m2 = pv m := ((SIM.rf m).scM s2).pv
      have els : lsM m2 0 (movesL F R (pv m2)) (lv m2 1) = m2 := by rw [ep]; exact hA.ls
      have hmem : t ∈ movesL F R (pv m) := by rw [l3]; exact getD_mem ⟨l1, l2⟩
      have gt := g.2.2.2 t hmem
      have hcl := (hGP _ gt.2).2.1
      rw [← els]
      refine q_plays h hG2 (by rw [ep]; exact hA.1) (by rw [s2.row rfl]; omega) (by rw [ep]; exact hL) (by rw [ep]; exact ⟨l1, l2⟩) (t := t) (by rw [ep]; exact l3) ?_
      rw [ep]
      have e11 : m2 50 11 = m 50 11 := by rw [s2.row rfl]
      have hcl2 : clV (mkT F R (pv m2) t) := by rw [ep]; exact hcl
      have hG3 := RG_play hG2 (by omega) (L := movesL F R (pv m)) hcl2 (by rw [ep]; exact (hGP _ gt.2).1)
      have ep3 : pv (playM F R m2 (movesL F R (pv m)) t) = mkT F R (pv m) t := (playM_pv hcl2).trans (by rw [ep])
      have el3 : lv (playM F R m2 (movesL F R (pv m)) t) 0 = pv (playM F R m2 (movesL F R (pv m)) t) := playM_lv hcl2
      have e0 : playM F R m2 (movesL F R (pv m)) t 50 0 = m 50 0 := by rw [playM_50 (by decide), s2.row rfl]
      have e113 : playM F R m2 (movesL F R (pv m)) t 50 11 = m 50 11 + 1 := by rw [playM_made, e11]
      have e233 : ∀ i, playM F R m2 (movesL F R (pv m)) t 23 i = m 23 i := fun i => by rw [playM_f _ rfl, s2.row rfl]
      have sp : SIM (playM F R m (movesL F R (pv m)) t) (playM F R m2 (movesL F R (pv m)) t) := SIM_play ((SIM.rf m).scM s2) hcl
      have ep0 : pv (playM F R m (movesL F R (pv m)) t) = mkT F R (pv m) t := playM_pv hcl
      unfold playMs at k
      generalize playM F R m2 (movesL F R (pv m)) t = m3 at hG3 ep3 el3 e0 e113 e233 sp
      generalize playM F R m (movesL F R (pv m)) t = m4 at k sp ep0
      try simp (discharger := omega) only [nlit, iI_lit, iI_add, iI_sub, iI_mul, iI_neg, bI_z, bI_o, i10, i01, eq_self, bI_nar, nar_0, nar_1, bI_t, bI_f, Option.some.injEq, exists_eq_left', true_and, and_true, forall_eq, not_true_eq_false, not_false_eq_true, forall_const, false_implies, true_implies, Classical.not_not, if_true, if_false, Int.reduceEq, Int.reduceLT, Int.reduceLE, Int.reduceGT, Int.reduceGE, Int.reduceAdd, Int.reduceSub, Int.reduceMul, Int.reduceNeg, Int.reduceNe, Bool.true_and, Bool.and_true, Bool.false_and, Bool.and_false, BEq.rfl, Bool.true_eq_false, Bool.false_eq_true]
      refine ih ts (j + 1) m3 (by omega) (by omega) (by omega) hG3 (by omega) (by rw [ep3]; exact gt.2) el3 (fun i a b => by rw [e233]; exact hix i (by omega) b) (by rw [ep3]; exact l4) (fun m' q1 q2 => ?_)
      refine k m' ?_ (by rw [q2, e0])
      have := SIM_playMs (F := F) (R := R) hGP sp (by rw [ep0]; exact gt.2) ts (by rw [ep0]; exact lnB_lin ts _ _ l4)
      exact this.tr q1
theorem q_readMoves {post : Int32 → wS → Prop} (h : XC D S x A) (hG : RG m F R) (hGP : GPc F R GP) (hP : properB F R (gv m 0) = true → GP (pv m)) {t : Int → Int} {len : Int} (hx : TX m t len) (h13 : m 50 13 = len) (h0 : 0 ≤ len)
    (k0 : properB F R (gv m 0) = false → ∀ m', SIM (up m 50 13 0) m' → m' 50 0 = 1 → post (iI 0) (xS S x A m'))
    (k1 : properB F R (gv m 0) = true → (rdT F R (m 50 11) t len (pv m)).1 ≠ -1 → ∀ m', SIM (up m 50 13 0) m' → m' 50 0 = 2 → post (iI 0) (xS S x A m'))
    (k2 : properB F R (gv m 0) = true → (rdT F R (m 50 11) t len (pv m)).1 = -1 → linB F R (pv m) (rdT F R (m 50 11) t len (pv m)).2.2.2.2.2.1 → m 50 11 + (rdT F R (m 50 11) t len (pv m)).2.2.2.2.2.1.length ≤ 80 → ∀ m', SIM (playMs F R (up (up m 50 13 0) 50 16 (rdT F R (m 50 11) t len (pv m)).2.2.2.2.2.2.1) (rdT F R (m 50 11) t len (pv m)).2.2.2.2.2.1) m' → m' 50 0 = 0 → post (iI (rdT F R (m 50 11) t len (pv m)).2.2.2.2.2.1.length) (xS S x A m')) : wp_X12_readMoves D post (xS S x A m) x := by
  unfold wp_X12_readMoves wp_X12_readMoves_0
  refine q_isAskable h hG ?_
  try simp (discharger := omega) only [nlit, iI_lit, iI_add, iI_sub, iI_mul, iI_neg, bI_z, bI_o, i10, i01, eq_self, bI_nar, nar_0, nar_1, bI_t, bI_f, Option.some.injEq, exists_eq_left', true_and, and_true, forall_eq, not_true_eq_false, not_false_eq_true, forall_const, false_implies, true_implies, Classical.not_not, if_true, if_false, Int.reduceEq, Int.reduceLT, Int.reduceLE, Int.reduceGT, Int.reduceGE, Int.reduceAdd, Int.reduceSub, Int.reduceMul, Int.reduceNeg, Int.reduceNe, Bool.true_and, Bool.and_true, Bool.false_and, Bool.and_false, BEq.rfl, Bool.true_eq_false, Bool.false_eq_true]
  have sm : SIM m (ldm m) := (SIM.rf m).ldm
  have eu : ∀ (mm : xM) (j : Nat) (v : Int), uI (xS S x A mm) x j (iI v) = xS S x A (up mm 50 j v) := fun mm j v => x_u0 h j v
  have s13 : ∀ {a b : xM}, SIM a b → SIM (up a 50 13 0) (up b 50 13 0) := fun {a b} q r j hk => by
    by_cases c : r = 50 ∧ j = 13
    · rw [c.1, c.2, up_at, up_at]
    · rw [up_ne _ (by omega), up_ne _ (by omega)]; exact q r j hk
  cases cp : properB F R (gv m 0)
  · simp (discharger := omega) only [nlit, iI_lit, iI_add, iI_sub, iI_mul, iI_neg, bI_z, bI_o, i10, i01, eq_self, bI_nar, nar_0, nar_1, bI_t, bI_f, Option.some.injEq, exists_eq_left', true_and, and_true, forall_eq, not_true_eq_false, not_false_eq_true, forall_const, false_implies, true_implies, Classical.not_not, if_true, if_false, Int.reduceEq, Int.reduceLT, Int.reduceLE, Int.reduceGT, Int.reduceGE, Int.reduceAdd, Int.reduceSub, Int.reduceMul, Int.reduceNeg, Int.reduceNe, Bool.true_and, Bool.and_true, Bool.false_and, Bool.and_false, BEq.rfl, Bool.true_eq_false, Bool.false_eq_true, wp_X12_readMoves_13]
    rw [show ∀ v, uI (xS S x A (ldm m)) x 13 (iI v) = xS S x A (up (ldm m) 50 13 v) from fun v => x_u0 h 13 v]
    rw [q_can0 h]
    simp (discharger := omega) only [nlit, iI_lit, iI_add, iI_sub, iI_mul, iI_neg, bI_z, bI_o, i10, i01, eq_self, bI_nar, nar_0, nar_1, bI_t, bI_f, Option.some.injEq, exists_eq_left', true_and, and_true, forall_eq, not_true_eq_false, not_false_eq_true, forall_const, false_implies, true_implies, Classical.not_not, if_true, if_false, Int.reduceEq, Int.reduceLT, Int.reduceLE, Int.reduceGT, Int.reduceGE, Int.reduceAdd, Int.reduceSub, Int.reduceMul, Int.reduceNeg, Int.reduceNe, Bool.true_and, Bool.and_true, Bool.false_and, Bool.and_false, BEq.rfl, Bool.true_eq_false, Bool.false_eq_true, wp_X12_readMoves_48]
    exact k0 cp _ ((s13 sm).up0 1) (up_at _ _ _ _)
  · have k1 := k1 cp
    have k2 := k2 cp
    have hP := hP cp
    try simp (discharger := omega) only [nlit, iI_lit, iI_add, iI_sub, iI_mul, iI_neg, bI_z, bI_o, i10, i01, eq_self, bI_nar, nar_0, nar_1, bI_t, bI_f, Option.some.injEq, exists_eq_left', true_and, and_true, forall_eq, not_true_eq_false, not_false_eq_true, forall_const, false_implies, true_implies, Classical.not_not, if_true, if_false, Int.reduceEq, Int.reduceLT, Int.reduceLE, Int.reduceGT, Int.reduceGE, Int.reduceAdd, Int.reduceSub, Int.reduceMul, Int.reduceNeg, Int.reduceNe, Bool.true_and, Bool.and_true, Bool.false_and, Bool.and_false, BEq.rfl, Bool.true_eq_false, Bool.false_eq_true]
    have el : lv (ldm m) 0 = pv m := ldm_lv m
    generalize ldm m = m1 at sm el
    have e11 : m1 50 11 = m 50 11 := sm.o rfl
    refine q_reads h hGP (sm.XB hG.b) (by rw [e11]; exact hG.m0) (hx.row (sm.row rfl)) ((sm.o rfl).trans h13) h0 el hP (fun q1 m' q2 q3 q4 => ?_) (fun q1 m' q2 q3 => ?_)
    · rw [e11] at q1 q4
      have fr : -1 ≤ (rdT F R (m 50 11) t len (pv m)).1 ∧ (rdT F R (m 50 11) t len (pv m)).1 ≤ len := rdM_r F R (m 50 11) t h0 502 0 (rd0 (pv m)) (by decide) h0
      have hx5 := hx.1
      simp (discharger := omega) only [nlit, iI_lit, iI_add, iI_sub, iI_mul, iI_neg, bI_z, bI_o, i10, i01, eq_self, bI_nar, nar_0, nar_1, bI_t, bI_f, Option.some.injEq, exists_eq_left', true_and, and_true, forall_eq, not_true_eq_false, not_false_eq_true, forall_const, false_implies, true_implies, Classical.not_not, if_true, if_false, Int.reduceEq, Int.reduceLT, Int.reduceLE, Int.reduceGT, Int.reduceGE, Int.reduceAdd, Int.reduceSub, Int.reduceMul, Int.reduceNeg, Int.reduceNe, Bool.true_and, Bool.and_true, Bool.false_and, Bool.and_false, BEq.rfl, Bool.true_eq_false, Bool.false_eq_true, wp_X12_readMoves_13]
      rw [show ∀ v, uI (xS S x A m') x 13 (iI v) = xS S x A (up m' 50 13 v) from fun v => x_u0 h 13 v]
      rw [q_can1 h]
      try simp (discharger := omega) only [nlit, iI_lit, iI_add, iI_sub, iI_mul, iI_neg, bI_z, bI_o, i10, i01, eq_self, bI_nar, nar_0, nar_1, bI_t, bI_f, Option.some.injEq, exists_eq_left', true_and, and_true, forall_eq, not_true_eq_false, not_false_eq_true, forall_const, false_implies, true_implies, Classical.not_not, if_true, if_false, Int.reduceEq, Int.reduceLT, Int.reduceLE, Int.reduceGT, Int.reduceGE, Int.reduceAdd, Int.reduceSub, Int.reduceMul, Int.reduceNeg, Int.reduceNe, Bool.true_and, Bool.and_true, Bool.false_and, Bool.and_false, BEq.rfl, Bool.true_eq_false, Bool.false_eq_true]
      rw [x_i0, show up (up m' 50 13 0) 50 0 0 50 ((25 : Nat) : Int) = m' 50 25 by rw [up_ne _ (Or.inr (by decide)), up_ne _ (Or.inr (by decide))]; rfl, q4, iI_eq (by omega) (by omega) (by decide) (by decide)]
      simp (discharger := omega) only [nlit, iI_lit, iI_add, iI_sub, iI_mul, iI_neg, bI_z, bI_o, i10, i01, eq_self, bI_nar, nar_0, nar_1, bI_t, bI_f, Option.some.injEq, exists_eq_left', true_and, and_true, forall_eq, not_true_eq_false, not_false_eq_true, forall_const, false_implies, true_implies, Classical.not_not, if_true, if_false, Int.reduceEq, Int.reduceLT, Int.reduceLE, Int.reduceGT, Int.reduceGE, Int.reduceAdd, Int.reduceSub, Int.reduceMul, Int.reduceNeg, Int.reduceNe, Bool.true_and, Bool.and_true, Bool.false_and, Bool.and_false, BEq.rfl, Bool.true_eq_false, Bool.false_eq_true, q1, wp_X12_readMoves_41]
      rw [q_can0 h]
      simp (discharger := omega) only [nlit, iI_lit, iI_add, iI_sub, iI_mul, iI_neg, bI_z, bI_o, i10, i01, eq_self, bI_nar, nar_0, nar_1, bI_t, bI_f, Option.some.injEq, exists_eq_left', true_and, and_true, forall_eq, not_true_eq_false, not_false_eq_true, forall_const, false_implies, true_implies, Classical.not_not, if_true, if_false, Int.reduceEq, Int.reduceLT, Int.reduceLE, Int.reduceGT, Int.reduceGE, Int.reduceAdd, Int.reduceSub, Int.reduceMul, Int.reduceNeg, Int.reduceNe, Bool.true_and, Bool.and_true, Bool.false_and, Bool.and_false, BEq.rfl, Bool.true_eq_false, Bool.false_eq_true, wp_X12_readMoves_48]
      exact k1 q1 _ (((s13 (sm.tr q2)).up0 0).up0 2) (up_at _ _ _ _)
    · rw [e11] at q1 q2
      generalize hres : rdT F R (m 50 11) t len (pv m) = res at q1 q2 k1 k2
      obtain ⟨r1, r2, r3, r4, r5, r6, r7, r8⟩ := q2
      rw [e11] at r7
      have g0 := r4 0 (by decide) r2.2.1
      have lin : linB F R (pv m) res.2.2.2.2.2.1 := lnB_lin _ _ _ r5
      simp (discharger := omega) only [nlit, iI_lit, iI_add, iI_sub, iI_mul, iI_neg, bI_z, bI_o, i10, i01, eq_self, bI_nar, nar_0, nar_1, bI_t, bI_f, Option.some.injEq, exists_eq_left', true_and, and_true, forall_eq, not_true_eq_false, not_false_eq_true, forall_const, false_implies, true_implies, Classical.not_not, if_true, if_false, Int.reduceEq, Int.reduceLT, Int.reduceLE, Int.reduceGT, Int.reduceGE, Int.reduceAdd, Int.reduceSub, Int.reduceMul, Int.reduceNeg, Int.reduceNe, Bool.true_and, Bool.and_true, Bool.false_and, Bool.and_false, BEq.rfl, Bool.true_eq_false, Bool.false_eq_true, wp_X12_readMoves_13]
      rw [show ∀ v, uI (xS S x A m') x 13 (iI v) = xS S x A (up m' 50 13 v) from fun v => x_u0 h 13 v]
      rw [q_can1 h]
      try simp (discharger := omega) only [nlit, iI_lit, iI_add, iI_sub, iI_mul, iI_neg, bI_z, bI_o, i10, i01, eq_self, bI_nar, nar_0, nar_1, bI_t, bI_f, Option.some.injEq, exists_eq_left', true_and, and_true, forall_eq, not_true_eq_false, not_false_eq_true, forall_const, false_implies, true_implies, Classical.not_not, if_true, if_false, Int.reduceEq, Int.reduceLT, Int.reduceLE, Int.reduceGT, Int.reduceGE, Int.reduceAdd, Int.reduceSub, Int.reduceMul, Int.reduceNeg, Int.reduceNe, Bool.true_and, Bool.and_true, Bool.false_and, Bool.and_false, BEq.rfl, Bool.true_eq_false, Bool.false_eq_true]
      rw [x_i0, show up (up m' 50 13 0) 50 0 0 50 ((25 : Nat) : Int) = -1 by rw [up_ne _ (Or.inr (by decide)), up_ne _ (Or.inr (by decide))]; exact q3]
      simp (discharger := omega) only [nlit, iI_lit, iI_add, iI_sub, iI_mul, iI_neg, bI_z, bI_o, i10, i01, eq_self, bI_nar, nar_0, nar_1, bI_t, bI_f, Option.some.injEq, exists_eq_left', true_and, and_true, forall_eq, not_true_eq_false, not_false_eq_true, forall_const, false_implies, true_implies, Classical.not_not, if_true, if_false, Int.reduceEq, Int.reduceLT, Int.reduceLE, Int.reduceGT, Int.reduceGE, Int.reduceAdd, Int.reduceSub, Int.reduceMul, Int.reduceNeg, Int.reduceNe, Bool.true_and, Bool.and_true, Bool.false_and, Bool.and_false, BEq.rfl, Bool.true_eq_false, Bool.false_eq_true, wp_X12_readMoves_41]
      rw [q_can1 h, up_up]
      have i0 : vp_in (iI 0) 10 := iI_in (by omega) (by omega) (by omega)
      try simp (discharger := omega) only [nlit, iI_lit, iI_add, iI_sub, iI_mul, iI_neg, bI_z, bI_o, i10, i01, eq_self, bI_nar, nar_0, nar_1, bI_t, bI_f, Option.some.injEq, exists_eq_left', true_and, and_true, forall_eq, not_true_eq_false, not_false_eq_true, forall_const, false_implies, true_implies, Classical.not_not, if_true, if_false, Int.reduceEq, Int.reduceLT, Int.reduceLE, Int.reduceGT, Int.reduceGE, Int.reduceAdd, Int.reduceSub, Int.reduceMul, Int.reduceNeg, Int.reduceNe, Bool.true_and, Bool.and_true, Bool.false_and, Bool.and_false, BEq.rfl, Bool.true_eq_false, Bool.false_eq_true]
      rw [x_i0, show up (up m' 50 13 0) 50 0 0 50 ((26 : Nat) : Int) = res.2.2.2.2.2.2.1 by rw [up_ne _ (Or.inr (by decide)), up_ne _ (Or.inr (by decide))]; exact r3.1]
      rw [show ∀ v, uI (xS S x A (up (up m' 50 13 0) 50 0 0)) x 16 (iI v) = xS S x A (up (up (up m' 50 13 0) 50 0 0) 50 16 v) from fun v => x_u0 h 16 v]
      generalize hm2 : up (up (up m' 50 13 0) 50 0 0) 50 16 res.2.2.2.2.2.2.1 = m2
      have f2 : ∀ r, r ≠ 50 → m2 r = m' r := fun r a => by funext j; rw [← hm2, up_ne _ (Or.inl a), up_ne _ (Or.inl a), up_ne _ (Or.inl a)]
      have s2 : SIM (up (up m 50 13 0) 50 16 res.2.2.2.2.2.2.1) m2 := fun r j hk => by
        rw [← hm2]
        have e := ((s13 (sm.tr r1.1)).up0 0) r j hk
        show (if r = 50 ∧ j = 16 then res.2.2.2.2.2.2.1 else up (up m' 50 13 0) 50 0 0 r j) = (if r = 50 ∧ j = 16 then res.2.2.2.2.2.2.1 else up m 50 13 0 r j)
        rw [e]
      have z0 : m2 50 0 = 0 := by rw [← hm2, up_ne _ (Or.inr (by decide)), up_at]
      have z11 : m2 50 11 = m 50 11 := by rw [s2.o rfl, up_ne _ (Or.inr (by decide)), up_ne _ (Or.inr (by decide))]
      have hGu : RG (up (up m 50 13 0) 50 16 res.2.2.2.2.2.2.1) F R := by
        have e : ∀ j : Int, j ≠ 13 → j ≠ 16 → up (up m 50 13 0) 50 16 res.2.2.2.2.2.2.1 50 j = m 50 j := fun j a b => by rw [up_ne _ (Or.inr b), up_ne _ (Or.inr a)]
        refine ⟨⟨by rw [e _ (by decide) (by decide)]; exact hG.1.1, by rw [e _ (by decide) (by decide)]; exact hG.1.2.1, hG.1.2.2⟩, by rw [e _ (by decide) (by decide)]; exact hG.2.1, fun k a b => ?_⟩
        rw [e _ (by decide) (by decide)] at b
        have : gv (up (up m 50 13 0) 50 16 res.2.2.2.2.2.2.1) k = gv m k := vec_row (by rw [up_r _ _ _ rfl, up_r _ _ _ rfl]) _
        rw [this]; exact hG.2.2 k a b
      have epu : pv (up (up m 50 13 0) 50 16 res.2.2.2.2.2.2.1) = pv m := by
        unfold pv
        rw [up_ne _ (Or.inr (by decide)), up_ne _ (Or.inr (by decide))]
        exact vec_row (by rw [up_r _ _ _ rfl, up_r _ _ _ rfl]) _
      have hG2 : RG m2 F R := s2.RG hGu
      have ep2 : pv m2 = pv m := s2.pv.trans epu
      simp (discharger := first | decide | omega) only [x_own h, x_kd h, x_r h, x_m h, x_l h, x_k h, x_n h, x_i0, x_i h, x_u0 h, x_u h, xLen, xKd, nlit, iI_lit, iI_add, iI_sub, iI_mul, iI_neg, bI_z, bI_o, i10, i01, eq_self, bI_nar, nar_0, nar_1, up_at, up_f, Option.some.injEq, exists_eq_left', true_and, and_true, forall_eq, not_true_eq_false, not_false_eq_true, forall_const, false_implies, true_implies, Classical.not_not, if_true, if_false, Int.reduceEq, Int.reduceLT, Int.reduceLE, Int.reduceGT, Int.reduceGE, Int.reduceAdd, Int.reduceSub, Int.reduceMul, Int.reduceNeg, Int.reduceNe, eq_true i0]
      rw [f2 22 (by decide), g0.2.2.1, r6]
      refine q_loads h hG2.m0 ?_
      try simp (discharger := omega) only [nlit, iI_lit, iI_add, iI_sub, iI_mul, iI_neg, bI_z, bI_o, i10, i01, eq_self, bI_nar, nar_0, nar_1, bI_t, bI_f, Option.some.injEq, exists_eq_left', true_and, and_true, forall_eq, not_true_eq_false, not_false_eq_true, forall_const, false_implies, true_implies, Classical.not_not, if_true, if_false, Int.reduceEq, Int.reduceLT, Int.reduceLE, Int.reduceGT, Int.reduceGE, Int.reduceAdd, Int.reduceSub, Int.reduceMul, Int.reduceNeg, Int.reduceNe, Bool.true_and, Bool.and_true, Bool.false_and, Bool.and_false, BEq.rfl, Bool.true_eq_false, Bool.false_eq_true]
      have sl : SIM m2 (ldm m2) := (SIM.rf m2).ldm
      have e23 : ldm m2 23 = m' 23 := by rw [ldm_r rfl, f2 23 (by decide)]
      have e50 : ldm m2 50 = m2 50 := ldm_r rfl
      have hm0 := hG.m0
      have ell : lv (ldm m2) 0 = pv (ldm m2) := by rw [ldm_lv, sl.pv]
      have lenN : (res.2.2.2.2.2.1.length : Int) ≤ 80 := by omega
      refine ⟨82, q_rdMv_71 h hGP (N := res.2.2.2.2.2.1.length) ⟨by omega, lenN⟩ (ix := m' 23) 82 res.2.2.2.2.2.1 0 (ldm m2) (by omega) (by omega) (by decide) (sl.RG hG2) (by rw [e50, z11]; exact r7) (by rw [sl.pv, ep2]; exact hP) ell (fun i a b => by rw [e23]) (by rw [sl.pv, ep2]; exact r5) (fun m3 w1 w2 => ?_)⟩
      refine k2 q1 lin r7 m3 ?_ (by rw [w2, e50]; exact z0)
      have := SIM_playMs (F := F) (R := R) hGP (s2.tr sl) (by rw [epu]; exact hP) res.2.2.2.2.2.1 (by rw [epu]; exact lin)
      exact this.tr w1
end
