def cntG (g : Int → Int) (L : Nat) : Int := sumL (fun k => if 0 < g k then 1 else 0) 0 L
theorem cntF_r (g : Int → Int) (W : Int → List Int) (L : Nat) (i : Int) : ∀ (d : Nat) (k : Int), 0 ≤ k → -1 ≤ cntF g W L i k d ∧ cntF g W L i k d < k + d ∨ cntF g W L i k d = -1 := by
  intro d
  induction d with
  | zero => intro k _; right; rfl
  | succ d ih =>
    intro k h
    unfold cntF
    split
    · left; omega
    · rcases ih (k + 1) (by omega) with q | q
      · left; omega
      · right; exact q
section
variable {D : wD} {S : wS} {x : Nat} {A : Nat → Nat} {m m' : xM} {F R s : Int}
theorem CT.cw (h : CT m m' F R s (movesL F R (pv m)).length) (h30 : 0 ≤ m 30 s ∧ m 30 s ≤ 40) (hL : (movesL F R (pv m)).length ≤ 320) : CW m' (movesL F R (pv m)).length (gmB m s (movesL F R (pv m))) (wdB F R (pv m)) :=
  ⟨h.2.2.1.1, hL, fun k a b => ⟨h.2.2.2.1 k a b, gmB_r h30 _ _⟩, h.2.2.2.2.1⟩
theorem SIM.gmB (h : SIM m m') (s : Int) (L : List Mv) (k : Int) : gmB m' s L k = gmB m s L k := by
  unfold Jvm.Pilot.COpeningsCabinetLaw_law_r5693_3db0e9.gmB
  rw [h.row rfl]
  simp only [h.madeB]
theorem CT.of (hs : SIM m m') {m2 : xM} {n : Int} (h : CT m' m2 F R s n) (h0 : m' 50 0 = m 50 0) : CT m m2 F R s n := by
  have e := hs.pv
  refine ⟨hs.tr h.1, by rw [h.2.1, e], by rw [← e]; exact h.2.2.1, fun k a b => ?_, fun k a b c => ?_, h.2.2.2.2.2.trans h0⟩
  · have := h.2.2.2.1 k a b
    rw [hs.gmB, e] at this; exact this
  · have := h.2.2.2.2.1 k a b
    rw [hs.gmB, e] at this; exact this c
theorem q_contd_4 {post : Int32 → wS → Prop} {L : Nat} {g : Int → Int} {W : Int → List Int} (h : XC D S x A) (hC : CW m L g W) : ∀ (n d : Nat) (j t : Int), d < n → j + d = L → 0 ≤ j →
    post (iI (t + sumL (fun k => if 0 < g k then 1 else 0) j d)) (xS S x A m) → wp_X12_continued_4 D post n (xS S x A m) x (iI t) (iI j) := by
  have i0 : vp_in (iI 0) 8 := iI_in (by omega) (by omega) (by omega)
  have hL := hC.2.1
  intro n
  induction n with
  | zero => intro d j t hd; omega
  | succ n ih =>
    intro d j t hd hj h0 k
    unfold wp_X12_continued_4
    simp (discharger := first | decide | omega) only [x_own h, x_kd h, x_r h, x_m h, x_l h, x_k h, x_n h, x_i0, x_i h, x_u0 h, x_u h, xLen, xKd, nlit, iI_lit, iI_add, iI_sub, iI_mul, iI_neg, bI_z, bI_o, i10, i01, eq_self, bI_nar, nar_0, nar_1, up_at, up_f, Option.some.injEq, exists_eq_left', true_and, and_true, forall_eq, not_true_eq_false, not_false_eq_true, forall_const, false_implies, true_implies, Classical.not_not, if_true, if_false, Int.reduceEq, Int.reduceLT, Int.reduceLE, Int.reduceGT, Int.reduceGE, Int.reduceAdd, Int.reduceSub, Int.reduceMul, Int.reduceNeg, Int.reduceNe, eq_true i0]
    rw [hC.1, iI_le (by omega) (by omega) (by omega) (by omega)]
    cases d with
    | zero =>
      have c : (L : Int) ≤ j := by omega
      simp only [iI_lit, bI_z, bI_o, i10, i01, eq_self, bI_nar, nar_0, nar_1, bI_t, bI_f, true_and, and_true, forall_eq, not_true_eq_false, not_false_eq_true, forall_const, false_implies, true_implies, Classical.not_not, if_true, if_false, Int.reduceEq, Int.reduceLT, Int.reduceLE, Int.reduceGT, Int.reduceGE, Int.reduceAdd, Int.reduceSub, Int.reduceMul, Int.reduceNeg, Int.reduceNe, Bool.true_and, Bool.and_true, Bool.false_and, Bool.and_false, Bool.true_or, Bool.or_true, Bool.false_or, Bool.or_false, BEq.rfl, decide_true, decide_false, decide_eq_true_eq, Bool.false_eq_true, Bool.true_eq_false, Bool.not_true, Bool.not_false, sumL, Int.add_zero, c] at k ⊢
      exact k
    | succ d =>
      have c : ¬ (L : Int) ≤ j := by omega
      have ij : vp_in (iI j) 320 := iI_in (by omega) (by omega) (by omega)
      have hgj := hC.2.2.1 j h0 (by omega)
      simp (discharger := omega) only [nlit, iI_lit, iI_add, iI_sub, iI_mul, iI_neg, bI_z, bI_o, i10, i01, eq_self, bI_nar, nar_0, nar_1, bI_t, bI_f, Option.some.injEq, exists_eq_left', true_and, and_true, forall_eq, not_true_eq_false, not_false_eq_true, forall_const, false_implies, true_implies, Classical.not_not, if_true, if_false, Int.reduceEq, Int.reduceLT, Int.reduceLE, Int.reduceGT, Int.reduceGE, Int.reduceAdd, Int.reduceSub, Int.reduceMul, Int.reduceNeg, Int.reduceNe, Bool.true_and, Bool.and_true, Bool.false_and, Bool.and_false, BEq.rfl, Bool.true_eq_false, Bool.false_eq_true, c]
      simp (discharger := first | decide | omega) only [x_own h, x_kd h, x_r h, x_m h, x_l h, x_k h, x_n h, x_i0, x_i h, x_u0 h, x_u h, xLen, xKd, nlit, iI_lit, iI_add, iI_sub, iI_mul, iI_neg, bI_z, bI_o, i10, i01, eq_self, bI_nar, nar_0, nar_1, up_at, up_f, Option.some.injEq, exists_eq_left', true_and, and_true, forall_eq, not_true_eq_false, not_false_eq_true, forall_const, false_implies, true_implies, Classical.not_not, if_true, if_false, Int.reduceEq, Int.reduceLT, Int.reduceLE, Int.reduceGT, Int.reduceGE, Int.reduceAdd, Int.reduceSub, Int.reduceMul, Int.reduceNeg, Int.reduceNe, eq_true ij]
      rw [hgj.1, iI_le (by omega) (by omega) (by decide) (by decide)]
      unfold sumL at k
      by_cases z : g j ≤ 0
      · rw [if_neg (by omega)] at k
        simp (discharger := omega) only [nlit, iI_lit, iI_add, iI_sub, iI_mul, iI_neg, bI_z, bI_o, i10, i01, eq_self, bI_nar, nar_0, nar_1, bI_t, bI_f, Option.some.injEq, exists_eq_left', true_and, and_true, forall_eq, not_true_eq_false, not_false_eq_true, forall_const, false_implies, true_implies, Classical.not_not, if_true, if_false, Int.reduceEq, Int.reduceLT, Int.reduceLE, Int.reduceGT, Int.reduceGE, Int.reduceAdd, Int.reduceSub, Int.reduceMul, Int.reduceNeg, Int.reduceNe, Bool.true_and, Bool.and_true, Bool.false_and, Bool.and_false, BEq.rfl, Bool.true_eq_false, Bool.false_eq_true, z, wp_X12_continued_29]
        refine ih d (j + 1) (t + 0) (by omega) (by omega) (by omega) ?_
        rw [Int.add_assoc]; exact k
      · rw [if_pos (by omega)] at k
        simp (discharger := omega) only [nlit, iI_lit, iI_add, iI_sub, iI_mul, iI_neg, bI_z, bI_o, i10, i01, eq_self, bI_nar, nar_0, nar_1, bI_t, bI_f, Option.some.injEq, exists_eq_left', true_and, and_true, forall_eq, not_true_eq_false, not_false_eq_true, forall_const, false_implies, true_implies, Classical.not_not, if_true, if_false, Int.reduceEq, Int.reduceLT, Int.reduceLE, Int.reduceGT, Int.reduceGE, Int.reduceAdd, Int.reduceSub, Int.reduceMul, Int.reduceNeg, Int.reduceNe, Bool.true_and, Bool.and_true, Bool.false_and, Bool.and_false, BEq.rfl, Bool.true_eq_false, Bool.false_eq_true, z, wp_X12_continued_29]
        refine ih d (j + 1) (t + 1) (by omega) (by omega) (by omega) ?_
        rw [Int.add_assoc]; exact k
theorem q_contd {post : Int32 → wS → Prop} {L : Nat} {g : Int → Int} {W : Int → List Int} (h : XC D S x A) (hC : CW m L g W) (k : post (iI (cntG g L)) (xS S x A m)) : wp_X12_continued D post (xS S x A m) x := by
  have hL := hC.2.1
  simp (discharger := omega) only [nlit, iI_lit, iI_add, iI_sub, iI_mul, iI_neg, bI_z, bI_o, i10, i01, eq_self, bI_nar, nar_0, nar_1, bI_t, bI_f, Option.some.injEq, exists_eq_left', true_and, and_true, forall_eq, not_true_eq_false, not_false_eq_true, forall_const, false_implies, true_implies, Classical.not_not, if_true, if_false, Int.reduceEq, Int.reduceLT, Int.reduceLE, Int.reduceGT, Int.reduceGE, Int.reduceAdd, Int.reduceSub, Int.reduceMul, Int.reduceNeg, Int.reduceNe, Bool.true_and, Bool.and_true, Bool.false_and, Bool.and_false, BEq.rfl, Bool.true_eq_false, Bool.false_eq_true, wp_X12_continued, wp_X12_continued_0]
  refine ⟨321, q_contd_4 h hC 321 L 0 0 (by omega) (by omega) (by decide) ?_⟩
  rw [Int.zero_add]; exact k
theorem q_continuations {post : Int32 → wS → Prop} (h : XC D S x A) (hG : RG m F R) (hS : SG m F R) (hC : ∀ j, 0 ≤ j → j < 6400 → i32 (m 32 j)) {s : Int} (hs : i32 s) (hK : properB F R (gv m 0) = true → mvOK F R (pv m) ∧ ∀ t ∈ movesL F R (pv m), stOK F R (mkT F R (pv m) t))
    (k0 : inB s 0 1 = false → ∀ m', SIM m m' → m' 50 0 = 1 → post (iI 0) (xS S x A m'))
    (k1 : inB s 0 1 = true → properB F R (gv m 0) = false → ∀ m', SIM m m' → m' 50 0 = 2 → post (iI 0) (xS S x A m'))
    (k2 : inB s 0 1 = true → properB F R (gv m 0) = true → ∀ m', SIM m m' → m' 50 0 = 0 → post (iI (cntG (gmB m s (movesL F R (pv m))) (movesL F R (pv m)).length)) (xS S x A m')) : wp_X12_continuations D post (xS S x A m) x (iI s) := by
  unfold wp_X12_continuations wp_X12_continuations_0
  rw [q_isShelf hs]
  try simp (discharger := omega) only [nlit, iI_lit, iI_add, iI_sub, iI_mul, iI_neg, bI_z, bI_o, i10, i01, eq_self, bI_nar, nar_0, nar_1, bI_t, bI_f, Option.some.injEq, exists_eq_left', true_and, and_true, forall_eq, not_true_eq_false, not_false_eq_true, forall_const, false_implies, true_implies, Classical.not_not, if_true, if_false, Int.reduceEq, Int.reduceLT, Int.reduceLE, Int.reduceGT, Int.reduceGE, Int.reduceAdd, Int.reduceSub, Int.reduceMul, Int.reduceNeg, Int.reduceNe, Bool.true_and, Bool.and_true, Bool.false_and, Bool.and_false, BEq.rfl, Bool.true_eq_false, Bool.false_eq_true]
  rw [q_can h]
  simp (discharger := omega) only [nlit, iI_lit, iI_add, iI_sub, iI_mul, iI_neg, bI_z, bI_o, i10, i01, eq_self, bI_nar, nar_0, nar_1, bI_t, bI_f, Option.some.injEq, exists_eq_left', true_and, and_true, forall_eq, not_true_eq_false, not_false_eq_true, forall_const, false_implies, true_implies, Classical.not_not, if_true, if_false, Int.reduceEq, Int.reduceLT, Int.reduceLE, Int.reduceGT, Int.reduceGE, Int.reduceAdd, Int.reduceSub, Int.reduceMul, Int.reduceNeg, Int.reduceNe, Bool.true_and, Bool.and_true, Bool.false_and, Bool.and_false, BEq.rfl, Bool.true_eq_false, Bool.false_eq_true, wp_X12_continuations_24]
  cases c : inB s 0 1
  · try simp (discharger := omega) only [nlit, iI_lit, iI_add, iI_sub, iI_mul, iI_neg, bI_z, bI_o, i10, i01, eq_self, bI_nar, nar_0, nar_1, bI_t, bI_f, Option.some.injEq, exists_eq_left', true_and, and_true, forall_eq, not_true_eq_false, not_false_eq_true, forall_const, false_implies, true_implies, Classical.not_not, if_true, if_false, Int.reduceEq, Int.reduceLT, Int.reduceLE, Int.reduceGT, Int.reduceGE, Int.reduceAdd, Int.reduceSub, Int.reduceMul, Int.reduceNeg, Int.reduceNe, Bool.true_and, Bool.and_true, Bool.false_and, Bool.and_false, BEq.rfl, Bool.true_eq_false, Bool.false_eq_true]
    exact k0 c _ ((SIM.rf m).up0 1) (up_at _ _ _ _)
  · have k1 := k1 c
    have k2 := k2 c
    have hc := c
    unfold inB at hc
    simp at hc
    rw [cn_true]
    try simp (discharger := omega) only [nlit, iI_lit, iI_add, iI_sub, iI_mul, iI_neg, bI_z, bI_o, i10, i01, eq_self, bI_nar, nar_0, nar_1, bI_t, bI_f, Option.some.injEq, exists_eq_left', true_and, and_true, forall_eq, not_true_eq_false, not_false_eq_true, forall_const, false_implies, true_implies, Classical.not_not, if_true, if_false, Int.reduceEq, Int.reduceLT, Int.reduceLE, Int.reduceGT, Int.reduceGE, Int.reduceAdd, Int.reduceSub, Int.reduceMul, Int.reduceNeg, Int.reduceNe, Bool.true_and, Bool.and_true, Bool.false_and, Bool.and_false, BEq.rfl, Bool.true_eq_false, Bool.false_eq_true]
    refine q_isAskable h (hG.up0 0) ?_
    rw [show gv (up m 50 0 0) 0 = gv m 0 from vec_row (up_r m _ _ rfl) _]
    try simp (discharger := omega) only [nlit, iI_lit, iI_add, iI_sub, iI_mul, iI_neg, bI_z, bI_o, i10, i01, eq_self, bI_nar, nar_0, nar_1, bI_t, bI_f, Option.some.injEq, exists_eq_left', true_and, and_true, forall_eq, not_true_eq_false, not_false_eq_true, forall_const, false_implies, true_implies, Classical.not_not, if_true, if_false, Int.reduceEq, Int.reduceLT, Int.reduceLE, Int.reduceGT, Int.reduceGE, Int.reduceAdd, Int.reduceSub, Int.reduceMul, Int.reduceNeg, Int.reduceNe, Bool.true_and, Bool.and_true, Bool.false_and, Bool.and_false, BEq.rfl, Bool.true_eq_false, Bool.false_eq_true]
    rw [q_can h]
    try simp (discharger := omega) only [nlit, iI_lit, iI_add, iI_sub, iI_mul, iI_neg, bI_z, bI_o, i10, i01, eq_self, bI_nar, nar_0, nar_1, bI_t, bI_f, Option.some.injEq, exists_eq_left', true_and, and_true, forall_eq, not_true_eq_false, not_false_eq_true, forall_const, false_implies, true_implies, Classical.not_not, if_true, if_false, Int.reduceEq, Int.reduceLT, Int.reduceLE, Int.reduceGT, Int.reduceGE, Int.reduceAdd, Int.reduceSub, Int.reduceMul, Int.reduceNeg, Int.reduceNe, Bool.true_and, Bool.and_true, Bool.false_and, Bool.and_false, BEq.rfl, Bool.true_eq_false, Bool.false_eq_true]
    have sm : ∀ z, SIM m (up (ldm (up m 50 0 0)) 50 0 z) := fun z => (((SIM.rf m).up0 0).ldm).up0 z
    cases cp : properB F R (gv m 0)
    · try simp (discharger := omega) only [nlit, iI_lit, iI_add, iI_sub, iI_mul, iI_neg, bI_z, bI_o, i10, i01, eq_self, bI_nar, nar_0, nar_1, bI_t, bI_f, Option.some.injEq, exists_eq_left', true_and, and_true, forall_eq, not_true_eq_false, not_false_eq_true, forall_const, false_implies, true_implies, Classical.not_not, if_true, if_false, Int.reduceEq, Int.reduceLT, Int.reduceLE, Int.reduceGT, Int.reduceGE, Int.reduceAdd, Int.reduceSub, Int.reduceMul, Int.reduceNeg, Int.reduceNe, Bool.true_and, Bool.and_true, Bool.false_and, Bool.and_false, BEq.rfl, Bool.true_eq_false, Bool.false_eq_true]
      exact k1 cp _ (sm 2) (up_at _ _ _ _)
    · rw [cn_true]
      try simp (discharger := omega) only [nlit, iI_lit, iI_add, iI_sub, iI_mul, iI_neg, bI_z, bI_o, i10, i01, eq_self, bI_nar, nar_0, nar_1, bI_t, bI_f, Option.some.injEq, exists_eq_left', true_and, and_true, forall_eq, not_true_eq_false, not_false_eq_true, forall_const, false_implies, true_implies, Classical.not_not, if_true, if_false, Int.reduceEq, Int.reduceLT, Int.reduceLE, Int.reduceGT, Int.reduceGE, Int.reduceAdd, Int.reduceSub, Int.reduceMul, Int.reduceNeg, Int.reduceNe, Bool.true_and, Bool.and_true, Bool.false_and, Bool.and_false, BEq.rfl, Bool.true_eq_false, Bool.false_eq_true]
      have hK := hK cp
      have sm0 := sm 0
      have e0 : up (ldm (up m 50 0 0)) 50 0 0 50 0 = 0 := up_at _ _ _ _
      generalize up (ldm (up m 50 0 0)) 50 0 0 = m2 at sm0 e0
      have ep := sm0.pv
      refine q_lays h (sm0.RG hG) (sm0.SG hS) (by rw [sm0.row rfl]; exact hC) hc (by rw [ep]; exact hK.1) (by rw [ep]; exact hK.2) (fun m3 hT => ?_)
      have hcw := CT.cw (m := m2) hT (by rw [sm0.row rfl]; exact hS.1 s hc.1 hc.2) (by rw [ep]; exact hK.1.2)
      try simp (discharger := omega) only [nlit, iI_lit, iI_add, iI_sub, iI_mul, iI_neg, bI_z, bI_o, i10, i01, eq_self, bI_nar, nar_0, nar_1, bI_t, bI_f, Option.some.injEq, exists_eq_left', true_and, and_true, forall_eq, not_true_eq_false, not_false_eq_true, forall_const, false_implies, true_implies, Classical.not_not, if_true, if_false, Int.reduceEq, Int.reduceLT, Int.reduceLE, Int.reduceGT, Int.reduceGE, Int.reduceAdd, Int.reduceSub, Int.reduceMul, Int.reduceNeg, Int.reduceNe, Bool.true_and, Bool.and_true, Bool.false_and, Bool.and_false, BEq.rfl, Bool.true_eq_false, Bool.false_eq_true]
      refine q_contd h hcw ?_
      try simp (discharger := omega) only [nlit, iI_lit, iI_add, iI_sub, iI_mul, iI_neg, bI_z, bI_o, i10, i01, eq_self, bI_nar, nar_0, nar_1, bI_t, bI_f, Option.some.injEq, exists_eq_left', true_and, and_true, forall_eq, not_true_eq_false, not_false_eq_true, forall_const, false_implies, true_implies, Classical.not_not, if_true, if_false, Int.reduceEq, Int.reduceLT, Int.reduceLE, Int.reduceGT, Int.reduceGE, Int.reduceAdd, Int.reduceSub, Int.reduceMul, Int.reduceNeg, Int.reduceNe, Bool.true_and, Bool.and_true, Bool.false_and, Bool.and_false, BEq.rfl, Bool.true_eq_false, Bool.false_eq_true]
      have eg : gmB m2 s (movesL F R (pv m2)) = gmB m s (movesL F R (pv m)) := by rw [ep]; funext k; exact sm0.gmB _ _ _
      rw [eg, ep]
      exact k2 cp _ (sm0.tr hT.1) (by rw [hT.2.2.2.2.2]; exact e0)
theorem q_asksC {post : Int32 → wS → Prop} (h : XC D S x A) (hG : RG m F R) (hS : SG m F R) (hC : ∀ j, 0 ≤ j → j < 6400 → i32 (m 32 j)) {s i : Int} (hs : i32 s) (hi : i32 i) (hK : properB F R (gv m 0) = true → mvOK F R (pv m) ∧ ∀ t ∈ movesL F R (pv m), stOK F R (mkT F R (pv m) t))
    (k0 : properB F R (gv m 0) = false → ∀ m', SIM m m' → m' 50 0 = 1 → post (iI (-1)) (xS S x A m'))
    (k1 : properB F R (gv m 0) = true → inB s 0 1 = false → ∀ m', SIM m m' → m' 50 0 = 2 → post (iI (-1)) (xS S x A m'))
    (k2 : properB F R (gv m 0) = true → inB s 0 1 = true → cntF (gmB m s (movesL F R (pv m))) (wdB F R (pv m)) (movesL F R (pv m)).length i 0 (movesL F R (pv m)).length = -1 → ∀ m', SIM m m' → m' 50 0 = 2 → post (iI (-1)) (xS S x A m'))
    (k3 : properB F R (gv m 0) = true → inB s 0 1 = true → ∀ q : Int, q = cntF (gmB m s (movesL F R (pv m))) (wdB F R (pv m)) (movesL F R (pv m)).length i 0 (movesL F R (pv m)).length → q ≠ -1 → 0 ≤ q ∧ q < (movesL F R (pv m)).length → ∀ m', SIM m m' → m' 50 0 = 0 → m' 19 q = gmB m s (movesL F R (pv m)) q → post (iI q) (xS S x A m')) : wp_X12_asksContinuation D post (xS S x A m) x (iI s) (iI i) := by
  unfold wp_X12_asksContinuation wp_X12_asksContinuation_0
  refine q_isAskable h hG ?_
  try simp (discharger := omega) only [nlit, iI_lit, iI_add, iI_sub, iI_mul, iI_neg, bI_z, bI_o, i10, i01, eq_self, bI_nar, nar_0, nar_1, bI_t, bI_f, Option.some.injEq, exists_eq_left', true_and, and_true, forall_eq, not_true_eq_false, not_false_eq_true, forall_const, false_implies, true_implies, Classical.not_not, if_true, if_false, Int.reduceEq, Int.reduceLT, Int.reduceLE, Int.reduceGT, Int.reduceGE, Int.reduceAdd, Int.reduceSub, Int.reduceMul, Int.reduceNeg, Int.reduceNe, Bool.true_and, Bool.and_true, Bool.false_and, Bool.and_false, BEq.rfl, Bool.true_eq_false, Bool.false_eq_true]
  rw [q_can h]
  simp (discharger := omega) only [nlit, iI_lit, iI_add, iI_sub, iI_mul, iI_neg, bI_z, bI_o, i10, i01, eq_self, bI_nar, nar_0, nar_1, bI_t, bI_f, Option.some.injEq, exists_eq_left', true_and, and_true, forall_eq, not_true_eq_false, not_false_eq_true, forall_const, false_implies, true_implies, Classical.not_not, if_true, if_false, Int.reduceEq, Int.reduceLT, Int.reduceLE, Int.reduceGT, Int.reduceGE, Int.reduceAdd, Int.reduceSub, Int.reduceMul, Int.reduceNeg, Int.reduceNe, Bool.true_and, Bool.and_true, Bool.false_and, Bool.and_false, BEq.rfl, Bool.true_eq_false, Bool.false_eq_true, wp_X12_asksContinuation_24]
  have sm : ∀ z, SIM m (up (ldm m) 50 0 z) := fun z => (SIM.rf m).ldm.up0 z
  cases cp : properB F R (gv m 0)
  · try simp (discharger := omega) only [nlit, iI_lit, iI_add, iI_sub, iI_mul, iI_neg, bI_z, bI_o, i10, i01, eq_self, bI_nar, nar_0, nar_1, bI_t, bI_f, Option.some.injEq, exists_eq_left', true_and, and_true, forall_eq, not_true_eq_false, not_false_eq_true, forall_const, false_implies, true_implies, Classical.not_not, if_true, if_false, Int.reduceEq, Int.reduceLT, Int.reduceLE, Int.reduceGT, Int.reduceGE, Int.reduceAdd, Int.reduceSub, Int.reduceMul, Int.reduceNeg, Int.reduceNe, Bool.true_and, Bool.and_true, Bool.false_and, Bool.and_false, BEq.rfl, Bool.true_eq_false, Bool.false_eq_true]
    exact k0 cp _ (sm 1) (up_at _ _ _ _)
  · rw [cn_true]
    have hK := hK cp
    try simp (discharger := omega) only [nlit, iI_lit, iI_add, iI_sub, iI_mul, iI_neg, bI_z, bI_o, i10, i01, eq_self, bI_nar, nar_0, nar_1, bI_t, bI_f, Option.some.injEq, exists_eq_left', true_and, and_true, forall_eq, not_true_eq_false, not_false_eq_true, forall_const, false_implies, true_implies, Classical.not_not, if_true, if_false, Int.reduceEq, Int.reduceLT, Int.reduceLE, Int.reduceGT, Int.reduceGE, Int.reduceAdd, Int.reduceSub, Int.reduceMul, Int.reduceNeg, Int.reduceNe, Bool.true_and, Bool.and_true, Bool.false_and, Bool.and_false, BEq.rfl, Bool.true_eq_false, Bool.false_eq_true]
    rw [q_isShelf hs]
    try simp (discharger := omega) only [nlit, iI_lit, iI_add, iI_sub, iI_mul, iI_neg, bI_z, bI_o, i10, i01, eq_self, bI_nar, nar_0, nar_1, bI_t, bI_f, Option.some.injEq, exists_eq_left', true_and, and_true, forall_eq, not_true_eq_false, not_false_eq_true, forall_const, false_implies, true_implies, Classical.not_not, if_true, if_false, Int.reduceEq, Int.reduceLT, Int.reduceLE, Int.reduceGT, Int.reduceGE, Int.reduceAdd, Int.reduceSub, Int.reduceMul, Int.reduceNeg, Int.reduceNe, Bool.true_and, Bool.and_true, Bool.false_and, Bool.and_false, BEq.rfl, Bool.true_eq_false, Bool.false_eq_true]
    rw [q_can h]
    try simp (discharger := omega) only [nlit, iI_lit, iI_add, iI_sub, iI_mul, iI_neg, bI_z, bI_o, i10, i01, eq_self, bI_nar, nar_0, nar_1, bI_t, bI_f, Option.some.injEq, exists_eq_left', true_and, and_true, forall_eq, not_true_eq_false, not_false_eq_true, forall_const, false_implies, true_implies, Classical.not_not, if_true, if_false, Int.reduceEq, Int.reduceLT, Int.reduceLE, Int.reduceGT, Int.reduceGE, Int.reduceAdd, Int.reduceSub, Int.reduceMul, Int.reduceNeg, Int.reduceNe, Bool.true_and, Bool.and_true, Bool.false_and, Bool.and_false, BEq.rfl, Bool.true_eq_false, Bool.false_eq_true]
    have sm2 : ∀ z, SIM m (up (up (ldm m) 50 0 0) 50 0 z) := fun z => (sm 0).up0 z
    cases c : inB s 0 1
    · try simp (discharger := omega) only [nlit, iI_lit, iI_add, iI_sub, iI_mul, iI_neg, bI_z, bI_o, i10, i01, eq_self, bI_nar, nar_0, nar_1, bI_t, bI_f, Option.some.injEq, exists_eq_left', true_and, and_true, forall_eq, not_true_eq_false, not_false_eq_true, forall_const, false_implies, true_implies, Classical.not_not, if_true, if_false, Int.reduceEq, Int.reduceLT, Int.reduceLE, Int.reduceGT, Int.reduceGE, Int.reduceAdd, Int.reduceSub, Int.reduceMul, Int.reduceNeg, Int.reduceNe, Bool.true_and, Bool.and_true, Bool.false_and, Bool.and_false, BEq.rfl, Bool.true_eq_false, Bool.false_eq_true]
      exact k1 cp c _ (sm2 2) (up_at _ _ _ _)
    · have k2 := k2 cp c
      have k3 := k3 cp c
      have hc := c
      unfold inB at hc
      simp at hc
      rw [cn_true]
      try simp (discharger := omega) only [nlit, iI_lit, iI_add, iI_sub, iI_mul, iI_neg, bI_z, bI_o, i10, i01, eq_self, bI_nar, nar_0, nar_1, bI_t, bI_f, Option.some.injEq, exists_eq_left', true_and, and_true, forall_eq, not_true_eq_false, not_false_eq_true, forall_const, false_implies, true_implies, Classical.not_not, if_true, if_false, Int.reduceEq, Int.reduceLT, Int.reduceLE, Int.reduceGT, Int.reduceGE, Int.reduceAdd, Int.reduceSub, Int.reduceMul, Int.reduceNeg, Int.reduceNe, Bool.true_and, Bool.and_true, Bool.false_and, Bool.and_false, BEq.rfl, Bool.true_eq_false, Bool.false_eq_true]
      have sm0 := sm2 0
      have e0 : up (up (ldm m) 50 0 0) 50 0 0 50 0 = 0 := up_at _ _ _ _
      generalize up (up (ldm m) 50 0 0) 50 0 0 = m2 at sm0 e0
      have ep := sm0.pv
      refine q_lays h (sm0.RG hG) (sm0.SG hS) (by rw [sm0.row rfl]; exact hC) hc (by rw [ep]; exact hK.1) (by rw [ep]; exact hK.2) (fun m3 hT => ?_)
      have hcw := CT.cw (m := m2) hT (by rw [sm0.row rfl]; exact hS.1 s hc.1 hc.2) (by rw [ep]; exact hK.1.2)
      have eg : gmB m2 s (movesL F R (pv m2)) = gmB m s (movesL F R (pv m)) := by rw [ep]; funext k; exact sm0.gmB _ _ _
      rw [eg, ep] at hcw
      try simp (discharger := omega) only [nlit, iI_lit, iI_add, iI_sub, iI_mul, iI_neg, bI_z, bI_o, i10, i01, eq_self, bI_nar, nar_0, nar_1, bI_t, bI_f, Option.some.injEq, exists_eq_left', true_and, and_true, forall_eq, not_true_eq_false, not_false_eq_true, forall_const, false_implies, true_implies, Classical.not_not, if_true, if_false, Int.reduceEq, Int.reduceLT, Int.reduceLE, Int.reduceGT, Int.reduceGE, Int.reduceAdd, Int.reduceSub, Int.reduceMul, Int.reduceNeg, Int.reduceNe, Bool.true_and, Bool.and_true, Bool.false_and, Bool.and_false, BEq.rfl, Bool.true_eq_false, Bool.false_eq_true]
      refine q_continuation h hcw hi ?_
      have cr := cntF_r (gmB m s (movesL F R (pv m))) (wdB F R (pv m)) (movesL F R (pv m)).length i (movesL F R (pv m)).length 0 (by decide)
      have hL := hcw.2.1
      generalize hq : cntF (gmB m s (movesL F R (pv m))) (wdB F R (pv m)) (movesL F R (pv m)).length i 0 (movesL F R (pv m)).length = q at cr k2 k3
      try simp (discharger := omega) only [nlit, iI_lit, iI_add, iI_sub, iI_mul, iI_neg, bI_z, bI_o, i10, i01, eq_self, bI_nar, nar_0, nar_1, bI_t, bI_f, Option.some.injEq, exists_eq_left', true_and, and_true, forall_eq, not_true_eq_false, not_false_eq_true, forall_const, false_implies, true_implies, Classical.not_not, if_true, if_false, Int.reduceEq, Int.reduceLT, Int.reduceLE, Int.reduceGT, Int.reduceGE, Int.reduceAdd, Int.reduceSub, Int.reduceMul, Int.reduceNeg, Int.reduceNe, Bool.true_and, Bool.and_true, Bool.false_and, Bool.and_false, BEq.rfl, Bool.true_eq_false, Bool.false_eq_true]
      rw [iI_eq (by omega) (by omega) (by decide) (by decide)]
      by_cases z : q = -1
      · simp (discharger := omega) only [nlit, iI_lit, iI_add, iI_sub, iI_mul, iI_neg, bI_z, bI_o, i10, i01, eq_self, bI_nar, nar_0, nar_1, bI_t, bI_f, Option.some.injEq, exists_eq_left', true_and, and_true, forall_eq, not_true_eq_false, not_false_eq_true, forall_const, false_implies, true_implies, Classical.not_not, if_true, if_false, Int.reduceEq, Int.reduceLT, Int.reduceLE, Int.reduceGT, Int.reduceGE, Int.reduceAdd, Int.reduceSub, Int.reduceMul, Int.reduceNeg, Int.reduceNe, Bool.true_and, Bool.and_true, Bool.false_and, Bool.and_false, BEq.rfl, Bool.true_eq_false, Bool.false_eq_true, z, wp_X12_asksContinuation_48]
        rw [q_can0 h]
        simp (discharger := omega) only [nlit, iI_lit, iI_add, iI_sub, iI_mul, iI_neg, bI_z, bI_o, i10, i01, eq_self, bI_nar, nar_0, nar_1, bI_t, bI_f, Option.some.injEq, exists_eq_left', true_and, and_true, forall_eq, not_true_eq_false, not_false_eq_true, forall_const, false_implies, true_implies, Classical.not_not, if_true, if_false, Int.reduceEq, Int.reduceLT, Int.reduceLE, Int.reduceGT, Int.reduceGE, Int.reduceAdd, Int.reduceSub, Int.reduceMul, Int.reduceNeg, Int.reduceNe, Bool.true_and, Bool.and_true, Bool.false_and, Bool.and_false, BEq.rfl, Bool.true_eq_false, Bool.false_eq_true, wp_X12_asksContinuation_60]
        exact k2 z _ ((sm0.tr hT.1).up0 2) (up_at _ _ _ _)
      · simp (discharger := omega) only [nlit, iI_lit, iI_add, iI_sub, iI_mul, iI_neg, bI_z, bI_o, i10, i01, eq_self, bI_nar, nar_0, nar_1, bI_t, bI_f, Option.some.injEq, exists_eq_left', true_and, and_true, forall_eq, not_true_eq_false, not_false_eq_true, forall_const, false_implies, true_implies, Classical.not_not, if_true, if_false, Int.reduceEq, Int.reduceLT, Int.reduceLE, Int.reduceGT, Int.reduceGE, Int.reduceAdd, Int.reduceSub, Int.reduceMul, Int.reduceNeg, Int.reduceNe, Bool.true_and, Bool.and_true, Bool.false_and, Bool.and_false, BEq.rfl, Bool.true_eq_false, Bool.false_eq_true, z, wp_X12_asksContinuation_48]
        rw [q_can1 h]
        simp (discharger := omega) only [nlit, iI_lit, iI_add, iI_sub, iI_mul, iI_neg, bI_z, bI_o, i10, i01, eq_self, bI_nar, nar_0, nar_1, bI_t, bI_f, Option.some.injEq, exists_eq_left', true_and, and_true, forall_eq, not_true_eq_false, not_false_eq_true, forall_const, false_implies, true_implies, Classical.not_not, if_true, if_false, Int.reduceEq, Int.reduceLT, Int.reduceLE, Int.reduceGT, Int.reduceGE, Int.reduceAdd, Int.reduceSub, Int.reduceMul, Int.reduceNeg, Int.reduceNe, Bool.true_and, Bool.and_true, Bool.false_and, Bool.and_false, BEq.rfl, Bool.true_eq_false, Bool.false_eq_true, wp_X12_asksContinuation_60]
        exact k3 q rfl z (by omega) _ ((sm0.tr hT.1).up0 0) (up_at _ _ _ _) (by rw [up_f _ _ _ _ rfl]; exact (hcw.2.2.1 q (by omega) (by omega)).1)
theorem q_continuationAt {post : Int32 → wS → Prop} (h : XC D S x A) (hG : RG m F R) (hS : SG m F R) (hC : ∀ j, 0 ≤ j → j < 6400 → i32 (m 32 j)) {s i : Int} (hs : i32 s) (hi : i32 i) (hK : properB F R (gv m 0) = true → mvOK F R (pv m) ∧ ∀ t ∈ movesL F R (pv m), stOK F R (mkT F R (pv m) t))
    (k0 : properB F R (gv m 0) = false → ∀ m', SIM m m' → m' 50 0 = 1 → post (iI 0) (xS S x A m'))
    (k1 : properB F R (gv m 0) = true → (inB s 0 1 = false ∨ cntF (gmB m s (movesL F R (pv m))) (wdB F R (pv m)) (movesL F R (pv m)).length i 0 (movesL F R (pv m)).length = -1) → ∀ m', SIM m m' → m' 50 0 = 2 → post (iI 0) (xS S x A m'))
    (k3 : properB F R (gv m 0) = true → inB s 0 1 = true → ∀ q : Int, q = cntF (gmB m s (movesL F R (pv m))) (wdB F R (pv m)) (movesL F R (pv m)).length i 0 (movesL F R (pv m)).length → q ≠ -1 → 0 ≤ q ∧ q < (movesL F R (pv m)).length → ∀ m', SIM m m' → m' 50 0 = 0 → post (iI q) (xS S x A m')) : wp_X12_continuationAt D post (xS S x A m) x (iI s) (iI i) := by
  have e1 : (iI (-1) = iI (-1)) = True := eq_true rfl
  unfold wp_X12_continuationAt wp_X12_continuationAt_0
  refine q_asksC h hG hS hC hs hi hK (fun a m' b c => ?_) (fun a b m' c d => ?_) (fun a b c m' d e => ?_) (fun a b q c d e m' f g z => ?_)
  · simp (discharger := omega) only [nlit, iI_lit, iI_add, iI_sub, iI_mul, iI_neg, bI_z, bI_o, i10, i01, eq_self, bI_nar, nar_0, nar_1, bI_t, bI_f, Option.some.injEq, exists_eq_left', true_and, and_true, forall_eq, not_true_eq_false, not_false_eq_true, forall_const, false_implies, true_implies, Classical.not_not, if_true, if_false, Int.reduceEq, Int.reduceLT, Int.reduceLE, Int.reduceGT, Int.reduceGE, Int.reduceAdd, Int.reduceSub, Int.reduceMul, Int.reduceNeg, Int.reduceNe, Bool.true_and, Bool.and_true, Bool.false_and, Bool.and_false, BEq.rfl, Bool.true_eq_false, Bool.false_eq_true, wp_X12_continuationAt_17]
    exact k0 a m' b c
  · simp (discharger := omega) only [nlit, iI_lit, iI_add, iI_sub, iI_mul, iI_neg, bI_z, bI_o, i10, i01, eq_self, bI_nar, nar_0, nar_1, bI_t, bI_f, Option.some.injEq, exists_eq_left', true_and, and_true, forall_eq, not_true_eq_false, not_false_eq_true, forall_const, false_implies, true_implies, Classical.not_not, if_true, if_false, Int.reduceEq, Int.reduceLT, Int.reduceLE, Int.reduceGT, Int.reduceGE, Int.reduceAdd, Int.reduceSub, Int.reduceMul, Int.reduceNeg, Int.reduceNe, Bool.true_and, Bool.and_true, Bool.false_and, Bool.and_false, BEq.rfl, Bool.true_eq_false, Bool.false_eq_true, wp_X12_continuationAt_17]
    exact k1 a (Or.inl b) m' c d
  · simp (discharger := omega) only [nlit, iI_lit, iI_add, iI_sub, iI_mul, iI_neg, bI_z, bI_o, i10, i01, eq_self, bI_nar, nar_0, nar_1, bI_t, bI_f, Option.some.injEq, exists_eq_left', true_and, and_true, forall_eq, not_true_eq_false, not_false_eq_true, forall_const, false_implies, true_implies, Classical.not_not, if_true, if_false, Int.reduceEq, Int.reduceLT, Int.reduceLE, Int.reduceGT, Int.reduceGE, Int.reduceAdd, Int.reduceSub, Int.reduceMul, Int.reduceNeg, Int.reduceNe, Bool.true_and, Bool.and_true, Bool.false_and, Bool.and_false, BEq.rfl, Bool.true_eq_false, Bool.false_eq_true, wp_X12_continuationAt_17]
    exact k1 a (Or.inr c) m' d e
  · have hL := (hK a).1.2
    simp (discharger := omega) only [nlit, iI_lit, iI_add, iI_sub, iI_mul, iI_neg, bI_z, bI_o, i10, i01, eq_self, bI_nar, nar_0, nar_1, bI_t, bI_f, Option.some.injEq, exists_eq_left', true_and, and_true, forall_eq, not_true_eq_false, not_false_eq_true, forall_const, false_implies, true_implies, Classical.not_not, if_true, if_false, Int.reduceEq, Int.reduceLT, Int.reduceLE, Int.reduceGT, Int.reduceGE, Int.reduceAdd, Int.reduceSub, Int.reduceMul, Int.reduceNeg, Int.reduceNe, Bool.true_and, Bool.and_true, Bool.false_and, Bool.and_false, BEq.rfl, Bool.true_eq_false, Bool.false_eq_true, wp_X12_continuationAt_17]
    rw [iI_eq (by omega) (by omega) (by decide) (by decide)]
    simp (discharger := omega) only [nlit, iI_lit, iI_add, iI_sub, iI_mul, iI_neg, bI_z, bI_o, i10, i01, eq_self, bI_nar, nar_0, nar_1, bI_t, bI_f, Option.some.injEq, exists_eq_left', true_and, and_true, forall_eq, not_true_eq_false, not_false_eq_true, forall_const, false_implies, true_implies, Classical.not_not, if_true, if_false, Int.reduceEq, Int.reduceLT, Int.reduceLE, Int.reduceGT, Int.reduceGE, Int.reduceAdd, Int.reduceSub, Int.reduceMul, Int.reduceNeg, Int.reduceNe, Bool.true_and, Bool.and_true, Bool.false_and, Bool.and_false, BEq.rfl, Bool.true_eq_false, Bool.false_eq_true, d]
    exact k3 a b q c d e m' f g
theorem q_gamesOf {post : Int32 → wS → Prop} (h : XC D S x A) (hG : RG m F R) (hS : SG m F R) (hC : ∀ j, 0 ≤ j → j < 6400 → i32 (m 32 j)) {s i : Int} (hs : i32 s) (hi : i32 i) (hK : properB F R (gv m 0) = true → mvOK F R (pv m) ∧ ∀ t ∈ movesL F R (pv m), stOK F R (mkT F R (pv m) t))
    (k0 : properB F R (gv m 0) = false → ∀ m', SIM m m' → m' 50 0 = 1 → post (iI 0) (xS S x A m'))
    (k1 : properB F R (gv m 0) = true → (inB s 0 1 = false ∨ cntF (gmB m s (movesL F R (pv m))) (wdB F R (pv m)) (movesL F R (pv m)).length i 0 (movesL F R (pv m)).length = -1) → ∀ m', SIM m m' → m' 50 0 = 2 → post (iI 0) (xS S x A m'))
    (k3 : properB F R (gv m 0) = true → inB s 0 1 = true → ∀ q : Int, q = cntF (gmB m s (movesL F R (pv m))) (wdB F R (pv m)) (movesL F R (pv m)).length i 0 (movesL F R (pv m)).length → q ≠ -1 → 0 ≤ q ∧ q < (movesL F R (pv m)).length → ∀ m', SIM m m' → m' 50 0 = 0 → post (iI (gmB m s (movesL F R (pv m)) q)) (xS S x A m')) : wp_X12_gamesOf D post (xS S x A m) x (iI s) (iI i) := by
  unfold wp_X12_gamesOf wp_X12_gamesOf_0
  refine q_asksC h hG hS hC hs hi hK (fun a m' b c => ?_) (fun a b m' c d => ?_) (fun a b c m' d e => ?_) (fun a b q c d e m' f g z => ?_)
  · simp (discharger := omega) only [nlit, iI_lit, iI_add, iI_sub, iI_mul, iI_neg, bI_z, bI_o, i10, i01, eq_self, bI_nar, nar_0, nar_1, bI_t, bI_f, Option.some.injEq, exists_eq_left', true_and, and_true, forall_eq, not_true_eq_false, not_false_eq_true, forall_const, false_implies, true_implies, Classical.not_not, if_true, if_false, Int.reduceEq, Int.reduceLT, Int.reduceLE, Int.reduceGT, Int.reduceGE, Int.reduceAdd, Int.reduceSub, Int.reduceMul, Int.reduceNeg, Int.reduceNe, Bool.true_and, Bool.and_true, Bool.false_and, Bool.and_false, BEq.rfl, Bool.true_eq_false, Bool.false_eq_true, wp_X12_gamesOf_22]
    exact k0 a m' b c
  · simp (discharger := omega) only [nlit, iI_lit, iI_add, iI_sub, iI_mul, iI_neg, bI_z, bI_o, i10, i01, eq_self, bI_nar, nar_0, nar_1, bI_t, bI_f, Option.some.injEq, exists_eq_left', true_and, and_true, forall_eq, not_true_eq_false, not_false_eq_true, forall_const, false_implies, true_implies, Classical.not_not, if_true, if_false, Int.reduceEq, Int.reduceLT, Int.reduceLE, Int.reduceGT, Int.reduceGE, Int.reduceAdd, Int.reduceSub, Int.reduceMul, Int.reduceNeg, Int.reduceNe, Bool.true_and, Bool.and_true, Bool.false_and, Bool.and_false, BEq.rfl, Bool.true_eq_false, Bool.false_eq_true, wp_X12_gamesOf_22]
    exact k1 a (Or.inl b) m' c d
  · simp (discharger := omega) only [nlit, iI_lit, iI_add, iI_sub, iI_mul, iI_neg, bI_z, bI_o, i10, i01, eq_self, bI_nar, nar_0, nar_1, bI_t, bI_f, Option.some.injEq, exists_eq_left', true_and, and_true, forall_eq, not_true_eq_false, not_false_eq_true, forall_const, false_implies, true_implies, Classical.not_not, if_true, if_false, Int.reduceEq, Int.reduceLT, Int.reduceLE, Int.reduceGT, Int.reduceGE, Int.reduceAdd, Int.reduceSub, Int.reduceMul, Int.reduceNeg, Int.reduceNe, Bool.true_and, Bool.and_true, Bool.false_and, Bool.and_false, BEq.rfl, Bool.true_eq_false, Bool.false_eq_true, wp_X12_gamesOf_22]
    exact k1 a (Or.inr c) m' d e
  · have hL := (hK a).1.2
    have iq : vp_in (iI q) 320 := iI_in (by omega) (by omega) (by omega)
    simp (discharger := omega) only [nlit, iI_lit, iI_add, iI_sub, iI_mul, iI_neg, bI_z, bI_o, i10, i01, eq_self, bI_nar, nar_0, nar_1, bI_t, bI_f, Option.some.injEq, exists_eq_left', true_and, and_true, forall_eq, not_true_eq_false, not_false_eq_true, forall_const, false_implies, true_implies, Classical.not_not, if_true, if_false, Int.reduceEq, Int.reduceLT, Int.reduceLE, Int.reduceGT, Int.reduceGE, Int.reduceAdd, Int.reduceSub, Int.reduceMul, Int.reduceNeg, Int.reduceNe, Bool.true_and, Bool.and_true, Bool.false_and, Bool.and_false, BEq.rfl, Bool.true_eq_false, Bool.false_eq_true, wp_X12_gamesOf_22]
    rw [iI_eq (by omega) (by omega) (by decide) (by decide)]
    simp (discharger := omega) only [nlit, iI_lit, iI_add, iI_sub, iI_mul, iI_neg, bI_z, bI_o, i10, i01, eq_self, bI_nar, nar_0, nar_1, bI_t, bI_f, Option.some.injEq, exists_eq_left', true_and, and_true, forall_eq, not_true_eq_false, not_false_eq_true, forall_const, false_implies, true_implies, Classical.not_not, if_true, if_false, Int.reduceEq, Int.reduceLT, Int.reduceLE, Int.reduceGT, Int.reduceGE, Int.reduceAdd, Int.reduceSub, Int.reduceMul, Int.reduceNeg, Int.reduceNe, Bool.true_and, Bool.and_true, Bool.false_and, Bool.and_false, BEq.rfl, Bool.true_eq_false, Bool.false_eq_true, d]
    simp (discharger := first | decide | omega) only [x_own h, x_kd h, x_r h, x_m h, x_l h, x_k h, x_n h, x_i0, x_i h, x_u0 h, x_u h, xLen, xKd, nlit, iI_lit, iI_add, iI_sub, iI_mul, iI_neg, bI_z, bI_o, i10, i01, eq_self, bI_nar, nar_0, nar_1, up_at, up_f, Option.some.injEq, exists_eq_left', true_and, and_true, forall_eq, not_true_eq_false, not_false_eq_true, forall_const, false_implies, true_implies, Classical.not_not, if_true, if_false, Int.reduceEq, Int.reduceLT, Int.reduceLE, Int.reduceGT, Int.reduceGE, Int.reduceAdd, Int.reduceSub, Int.reduceMul, Int.reduceNeg, Int.reduceNe, eq_true iq]
    rw [z]
    exact k3 a b q c d e m' f g
end
