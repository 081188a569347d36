def chksB (F R : Int) (v : Int → Int) : Int := sumL (fun j => if isOfB (v j) (1 - v 64) && attB F v j (kingB F R v (v 64)) then 1 else 0) 0 (F * R).toNat
def pinAt (F R : Int) (v : Int → Int) (sq j : Int) : Bool :=
  isOfB (v j) (1 - v 64) && inB (kindO (v j)) 2 4 && attB F (upV v sq 0) j (kingB F R v (v 64)) && !attB F v j (kingB F R v (v 64))
def pinB (F R : Int) (v : Int → Int) (sq : Int) : Bool := isOfB (v sq) (v 64) && !decide (kindO (v sq) = 1) && anyL (pinAt F R v sq) 0 (F * R).toNat
def worthB (k : Int) : Int := if k = 2 then 9 else if k = 3 then 5 else if k = 4 then 3 else if k = 5 then 3 else if k = 6 then 1 else 0
def matB (F R : Int) (v : Int → Int) (s : Int) : Int := sumL (fun j => if isOfB (v j) s then worthB (kindO (v j)) else 0) 0 (F * R).toNat
def openB (F R : Int) (v : Int → Int) (f : Int) : Bool := allL (fun r => !decide (kindO (v (F * r + f)) = 6)) 0 R.toNat
section
variable {D : wD} {S : wS} {x : Nat} {A : Nat → Nat} {m : xM} {F R : Int} {post : Int32 → wS → Prop}
theorem q_checkers_32 (h : XC D S x A) (hB : XB m F R) {its king : Int} (hv : okV F R (lv m 0)) (hi : 0 ≤ its ∧ its ≤ 1) (hk : 0 ≤ king ∧ king < 64) :
    ∀ (n d : Nat) (j s : Int), d < n → j + d = F * R → 0 ≤ j → post (iI (s + sumL (fun j => if isOfB (lv m 0 j) (1 - its) && attB F (lv m 0) j king then 1 else 0) j d)) (xS S x A m) → wp_X12_checkers_32 D post n (xS S x A m) x (iI its) (iI king) (iI s) (iI j) := by
  have hn := hB.n
  intro n
  induction n with
  | zero => intro d j s hd; omega
  | succ n ih =>
    intro d j s hd hj h0 k
    unfold wp_X12_checkers_32
    rw [q_squares hB]
    simp (discharger := omega) only [nlit, iI_lit, iI_add, iI_sub, iI_mul, iI_neg, bI_z, bI_o, i10, i01, eq_self, bI_nar, nar_0, nar_1, bI_t, bI_f, Option.some.injEq, exists_eq_left', true_and, and_true, forall_eq, not_true_eq_false, not_false_eq_true, forall_const, false_implies, true_implies, Classical.not_not, if_true, if_false, Int.reduceEq, Int.reduceLT, Int.reduceLE, Int.reduceGT, Int.reduceGE, Int.reduceAdd, Int.reduceSub, Int.reduceMul, Int.reduceNeg, Int.reduceNe, Bool.true_and, Bool.and_true, Bool.false_and, Bool.and_false, BEq.rfl, Bool.true_eq_false, Bool.false_eq_true, iI_le]
    cases d with
    | zero =>
      have e : F * R ≤ j := by omega
      simp only [iI_lit, bI_z, bI_o, i10, i01, eq_self, bI_nar, nar_0, nar_1, bI_t, bI_f, true_and, and_true, forall_eq, not_true_eq_false, not_false_eq_true, forall_const, false_implies, true_implies, Classical.not_not, if_true, if_false, Int.reduceEq, Int.reduceLT, Int.reduceLE, Int.reduceGT, Int.reduceGE, Int.reduceAdd, Int.reduceSub, Int.reduceMul, Int.reduceNeg, Int.reduceNe, Bool.true_and, Bool.and_true, Bool.false_and, Bool.and_false, Bool.true_or, Bool.or_true, Bool.false_or, Bool.or_false, BEq.rfl, decide_true, decide_false, decide_eq_true_eq, Bool.false_eq_true, Bool.true_eq_false, Bool.not_true, Bool.not_false, sumL, e, Int.add_zero] at k ⊢
      exact k
    | succ d =>
      have e : ¬ F * R ≤ j := by omega
      have hp := hv.p j h0 (by omega)
      simp (discharger := omega) only [nlit, iI_lit, iI_add, iI_sub, iI_mul, iI_neg, bI_z, bI_o, i10, i01, eq_self, bI_nar, nar_0, nar_1, bI_t, bI_f, Option.some.injEq, exists_eq_left', true_and, and_true, forall_eq, not_true_eq_false, not_false_eq_true, forall_const, false_implies, true_implies, Classical.not_not, if_true, if_false, Int.reduceEq, Int.reduceLT, Int.reduceLE, Int.reduceGT, Int.reduceGE, Int.reduceAdd, Int.reduceSub, Int.reduceMul, Int.reduceNeg, Int.reduceNe, Bool.true_and, Bool.and_true, Bool.false_and, Bool.and_false, BEq.rfl, Bool.true_eq_false, Bool.false_eq_true, e, wp_X12_checkers_73]
      rw [q_on h (by decide) (by omega) (by omega), q_isOf hp (by omega)]
      have nx : ∀ t : Int, t = (if isOfB (lv m 0 j) (1 - its) && attB F (lv m 0) j king then 1 else 0) → wp_X12_checkers_74 D post (wp_X12_checkers_32 D post n) (xS S x A m) x (iI its) (iI king) (iI j) (iI s) (iI t) := by
        intro t ht
        simp (discharger := omega) only [nlit, iI_lit, iI_add, iI_sub, iI_mul, iI_neg, bI_z, bI_o, i10, i01, eq_self, bI_nar, nar_0, nar_1, bI_t, bI_f, Option.some.injEq, exists_eq_left', true_and, and_true, forall_eq, not_true_eq_false, not_false_eq_true, forall_const, false_implies, true_implies, Classical.not_not, if_true, if_false, Int.reduceEq, Int.reduceLT, Int.reduceLE, Int.reduceGT, Int.reduceGE, Int.reduceAdd, Int.reduceSub, Int.reduceMul, Int.reduceNeg, Int.reduceNe, Bool.true_and, Bool.and_true, Bool.false_and, Bool.and_false, BEq.rfl, Bool.true_eq_false, Bool.false_eq_true, wp_X12_checkers_74]
        refine ih d (j + 1) (s + t) (by omega) (by omega) (by omega) ?_
        unfold sumL at k
        rw [← ht] at k
        rw [Int.add_assoc]; exact k
      try simp (discharger := omega) only [nlit, iI_lit, iI_add, iI_sub, iI_mul, iI_neg, bI_z, bI_o, i10, i01, eq_self, bI_nar, nar_0, nar_1, bI_t, bI_f, Option.some.injEq, exists_eq_left', true_and, and_true, forall_eq, not_true_eq_false, not_false_eq_true, forall_const, false_implies, true_implies, Classical.not_not, if_true, if_false, Int.reduceEq, Int.reduceLT, Int.reduceLE, Int.reduceGT, Int.reduceGE, Int.reduceAdd, Int.reduceSub, Int.reduceMul, Int.reduceNeg, Int.reduceNe, Bool.true_and, Bool.and_true, Bool.false_and, Bool.and_false, BEq.rfl, Bool.true_eq_false, Bool.false_eq_true]
      cases c1 : isOfB (lv m 0 j) (1 - its)
      · simp (discharger := omega) only [nlit, iI_lit, iI_add, iI_sub, iI_mul, iI_neg, bI_z, bI_o, i10, i01, eq_self, bI_nar, nar_0, nar_1, bI_t, bI_f, Option.some.injEq, exists_eq_left', true_and, and_true, forall_eq, not_true_eq_false, not_false_eq_true, forall_const, false_implies, true_implies, Classical.not_not, if_true, if_false, Int.reduceEq, Int.reduceLT, Int.reduceLE, Int.reduceGT, Int.reduceGE, Int.reduceAdd, Int.reduceSub, Int.reduceMul, Int.reduceNeg, Int.reduceNe, Bool.true_and, Bool.and_true, Bool.false_and, Bool.and_false, BEq.rfl, Bool.true_eq_false, Bool.false_eq_true]
        exact nx 0 (by simp [c1])
      · simp (discharger := omega) only [nlit, iI_lit, iI_add, iI_sub, iI_mul, iI_neg, bI_z, bI_o, i10, i01, eq_self, bI_nar, nar_0, nar_1, bI_t, bI_f, Option.some.injEq, exists_eq_left', true_and, and_true, forall_eq, not_true_eq_false, not_false_eq_true, forall_const, false_implies, true_implies, Classical.not_not, if_true, if_false, Int.reduceEq, Int.reduceLT, Int.reduceLE, Int.reduceGT, Int.reduceGE, Int.reduceAdd, Int.reduceSub, Int.reduceMul, Int.reduceNeg, Int.reduceNe, Bool.true_and, Bool.and_true, Bool.false_and, Bool.and_false, BEq.rfl, Bool.true_eq_false, Bool.false_eq_true]
        refine q_attacks h hB (by decide) hv (by omega) hk ?_
        try simp (discharger := omega) only [nlit, iI_lit, iI_add, iI_sub, iI_mul, iI_neg, bI_z, bI_o, i10, i01, eq_self, bI_nar, nar_0, nar_1, bI_t, bI_f, Option.some.injEq, exists_eq_left', true_and, and_true, forall_eq, not_true_eq_false, not_false_eq_true, forall_const, false_implies, true_implies, Classical.not_not, if_true, if_false, Int.reduceEq, Int.reduceLT, Int.reduceLE, Int.reduceGT, Int.reduceGE, Int.reduceAdd, Int.reduceSub, Int.reduceMul, Int.reduceNeg, Int.reduceNe, Bool.true_and, Bool.and_true, Bool.false_and, Bool.and_false, BEq.rfl, Bool.true_eq_false, Bool.false_eq_true]
        cases c2 : attB F (lv m 0) j king
        · simp (discharger := omega) only [nlit, iI_lit, iI_add, iI_sub, iI_mul, iI_neg, bI_z, bI_o, i10, i01, eq_self, bI_nar, nar_0, nar_1, bI_t, bI_f, Option.some.injEq, exists_eq_left', true_and, and_true, forall_eq, not_true_eq_false, not_false_eq_true, forall_const, false_implies, true_implies, Classical.not_not, if_true, if_false, Int.reduceEq, Int.reduceLT, Int.reduceLE, Int.reduceGT, Int.reduceGE, Int.reduceAdd, Int.reduceSub, Int.reduceMul, Int.reduceNeg, Int.reduceNe, Bool.true_and, Bool.and_true, Bool.false_and, Bool.and_false, BEq.rfl, Bool.true_eq_false, Bool.false_eq_true]
          exact nx 0 (by simp [c1, c2])
        · simp (discharger := omega) only [nlit, iI_lit, iI_add, iI_sub, iI_mul, iI_neg, bI_z, bI_o, i10, i01, eq_self, bI_nar, nar_0, nar_1, bI_t, bI_f, Option.some.injEq, exists_eq_left', true_and, and_true, forall_eq, not_true_eq_false, not_false_eq_true, forall_const, false_implies, true_implies, Classical.not_not, if_true, if_false, Int.reduceEq, Int.reduceLT, Int.reduceLE, Int.reduceGT, Int.reduceGE, Int.reduceAdd, Int.reduceSub, Int.reduceMul, Int.reduceNeg, Int.reduceNe, Bool.true_and, Bool.and_true, Bool.false_and, Bool.and_false, BEq.rfl, Bool.true_eq_false, Bool.false_eq_true]
          exact nx 1 (by simp [c1, c2])
theorem q_checkers (h : XC D S x A) (hG : RG m F R) (hK : properB F R (gv m 0) = true → kingB F R (pv m) (pv m 64) < F * R)
    (k0 : properB F R (gv m 0) = false → post (iI 0) (xS S x A (up (ldm m) 50 0 1)))
    (k1 : properB F R (gv m 0) = true → post (iI (chksB F R (pv m))) (xS S x A (up (ldm m) 50 0 0))) : wp_X12_checkers D post (xS S x A m) x := by
  have hn := hG.b.n
  unfold wp_X12_checkers wp_X12_checkers_0
  refine q_isAskable h hG ?_
  try simp (discharger := omega) only [nlit, iI_lit, iI_add, iI_sub, iI_mul, iI_neg, bI_z, bI_o, i10, i01, eq_self, bI_nar, nar_0, nar_1, bI_t, bI_f, Option.some.injEq, exists_eq_left', true_and, and_true, forall_eq, not_true_eq_false, not_false_eq_true, forall_const, false_implies, true_implies, Classical.not_not, if_true, if_false, Int.reduceEq, Int.reduceLT, Int.reduceLE, Int.reduceGT, Int.reduceGE, Int.reduceAdd, Int.reduceSub, Int.reduceMul, Int.reduceNeg, Int.reduceNe, Bool.true_and, Bool.and_true, Bool.false_and, Bool.and_false, BEq.rfl, Bool.true_eq_false, Bool.false_eq_true]
  rw [q_can h]
  try simp (discharger := omega) only [nlit, iI_lit, iI_add, iI_sub, iI_mul, iI_neg, bI_z, bI_o, i10, i01, eq_self, bI_nar, nar_0, nar_1, bI_t, bI_f, Option.some.injEq, exists_eq_left', true_and, and_true, forall_eq, not_true_eq_false, not_false_eq_true, forall_const, false_implies, true_implies, Classical.not_not, if_true, if_false, Int.reduceEq, Int.reduceLT, Int.reduceLE, Int.reduceGT, Int.reduceGE, Int.reduceAdd, Int.reduceSub, Int.reduceMul, Int.reduceNeg, Int.reduceNe, Bool.true_and, Bool.and_true, Bool.false_and, Bool.and_false, BEq.rfl, Bool.true_eq_false, Bool.false_eq_true]
  cases c : properB F R (gv m 0)
  · simp (discharger := omega) only [nlit, iI_lit, iI_add, iI_sub, iI_mul, iI_neg, bI_z, bI_o, i10, i01, eq_self, bI_nar, nar_0, nar_1, bI_t, bI_f, Option.some.injEq, exists_eq_left', true_and, and_true, forall_eq, not_true_eq_false, not_false_eq_true, forall_const, false_implies, true_implies, Classical.not_not, if_true, if_false, Int.reduceEq, Int.reduceLT, Int.reduceLE, Int.reduceGT, Int.reduceGE, Int.reduceAdd, Int.reduceSub, Int.reduceMul, Int.reduceNeg, Int.reduceNe, Bool.true_and, Bool.and_true, Bool.false_and, Bool.and_false, BEq.rfl, Bool.true_eq_false, Bool.false_eq_true]; exact k0 c
  · have k1 := k1 c
    have hk := hK c
    have kr := kingB_r (F := F) (R := R) (pv m) (pv m 64) (by omega)
    have el : lv (up (ldm m) 50 0 0) 0 = pv m := (lv_row3 (up_r _ _ _ rfl) 0).trans (ldm_lv m)
    have hB1 : XB (up (ldm m) 50 0 0) F R := hG.b.ldm.cn (w := 0) (b := true)
    have hv1 : okV F R (lv (up (ldm m) 50 0 0) 0) := by rw [el]; exact hG.pv
    have hs := hG.pv.s
    try simp (discharger := omega) only [nlit, iI_lit, iI_add, iI_sub, iI_mul, iI_neg, bI_z, bI_o, i10, i01, eq_self, bI_nar, nar_0, nar_1, bI_t, bI_f, Option.some.injEq, exists_eq_left', true_and, and_true, forall_eq, not_true_eq_false, not_false_eq_true, forall_const, false_implies, true_implies, Classical.not_not, if_true, if_false, Int.reduceEq, Int.reduceLT, Int.reduceLE, Int.reduceGT, Int.reduceGE, Int.reduceAdd, Int.reduceSub, Int.reduceMul, Int.reduceNeg, Int.reduceNe, Bool.true_and, Bool.and_true, Bool.false_and, Bool.and_false, BEq.rfl, Bool.true_eq_false, Bool.false_eq_true]
    rw [cn_true, q_side h (by decide), el]
    refine q_kingOf h hB1 (by decide) hv1 (by omega) ?_
    rw [el]
    try simp (discharger := omega) only [nlit, iI_lit, iI_add, iI_sub, iI_mul, iI_neg, bI_z, bI_o, i10, i01, eq_self, bI_nar, nar_0, nar_1, bI_t, bI_f, Option.some.injEq, exists_eq_left', true_and, and_true, forall_eq, not_true_eq_false, not_false_eq_true, forall_const, false_implies, true_implies, Classical.not_not, if_true, if_false, Int.reduceEq, Int.reduceLT, Int.reduceLE, Int.reduceGT, Int.reduceGE, Int.reduceAdd, Int.reduceSub, Int.reduceMul, Int.reduceNeg, Int.reduceNe, Bool.true_and, Bool.and_true, Bool.false_and, Bool.and_false, BEq.rfl, Bool.true_eq_false, Bool.false_eq_true]
    refine ⟨65, ?_⟩
    refine q_checkers_32 h hB1 hv1 (by omega) (by omega) 65 (F * R).toNat 0 0 (by omega) (by omega) (by omega) ?_
    rw [el, Int.zero_add]
    exact k1
theorem q_outputByte (h : XC D S x A) (hw : 0 ≤ m 50 15 ∧ m 50 15 ≤ 128) {v : Int} (hv : i32 v)
    (k0 : inB v 0 (m 50 15 - 1) = false → post (iI 0) (xS S x A (up m 50 0 1)))
    (k1 : inB v 0 (m 50 15 - 1) = true → post (iI (m 14 v)) (xS S x A (up m 50 0 0))) : wp_X12_outputByte D post (xS S x A m) x (iI v) := by
  unfold wp_X12_outputByte wp_X12_outputByte_0
  rw [x_i0]
  try simp (discharger := omega) only [nlit, iI_lit, iI_add, iI_sub, iI_mul, iI_neg, bI_z, bI_o, i10, i01, eq_self, bI_nar, nar_0, nar_1, bI_t, bI_f, Option.some.injEq, exists_eq_left', true_and, and_true, forall_eq, not_true_eq_false, not_false_eq_true, forall_const, false_implies, true_implies, Classical.not_not, if_true, if_false, Int.reduceEq, Int.reduceLT, Int.reduceLE, Int.reduceGT, Int.reduceGE, Int.reduceAdd, Int.reduceSub, Int.reduceMul, Int.reduceNeg, Int.reduceNe, Bool.true_and, Bool.and_true, Bool.false_and, Bool.and_false, BEq.rfl, Bool.true_eq_false, Bool.false_eq_true]
  rw [q_in hv (by decide) (by omega)]
  simp (discharger := omega) only [nlit, iI_lit, iI_add, iI_sub, iI_mul, iI_neg, bI_z, bI_o, i10, i01, eq_self, bI_nar, nar_0, nar_1, bI_t, bI_f, Option.some.injEq, exists_eq_left', true_and, and_true, forall_eq, not_true_eq_false, not_false_eq_true, forall_const, false_implies, true_implies, Classical.not_not, if_true, if_false, Int.reduceEq, Int.reduceLT, Int.reduceLE, Int.reduceGT, Int.reduceGE, Int.reduceAdd, Int.reduceSub, Int.reduceMul, Int.reduceNeg, Int.reduceNe, Bool.true_and, Bool.and_true, Bool.false_and, Bool.and_false, BEq.rfl, Bool.true_eq_false, Bool.false_eq_true, wp_X12_outputByte_29]
  rw [q_can h]
  try simp (discharger := omega) only [nlit, iI_lit, iI_add, iI_sub, iI_mul, iI_neg, bI_z, bI_o, i10, i01, eq_self, bI_nar, nar_0, nar_1, bI_t, bI_f, Option.some.injEq, exists_eq_left', true_and, and_true, forall_eq, not_true_eq_false, not_false_eq_true, forall_const, false_implies, true_implies, Classical.not_not, if_true, if_false, Int.reduceEq, Int.reduceLT, Int.reduceLE, Int.reduceGT, Int.reduceGE, Int.reduceAdd, Int.reduceSub, Int.reduceMul, Int.reduceNeg, Int.reduceNe, Bool.true_and, Bool.and_true, Bool.false_and, Bool.and_false, BEq.rfl, Bool.true_eq_false, Bool.false_eq_true]
  cases c : inB v 0 (m 50 15 - 1)
  · simp (discharger := omega) only [nlit, iI_lit, iI_add, iI_sub, iI_mul, iI_neg, bI_z, bI_o, i10, i01, eq_self, bI_nar, nar_0, nar_1, bI_t, bI_f, Option.some.injEq, exists_eq_left', true_and, and_true, forall_eq, not_true_eq_false, not_false_eq_true, forall_const, false_implies, true_implies, Classical.not_not, if_true, if_false, Int.reduceEq, Int.reduceLT, Int.reduceLE, Int.reduceGT, Int.reduceGE, Int.reduceAdd, Int.reduceSub, Int.reduceMul, Int.reduceNeg, Int.reduceNe, Bool.true_and, Bool.and_true, Bool.false_and, Bool.and_false, BEq.rfl, Bool.true_eq_false, Bool.false_eq_true]; exact k0 c
  · have k1 := k1 c
    have hc := c
    unfold inB at hc
    simp at hc
    rw [cn_true]
    simp (discharger := first | decide | omega) only [x_own h, x_kd h, x_r h, x_m h, x_l h, x_k h, x_n h, x_i0, x_i h, x_u0 h, x_u h, xLen, xKd, nlit, iI_lit, iI_add, iI_sub, iI_mul, iI_neg, bI_z, bI_o, i10, i01, eq_self, bI_nar, nar_0, nar_1, up_at, up_f, Option.some.injEq, exists_eq_left', true_and, and_true, forall_eq, not_true_eq_false, not_false_eq_true, forall_const, false_implies, true_implies, Classical.not_not, if_true, if_false, Int.reduceEq, Int.reduceLT, Int.reduceLE, Int.reduceGT, Int.reduceGE, Int.reduceAdd, Int.reduceSub, Int.reduceMul, Int.reduceNeg, Int.reduceNe, eq_true (iI_in (a := v) (n := 128) (by omega) (by omega) (by omega))]
    try simp (discharger := omega) only [nlit, iI_lit, iI_add, iI_sub, iI_mul, iI_neg, bI_z, bI_o, i10, i01, eq_self, bI_nar, nar_0, nar_1, bI_t, bI_f, Option.some.injEq, exists_eq_left', true_and, and_true, forall_eq, not_true_eq_false, not_false_eq_true, forall_const, false_implies, true_implies, Classical.not_not, if_true, if_false, Int.reduceEq, Int.reduceLT, Int.reduceLE, Int.reduceGT, Int.reduceGE, Int.reduceAdd, Int.reduceSub, Int.reduceMul, Int.reduceNeg, Int.reduceNe, Bool.true_and, Bool.and_true, Bool.false_and, Bool.and_false, BEq.rfl, Bool.true_eq_false, Bool.false_eq_true]
    exact k1
theorem q_worth {U : wS} {k : Int} (hk : 0 ≤ k ∧ k ≤ 6) : wp_X12_worth D post U (iI k) = post (iI (worthB k)) U := by
  unfold wp_X12_worth wp_X12_worth_0 worthB
  simp (discharger := omega) only [nlit, iI_lit, iI_add, iI_sub, iI_mul, iI_neg, bI_z, bI_o, i10, i01, eq_self, bI_nar, nar_0, nar_1, bI_t, bI_f, Option.some.injEq, exists_eq_left', true_and, and_true, forall_eq, not_true_eq_false, not_false_eq_true, forall_const, false_implies, true_implies, Classical.not_not, if_true, if_false, Int.reduceEq, Int.reduceLT, Int.reduceLE, Int.reduceGT, Int.reduceGE, Int.reduceAdd, Int.reduceSub, Int.reduceMul, Int.reduceNeg, Int.reduceNe, Bool.true_and, Bool.and_true, Bool.false_and, Bool.and_false, BEq.rfl, Bool.true_eq_false, Bool.false_eq_true, iI_eq, wp_X12_worth_29, wp_X12_worth_44]
  rcases (show k = 0 ∨ k = 1 ∨ k = 2 ∨ k = 3 ∨ k = 4 ∨ k = 5 ∨ k = 6 by omega) with rfl | rfl | rfl | rfl | rfl | rfl | rfl <;> simp (discharger := omega) only [nlit, iI_lit, iI_add, iI_sub, iI_mul, iI_neg, bI_z, bI_o, i10, i01, eq_self, bI_nar, nar_0, nar_1, bI_t, bI_f, Option.some.injEq, exists_eq_left', true_and, and_true, forall_eq, not_true_eq_false, not_false_eq_true, forall_const, false_implies, true_implies, Classical.not_not, if_true, if_false, Int.reduceEq, Int.reduceLT, Int.reduceLE, Int.reduceGT, Int.reduceGE, Int.reduceAdd, Int.reduceSub, Int.reduceMul, Int.reduceNeg, Int.reduceNe, Bool.true_and, Bool.and_true, Bool.false_and, Bool.and_false, BEq.rfl, Bool.true_eq_false, Bool.false_eq_true]
theorem q_material_9 (h : XC D S x A) (hG : RG m F R) {s : Int} (hs : i32 s) :
    ∀ (n d : Nat) (j a : Int), d < n → j + d = F * R → 0 ≤ j → post (iI (a + sumL (fun j => if isOfB (pv m j) (if s = 0 then 0 else 1) then worthB (kindO (pv m j)) else 0) j d)) (xS S x A m) → wp_X12_material_9 D post n (xS S x A m) x (iI s) (iI a) (iI j) := by
  have hn := hG.b.n
  have hm := hG.m0
  intro n
  induction n with
  | zero => intro d j a hd; omega
  | succ n ih =>
    intro d j a hd hj h0 k
    unfold wp_X12_material_9
    rw [q_squares hG.b]
    simp (discharger := omega) only [nlit, iI_lit, iI_add, iI_sub, iI_mul, iI_neg, bI_z, bI_o, i10, i01, eq_self, bI_nar, nar_0, nar_1, bI_t, bI_f, Option.some.injEq, exists_eq_left', true_and, and_true, forall_eq, not_true_eq_false, not_false_eq_true, forall_const, false_implies, true_implies, Classical.not_not, if_true, if_false, Int.reduceEq, Int.reduceLT, Int.reduceLE, Int.reduceGT, Int.reduceGE, Int.reduceAdd, Int.reduceSub, Int.reduceMul, Int.reduceNeg, Int.reduceNe, Bool.true_and, Bool.and_true, Bool.false_and, Bool.and_false, BEq.rfl, Bool.true_eq_false, Bool.false_eq_true, iI_le]
    cases d with
    | zero =>
      have e : F * R ≤ j := by omega
      simp only [iI_lit, bI_z, bI_o, i10, i01, eq_self, bI_nar, nar_0, nar_1, bI_t, bI_f, true_and, and_true, forall_eq, not_true_eq_false, not_false_eq_true, forall_const, false_implies, true_implies, Classical.not_not, if_true, if_false, Int.reduceEq, Int.reduceLT, Int.reduceLE, Int.reduceGT, Int.reduceGE, Int.reduceAdd, Int.reduceSub, Int.reduceMul, Int.reduceNeg, Int.reduceNe, Bool.true_and, Bool.and_true, Bool.false_and, Bool.and_false, Bool.true_or, Bool.or_true, Bool.false_or, Bool.or_false, BEq.rfl, decide_true, decide_false, decide_eq_true_eq, Bool.false_eq_true, Bool.true_eq_false, Bool.not_true, Bool.not_false, sumL, e, Int.add_zero] at k ⊢
      exact k
    | succ d =>
      have e : ¬ F * R ≤ j := by omega
      have hp := hG.pv.p j h0 (by omega)
      simp (discharger := omega) only [nlit, iI_lit, iI_add, iI_sub, iI_mul, iI_neg, bI_z, bI_o, i10, i01, eq_self, bI_nar, nar_0, nar_1, bI_t, bI_f, Option.some.injEq, exists_eq_left', true_and, and_true, forall_eq, not_true_eq_false, not_false_eq_true, forall_const, false_implies, true_implies, Classical.not_not, if_true, if_false, Int.reduceEq, Int.reduceLT, Int.reduceLE, Int.reduceGT, Int.reduceGE, Int.reduceAdd, Int.reduceSub, Int.reduceMul, Int.reduceNeg, Int.reduceNe, Bool.true_and, Bool.and_true, Bool.false_and, Bool.and_false, BEq.rfl, Bool.true_eq_false, Bool.false_eq_true, e]
      simp (discharger := first | decide | omega) only [x_own h, x_kd h, x_r h, x_m h, x_l h, x_k h, x_n h, x_i0, x_i h, x_u0 h, x_u h, xLen, xKd, nlit, iI_lit, iI_add, iI_sub, iI_mul, iI_neg, bI_z, bI_o, i10, i01, eq_self, bI_nar, nar_0, nar_1, up_at, up_f, Option.some.injEq, exists_eq_left', true_and, and_true, forall_eq, not_true_eq_false, not_false_eq_true, forall_const, false_implies, true_implies, Classical.not_not, if_true, if_false, Int.reduceEq, Int.reduceLT, Int.reduceLE, Int.reduceGT, Int.reduceGE, Int.reduceAdd, Int.reduceSub, Int.reduceMul, Int.reduceNeg, Int.reduceNe]
      rw [q_presentAt]
      simp (discharger := first | decide | omega) only [x_own h, x_kd h, x_r h, x_m h, x_l h, x_k h, x_n h, x_i0, x_i h, x_u0 h, x_u h, xLen, xKd, nlit, iI_lit, iI_add, iI_sub, iI_mul, iI_neg, bI_z, bI_o, i10, i01, eq_self, bI_nar, nar_0, nar_1, up_at, up_f, Option.some.injEq, exists_eq_left', true_and, and_true, forall_eq, not_true_eq_false, not_false_eq_true, forall_const, false_implies, true_implies, Classical.not_not, if_true, if_false, Int.reduceEq, Int.reduceLT, Int.reduceLE, Int.reduceGT, Int.reduceGE, Int.reduceAdd, Int.reduceSub, Int.reduceMul, Int.reduceNeg, Int.reduceNe, eq_true (iI_in (a := 67 * m 50 11 + j) (n := 5427) (by omega) (by omega) (by omega))]
      rw [show m 8 (67 * m 50 11 + j) = pv m j from (gv_at (m := m) (k := m 50 11) (j := j) (by omega)).symm]
      have nx : ∀ t : Int, t = (if isOfB (pv m j) (if s = 0 then 0 else 1) then worthB (kindO (pv m j)) else 0) → wp_X12_material_60 D post (wp_X12_material_9 D post n) (xS S x A m) x (iI s) (iI j) (iI a) (iI t) := by
        intro t ht
        simp (discharger := omega) only [nlit, iI_lit, iI_add, iI_sub, iI_mul, iI_neg, bI_z, bI_o, i10, i01, eq_self, bI_nar, nar_0, nar_1, bI_t, bI_f, Option.some.injEq, exists_eq_left', true_and, and_true, forall_eq, not_true_eq_false, not_false_eq_true, forall_const, false_implies, true_implies, Classical.not_not, if_true, if_false, Int.reduceEq, Int.reduceLT, Int.reduceLE, Int.reduceGT, Int.reduceGE, Int.reduceAdd, Int.reduceSub, Int.reduceMul, Int.reduceNeg, Int.reduceNe, Bool.true_and, Bool.and_true, Bool.false_and, Bool.and_false, BEq.rfl, Bool.true_eq_false, Bool.false_eq_true, wp_X12_material_60]
        refine ih d (j + 1) (a + t) (by omega) (by omega) (by omega) ?_
        unfold sumL at k
        rw [← ht] at k
        rw [Int.add_assoc]; exact k
      have m42 : ∀ w : Int, w = (if s = 0 then 0 else 1) → wp_X12_material_42 D post (wp_X12_material_9 D post n) (xS S x A m) x (iI s) (iI j) (iI (pv m j)) (iI a) (iI (pv m j)) (iI w) := by
        intro w hw
        have hw2 : 0 ≤ w ∧ w ≤ 1 := by rw [hw]; split <;> decide
        rw [← hw] at nx
        unfold wp_X12_material_42
        rw [q_isOf hp hw2]
        try simp (discharger := omega) only [nlit, iI_lit, iI_add, iI_sub, iI_mul, iI_neg, bI_z, bI_o, i10, i01, eq_self, bI_nar, nar_0, nar_1, bI_t, bI_f, Option.some.injEq, exists_eq_left', true_and, and_true, forall_eq, not_true_eq_false, not_false_eq_true, forall_const, false_implies, true_implies, Classical.not_not, if_true, if_false, Int.reduceEq, Int.reduceLT, Int.reduceLE, Int.reduceGT, Int.reduceGE, Int.reduceAdd, Int.reduceSub, Int.reduceMul, Int.reduceNeg, Int.reduceNe, Bool.true_and, Bool.and_true, Bool.false_and, Bool.and_false, BEq.rfl, Bool.true_eq_false, Bool.false_eq_true]
        cases c1 : isOfB (pv m j) w
        · simp (discharger := omega) only [nlit, iI_lit, iI_add, iI_sub, iI_mul, iI_neg, bI_z, bI_o, i10, i01, eq_self, bI_nar, nar_0, nar_1, bI_t, bI_f, Option.some.injEq, exists_eq_left', true_and, and_true, forall_eq, not_true_eq_false, not_false_eq_true, forall_const, false_implies, true_implies, Classical.not_not, if_true, if_false, Int.reduceEq, Int.reduceLT, Int.reduceLE, Int.reduceGT, Int.reduceGE, Int.reduceAdd, Int.reduceSub, Int.reduceMul, Int.reduceNeg, Int.reduceNe, Bool.true_and, Bool.and_true, Bool.false_and, Bool.and_false, BEq.rfl, Bool.true_eq_false, Bool.false_eq_true]
          exact nx 0 (by simp [c1])
        · simp (discharger := omega) only [nlit, iI_lit, iI_add, iI_sub, iI_mul, iI_neg, bI_z, bI_o, i10, i01, eq_self, bI_nar, nar_0, nar_1, bI_t, bI_f, Option.some.injEq, exists_eq_left', true_and, and_true, forall_eq, not_true_eq_false, not_false_eq_true, forall_const, false_implies, true_implies, Classical.not_not, if_true, if_false, Int.reduceEq, Int.reduceLT, Int.reduceLE, Int.reduceGT, Int.reduceGE, Int.reduceAdd, Int.reduceSub, Int.reduceMul, Int.reduceNeg, Int.reduceNe, Bool.true_and, Bool.and_true, Bool.false_and, Bool.and_false, BEq.rfl, Bool.true_eq_false, Bool.false_eq_true]
          rw [q_kindOf hp, q_worth (kindO_r hp)]
          exact nx _ (by simp [c1])
      simp (discharger := omega) only [nlit, iI_lit, iI_add, iI_sub, iI_mul, iI_neg, bI_z, bI_o, i10, i01, eq_self, bI_nar, nar_0, nar_1, bI_t, bI_f, Option.some.injEq, exists_eq_left', true_and, and_true, forall_eq, not_true_eq_false, not_false_eq_true, forall_const, false_implies, true_implies, Classical.not_not, if_true, if_false, Int.reduceEq, Int.reduceLT, Int.reduceLE, Int.reduceGT, Int.reduceGE, Int.reduceAdd, Int.reduceSub, Int.reduceMul, Int.reduceNeg, Int.reduceNe, Bool.true_and, Bool.and_true, Bool.false_and, Bool.and_false, BEq.rfl, Bool.true_eq_false, Bool.false_eq_true, iI_eq]
      by_cases c : s = 0
      · rw [if_pos c] at m42
        simp (discharger := omega) only [nlit, iI_lit, iI_add, iI_sub, iI_mul, iI_neg, bI_z, bI_o, i10, i01, eq_self, bI_nar, nar_0, nar_1, bI_t, bI_f, Option.some.injEq, exists_eq_left', true_and, and_true, forall_eq, not_true_eq_false, not_false_eq_true, forall_const, false_implies, true_implies, Classical.not_not, if_true, if_false, Int.reduceEq, Int.reduceLT, Int.reduceLE, Int.reduceGT, Int.reduceGE, Int.reduceAdd, Int.reduceSub, Int.reduceMul, Int.reduceNeg, Int.reduceNe, Bool.true_and, Bool.and_true, Bool.false_and, Bool.and_false, BEq.rfl, Bool.true_eq_false, Bool.false_eq_true, c]
        have := m42 0 rfl
        rw [c] at this
        exact this
      · rw [if_neg c] at m42
        simp (discharger := omega) only [nlit, iI_lit, iI_add, iI_sub, iI_mul, iI_neg, bI_z, bI_o, i10, i01, eq_self, bI_nar, nar_0, nar_1, bI_t, bI_f, Option.some.injEq, exists_eq_left', true_and, and_true, forall_eq, not_true_eq_false, not_false_eq_true, forall_const, false_implies, true_implies, Classical.not_not, if_true, if_false, Int.reduceEq, Int.reduceLT, Int.reduceLE, Int.reduceGT, Int.reduceGE, Int.reduceAdd, Int.reduceSub, Int.reduceMul, Int.reduceNeg, Int.reduceNe, Bool.true_and, Bool.and_true, Bool.false_and, Bool.and_false, BEq.rfl, Bool.true_eq_false, Bool.false_eq_true, c]
        exact m42 1 rfl
theorem q_material (h : XC D S x A) (hG : RG m F R) {s : Int} (hs : i32 s) (k : post (iI (matB F R (pv m) (if s = 0 then 0 else 1))) (xS S x A (up m 50 0 0))) : wp_X12_material D post (xS S x A m) x (iI s) := by
  have hn := hG.b.n
  have hG0 := hG.up0 0
  simp (discharger := first | decide | omega) only [x_own h, x_kd h, x_r h, x_m h, x_l h, x_k h, x_n h, x_i0, x_i h, x_u0 h, x_u h, xLen, xKd, nlit, iI_lit, iI_add, iI_sub, iI_mul, iI_neg, bI_z, bI_o, i10, i01, eq_self, bI_nar, nar_0, nar_1, up_at, up_f, Option.some.injEq, exists_eq_left', true_and, and_true, forall_eq, not_true_eq_false, not_false_eq_true, forall_const, false_implies, true_implies, Classical.not_not, if_true, if_false, Int.reduceEq, Int.reduceLT, Int.reduceLE, Int.reduceGT, Int.reduceGE, Int.reduceAdd, Int.reduceSub, Int.reduceMul, Int.reduceNeg, Int.reduceNe, wp_X12_material, wp_X12_material_0]
  refine ⟨65, ?_⟩
  refine q_material_9 h hG0 hs 65 (F * R).toNat 0 0 (by omega) (by omega) (by omega) ?_
  rw [pv_up0, Int.zero_add]
  exact k
end
