/-! which cells of the reference tell what it is; the others are scratch -/
def kpB (r : Nat) (j : Int) : Bool := [8, 9, 10, 12, 14, 30, 31, 32, 33, 34, 35, 36, 37, 38, 40, 41, 42].contains r || (r == 50 && [1, 2, 11, 13, 15, 16, 39].contains j)
abbrev SIM (m m' : xM) : Prop := ∀ r j, kpB r j = true → m' r j = m r j
theorem SIM.rf (m : xM) : SIM m m := fun _ _ _ => rfl
theorem SIM.tr {a b c : xM} (h : SIM a b) (h2 : SIM b c) : SIM a c := fun r j q => (h2 r j q).trans (h r j q)
def sq64 (w : Int → Int) : Prop := (∀ k, 0 ≤ k → k < 64 → 0 ≤ w k ∧ w k ≤ 12) ∧ ∀ k, ¬ (0 ≤ k ∧ k < 64) → w k = 0
theorem sq64.up {w : Int → Int} (h : sq64 w) {k p : Int} (hk : 0 ≤ k ∧ k < 64) (hp : 0 ≤ p ∧ p ≤ 12) : sq64 (upV w k p) := by
  refine ⟨fun j a b => ?_, fun j a => ?_⟩
  · unfold upV; split; exact hp; exact h.1 j a b
  · unfold upV; split; omega; exact h.2 j a
theorem sq64.zf {w : Int → Int} (h : sq64 w) (a n : Int) : sq64 (zfV w a n) := by
  refine ⟨fun j a b => ?_, fun j a => ?_⟩
  · unfold zfV; split; decide; exact h.1 j a b
  · unfold zfV; split; rfl; exact h.2 j a
theorem rdF_sq {F R : Int} (h4 : 4 ≤ F) (h8 : F ≤ 8) (r8 : R ≤ 8) (t : Int → Int) {r : Int} (hr : 0 ≤ r ∧ r < R) : ∀ (n : Nat) (f a : Int) (w : Int → Int), 0 ≤ f → sq64 w → ∀ b u, rdF F R t r n f a w = some (b, u) → sq64 u := by
  intro n
  induction n with
  | zero => intro f a w _ hw b u h; unfold rdF at h; cases h; exact hw
  | succ n ih =>
    intro f a w hf hw b u h
    unfold rdF at h
    split at h
    · cases h; exact hw
    · next c =>
      have hsq : 0 ≤ F * r + f ∧ F * r + f < 64 := by
        rcases (show F = 4 ∨ F = 5 ∨ F = 6 ∨ F = 7 ∨ F = 8 by omega) with rfl | rfl | rfl | rfl | rfl <;> omega
      split at h
      · split at h
        · exact ih _ _ _ (by omega) ((hw.up hsq (by decide)).zf _ _) b u h
        · cases h
      · exact ih _ _ _ (by omega) (hw.up hsq (pcB_r _)) b u h
theorem rdS_sq {F R : Int} (h4 : 4 ≤ F) (h8 : F ≤ 8) (r8 : R ≤ 8) (t : Int → Int) : ∀ (d : Nat) (a : Int) (w : Int → Int), (d : Int) ≤ R → sq64 w → ∀ b u, rdS F R t d a w = some (b, u) → sq64 u := by
  intro d
  induction d with
  | zero => intro a w _ hw b u h; unfold rdS at h; cases h; exact hw
  | succ d ih =>
    intro a w hd hw b u h
    unfold rdS at h
    cases c : rdF F R t d F.toNat 0 a w with
    | none => rw [c] at h; cases h
    | some q =>
      obtain ⟨b1, u1⟩ := q
      rw [c] at h
      dsimp only at h
      have h1 := rdF_sq h4 h8 r8 t (r := (d : Int)) (by omega) F.toNat 0 a w (by decide) hw b1 u1 c
      by_cases z : t b1 = if 0 < d then 47 else 32
      · rw [if_pos z] at h; exact ih _ _ (by omega) h1 b u h
      · rw [if_neg z] at h; cases h
theorem rdQ_r {F R : Int} (h4 : 4 ≤ F) (h8 : F ≤ 8) (t : Int → Int) (c : Int) : -1 ≤ rdQ F R t c ∧ (0 < F * R → rdQ F R t c < F * R) := by
  unfold rdQ
  split
  · next q =>
    have e : F * (t (c + 1) - 49) ≤ F * (R - 1) := Int.mul_le_mul_of_nonneg_left (by omega) (by omega)
    have e2 : 0 ≤ F * (t (c + 1) - 49) := Int.mul_nonneg (by omega) (by omega)
    have e3 : F * (R - 1) = F * R - F := by rw [Int.mul_sub, Int.mul_one]
    omega
  · omega
theorem rdE_ok {F R : Int} (h4 : 4 ≤ F) (h8 : F ≤ 8) (hn : 16 ≤ F * R) (t : Int → Int) (len a : Int) {w : Int → Int} (hw : sq64 w) : okV F R (rdE F R t len a w) ∧ clV (rdE F R t len a w) := by
  have h1 := rdR_r t len 501 (a + 2) 0 (by decide)
  have h2 := rdQ_r h4 h8 (R := R) t ((rdR t len 501 (a + 2) 0).1 + 1)
  refine ⟨⟨fun k a b => ?_, ?_, ?_, ?_⟩, fun k hk => ?_⟩
  · unfold rdE upV
    rw [if_neg (by omega), if_neg (by omega), if_neg (by omega)]
    exact hw.1 k a b
  · have e : rdE F R t len a w 64 = if t a = 119 then 1 else 0 := by unfold rdE upV; simp
    rw [e]; split <;> decide
  · have e : rdE F R t len a w 65 = (rdR t len 501 (a + 2) 0).2 := by unfold rdE upV; simp
    rw [e]; exact h1
  · have e : rdE F R t len a w 66 = rdQ F R t ((rdR t len 501 (a + 2) 0).1 + 1) := by unfold rdE upV; simp
    rw [e]; omega
  · unfold rdE upV
    rw [if_neg (by omega), if_neg (by omega), if_neg (by omega)]
    exact hw.2 k (by omega)
section
variable {D : wD} {S : wS} {x : Nat} {A : Nat → Nat} {m : xM} {F R : Int} {post : Int32 → wS → Prop}
theorem q_asWr_23 (h : XC D S x A) (hl : 0 ≤ m 50 13 ∧ m 50 13 ≤ 128) (hi : ∀ k, 0 ≤ k → k < m 50 13 → i32 (m 14 k) ∧ i32 (m 12 k)) : ∀ (n d : Nat) (j : Int), d < n → j + d = m 50 13 → 0 ≤ j →
    post (iI (bI (allL (fun k => decide (m 14 k = m 12 k)) j d))) (xS S x A m) → wp_X12_isAsWritten_23 D post n (xS S x A m) x (iI 1) (iI j) := by
  intro n
  induction n with
  | zero => intro d j hd; omega
  | succ n ih =>
    intro d j hd hj h0 k
    unfold wp_X12_isAsWritten_23
    simp (discharger := first | decide | omega) only [x_own h, x_kd h, x_r h, x_m h, x_l h, x_k h, x_n h, x_i0, x_i h, x_u0 h, x_u h, xLen, xKd, nlit, iI_lit, iI_add, iI_sub, iI_mul, iI_neg, bI_z, bI_o, i10, i01, eq_self, bI_nar, nar_0, nar_1, up_at, up_f, Option.some.injEq, exists_eq_left', true_and, and_true, forall_eq, not_true_eq_false, not_false_eq_true, forall_const, false_implies, true_implies, Classical.not_not, if_true, if_false, Int.reduceEq, Int.reduceLT, Int.reduceLE, Int.reduceGT, Int.reduceGE, Int.reduceAdd, Int.reduceSub, Int.reduceMul, Int.reduceNeg, Int.reduceNe]
    rw [show m 50 13 = m 50 13 from rfl, iI_le (by omega) (by omega) (by omega) (by omega)]
    cases d with
    | zero =>
      have c : m 50 13 ≤ j := by omega
      simp only [iI_lit, bI_z, bI_o, i10, i01, eq_self, bI_nar, nar_0, nar_1, bI_t, bI_f, true_and, and_true, forall_eq, not_true_eq_false, not_false_eq_true, forall_const, false_implies, true_implies, Classical.not_not, if_true, if_false, Int.reduceEq, Int.reduceLT, Int.reduceLE, Int.reduceGT, Int.reduceGE, Int.reduceAdd, Int.reduceSub, Int.reduceMul, Int.reduceNeg, Int.reduceNe, Bool.true_and, Bool.and_true, Bool.false_and, Bool.and_false, Bool.true_or, Bool.or_true, Bool.false_or, Bool.or_false, BEq.rfl, decide_true, decide_false, decide_eq_true_eq, Bool.false_eq_true, Bool.true_eq_false, Bool.not_true, Bool.not_false, allL, c, wp_X12_isAsWritten_62] at k ⊢
      exact k
    | succ d =>
      have c : ¬ m 50 13 ≤ j := by omega
      have i1 : vp_in (iI j) 128 := iI_in (by omega) (by omega) (by omega)
      have i2 : vp_in (iI j) 500 := iI_in (by omega) (by omega) (by omega)
      have hij := hi j h0 (by omega)
      simp (discharger := omega) only [nlit, iI_lit, iI_add, iI_sub, iI_mul, iI_neg, bI_z, bI_o, i10, i01, eq_self, bI_nar, nar_0, nar_1, bI_t, bI_f, Option.some.injEq, exists_eq_left', true_and, and_true, forall_eq, not_true_eq_false, not_false_eq_true, forall_const, false_implies, true_implies, Classical.not_not, if_true, if_false, Int.reduceEq, Int.reduceLT, Int.reduceLE, Int.reduceGT, Int.reduceGE, Int.reduceAdd, Int.reduceSub, Int.reduceMul, Int.reduceNeg, Int.reduceNe, Bool.true_and, Bool.and_true, Bool.false_and, Bool.and_false, BEq.rfl, Bool.true_eq_false, Bool.false_eq_true, c]
      simp (discharger := first | decide | omega) only [x_own h, x_kd h, x_r h, x_m h, x_l h, x_k h, x_n h, x_i0, x_i h, x_u0 h, x_u h, xLen, xKd, nlit, iI_lit, iI_add, iI_sub, iI_mul, iI_neg, bI_z, bI_o, i10, i01, eq_self, bI_nar, nar_0, nar_1, up_at, up_f, Option.some.injEq, exists_eq_left', true_and, and_true, forall_eq, not_true_eq_false, not_false_eq_true, forall_const, false_implies, true_implies, Classical.not_not, if_true, if_false, Int.reduceEq, Int.reduceLT, Int.reduceLE, Int.reduceGT, Int.reduceGE, Int.reduceAdd, Int.reduceSub, Int.reduceMul, Int.reduceNeg, Int.reduceNe, eq_true i1, eq_true i2]
      rw [iI_eq hij.1.1 hij.1.2 hij.2.1 hij.2.2]
      by_cases q : m 14 j = m 12 j
      · unfold allL at k
        rw [decide_eq_true q, Bool.true_and] at k
        simp (discharger := omega) only [nlit, iI_lit, iI_add, iI_sub, iI_mul, iI_neg, bI_z, bI_o, i10, i01, eq_self, bI_nar, nar_0, nar_1, bI_t, bI_f, Option.some.injEq, exists_eq_left', true_and, and_true, forall_eq, not_true_eq_false, not_false_eq_true, forall_const, false_implies, true_implies, Classical.not_not, if_true, if_false, Int.reduceEq, Int.reduceLT, Int.reduceLE, Int.reduceGT, Int.reduceGE, Int.reduceAdd, Int.reduceSub, Int.reduceMul, Int.reduceNeg, Int.reduceNe, Bool.true_and, Bool.and_true, Bool.false_and, Bool.and_false, BEq.rfl, Bool.true_eq_false, Bool.false_eq_true, q, wp_X12_isAsWritten_55]
        exact ih d (j + 1) (by omega) (by omega) (by omega) k
      · unfold allL at k
        rw [decide_eq_false q, Bool.false_and] at k
        simp (discharger := omega) only [nlit, iI_lit, iI_add, iI_sub, iI_mul, iI_neg, bI_z, bI_o, i10, i01, eq_self, bI_nar, nar_0, nar_1, bI_t, bI_f, Option.some.injEq, exists_eq_left', true_and, and_true, forall_eq, not_true_eq_false, not_false_eq_true, forall_const, false_implies, true_implies, Classical.not_not, if_true, if_false, Int.reduceEq, Int.reduceLT, Int.reduceLE, Int.reduceGT, Int.reduceGE, Int.reduceAdd, Int.reduceSub, Int.reduceMul, Int.reduceNeg, Int.reduceNe, Bool.true_and, Bool.and_true, Bool.false_and, Bool.and_false, BEq.rfl, Bool.true_eq_false, Bool.false_eq_true, q, wp_X12_isAsWritten_55]
        cases n with
        | zero => omega
        | succ n =>
          unfold wp_X12_isAsWritten_23
          simp (discharger := first | decide | omega) only [x_own h, x_kd h, x_r h, x_m h, x_l h, x_k h, x_n h, x_i0, x_i h, x_u0 h, x_u h, xLen, xKd, nlit, iI_lit, iI_add, iI_sub, iI_mul, iI_neg, bI_z, bI_o, i10, i01, eq_self, bI_nar, nar_0, nar_1, up_at, up_f, Option.some.injEq, exists_eq_left', true_and, and_true, forall_eq, not_true_eq_false, not_false_eq_true, forall_const, false_implies, true_implies, Classical.not_not, if_true, if_false, Int.reduceEq, Int.reduceLT, Int.reduceLE, Int.reduceGT, Int.reduceGE, Int.reduceAdd, Int.reduceSub, Int.reduceMul, Int.reduceNeg, Int.reduceNe]
          rw [show m 50 13 = m 50 13 from rfl, iI_le (by omega) (by omega) (by omega) (by omega)]
          by_cases z : m 50 13 ≤ j + 1
          · simp (discharger := omega) only [nlit, iI_lit, iI_add, iI_sub, iI_mul, iI_neg, bI_z, bI_o, i10, i01, eq_self, bI_nar, nar_0, nar_1, bI_t, bI_f, Option.some.injEq, exists_eq_left', true_and, and_true, forall_eq, not_true_eq_false, not_false_eq_true, forall_const, false_implies, true_implies, Classical.not_not, if_true, if_false, Int.reduceEq, Int.reduceLT, Int.reduceLE, Int.reduceGT, Int.reduceGE, Int.reduceAdd, Int.reduceSub, Int.reduceMul, Int.reduceNeg, Int.reduceNe, Bool.true_and, Bool.and_true, Bool.false_and, Bool.and_false, BEq.rfl, Bool.true_eq_false, Bool.false_eq_true, z, wp_X12_isAsWritten_62]; exact k
          · simp (discharger := omega) only [nlit, iI_lit, iI_add, iI_sub, iI_mul, iI_neg, bI_z, bI_o, i10, i01, eq_self, bI_nar, nar_0, nar_1, bI_t, bI_f, Option.some.injEq, exists_eq_left', true_and, and_true, forall_eq, not_true_eq_false, not_false_eq_true, forall_const, false_implies, true_implies, Classical.not_not, if_true, if_false, Int.reduceEq, Int.reduceLT, Int.reduceLE, Int.reduceGT, Int.reduceGE, Int.reduceAdd, Int.reduceSub, Int.reduceMul, Int.reduceNeg, Int.reduceNe, Bool.true_and, Bool.and_true, Bool.false_and, Bool.and_false, BEq.rfl, Bool.true_eq_false, Bool.false_eq_true, z, wp_X12_isAsWritten_62]; exact k
theorem q_isAsWritten (h : XC D S x A) (hB : XB m F R) {v : Int → Int} (hlv : lv m 0 = v) (hv : okV F R v) (hl : 0 ≤ m 50 13 ∧ m 50 13 ≤ 500) (hi : ∀ k, 0 ≤ k → k < 500 → i32 (m 12 k)) (hW : ∀ k : Nat, i32 ((paperP F R v).getD k 0))
    (k : post (iI (bI (asWr m (paperP F R v)))) (xS S x A (wrM (up m 50 15 0) (paperP F R v)))) : wp_X12_isAsWritten D post (xS S x A m) x := by
  unfold wp_X12_isAsWritten wp_X12_isAsWritten_0
  refine q_writesPaper h hB hlv hv ?_
  have hlen := paperP_len hB.f8 hB.r8 v
  generalize paperP F R v = W at hlen hW k
  have e15 : wrM (up m 50 15 0) W 50 15 = W.length := by rw [wrM_15, up_at, Int.zero_add]
  have e13 : wrM (up m 50 15 0) W 50 13 = m 50 13 := by rw [wrM_50 _ _ (by decide), up_ne m (Or.inr (by decide))]
  have e12 : wrM (up m 50 15 0) W 12 = m 12 := by rw [wrM_row _ _ rfl rfl, up_r m _ _ rfl]
  simp (discharger := first | decide | omega) only [x_own h, x_kd h, x_r h, x_m h, x_l h, x_k h, x_n h, x_i0, x_i h, x_u0 h, x_u h, xLen, xKd, nlit, iI_lit, iI_add, iI_sub, iI_mul, iI_neg, bI_z, bI_o, i10, i01, eq_self, bI_nar, nar_0, nar_1, up_at, up_f, Option.some.injEq, exists_eq_left', true_and, and_true, forall_eq, not_true_eq_false, not_false_eq_true, forall_const, false_implies, true_implies, Classical.not_not, if_true, if_false, Int.reduceEq, Int.reduceLT, Int.reduceLE, Int.reduceGT, Int.reduceGE, Int.reduceAdd, Int.reduceSub, Int.reduceMul, Int.reduceNeg, Int.reduceNe]
  rw [show wrM (up m 50 15 0) W 50 15 = W.length from e15, show wrM (up m 50 15 0) W 50 13 = m 50 13 from e13, iI_eq (by omega) (by omega) (by omega) (by omega)]
  unfold asWr at k
  by_cases c : (W.length : Int) = m 50 13
  · simp (discharger := omega) only [nlit, iI_lit, iI_add, iI_sub, iI_mul, iI_neg, bI_z, bI_o, i10, i01, eq_self, bI_nar, nar_0, nar_1, bI_t, bI_f, Option.some.injEq, exists_eq_left', true_and, and_true, forall_eq, not_true_eq_false, not_false_eq_true, forall_const, false_implies, true_implies, Classical.not_not, if_true, if_false, Int.reduceEq, Int.reduceLT, Int.reduceLE, Int.reduceGT, Int.reduceGE, Int.reduceAdd, Int.reduceSub, Int.reduceMul, Int.reduceNeg, Int.reduceNe, Bool.true_and, Bool.and_true, Bool.false_and, Bool.and_false, BEq.rfl, Bool.true_eq_false, Bool.false_eq_true, c, wp_X12_isAsWritten_20]
    rw [decide_eq_true c, Bool.true_and] at k
    have e14 : ∀ q : Int, 0 ≤ q → q < W.length → wrM (up m 50 15 0) W 14 q = W.getD q.toNat 0 := fun q a b => by
      unfold wrM
      rw [if_neg (by omega), if_pos ⟨rfl, by rw [up_at]; omega, by rw [up_at]; omega⟩, up_at, Int.sub_zero]
    have ea : ∀ (d : Nat) (j : Int), 0 ≤ j → j + d ≤ W.length → allL (fun k => decide (wrM (up m 50 15 0) W 14 k = wrM (up m 50 15 0) W 12 k)) j d = allL (fun k => decide (W.getD k.toNat 0 = m 12 k)) j d := by
      intro d
      induction d with
      | zero => intro j _ _; rfl
      | succ d ih => intro j a b; unfold allL; rw [ih (j + 1) (by omega) (by omega), e14 j a (by omega), e12]
    refine ⟨130, q_asWr_23 h (by rw [e13]; omega) (fun q a b => ⟨?_, by rw [e12]; rw [e13] at b; exact hi q a (by omega)⟩) 130 (m 50 13).toNat 0 (by omega) (by rw [e13]; omega) (by decide) ?_⟩
    · rw [e13] at b
      rw [e14 q a (by omega)]; exact hW _
    · rw [ea _ _ (by decide) (by omega)]; exact k
  · simp (discharger := omega) only [nlit, iI_lit, iI_add, iI_sub, iI_mul, iI_neg, bI_z, bI_o, i10, i01, eq_self, bI_nar, nar_0, nar_1, bI_t, bI_f, Option.some.injEq, exists_eq_left', true_and, and_true, forall_eq, not_true_eq_false, not_false_eq_true, forall_const, false_implies, true_implies, Classical.not_not, if_true, if_false, Int.reduceEq, Int.reduceLT, Int.reduceLE, Int.reduceGT, Int.reduceGE, Int.reduceAdd, Int.reduceSub, Int.reduceMul, Int.reduceNeg, Int.reduceNe, Bool.true_and, Bool.and_true, Bool.false_and, Bool.and_false, BEq.rfl, Bool.true_eq_false, Bool.false_eq_true, c, wp_X12_isAsWritten_20]
    rw [decide_eq_false c, Bool.false_and] at k
    refine ⟨1, ?_⟩
    unfold wp_X12_isAsWritten_23
    simp (discharger := first | decide | omega) only [x_own h, x_kd h, x_r h, x_m h, x_l h, x_k h, x_n h, x_i0, x_i h, x_u0 h, x_u h, xLen, xKd, nlit, iI_lit, iI_add, iI_sub, iI_mul, iI_neg, bI_z, bI_o, i10, i01, eq_self, bI_nar, nar_0, nar_1, up_at, up_f, Option.some.injEq, exists_eq_left', true_and, and_true, forall_eq, not_true_eq_false, not_false_eq_true, forall_const, false_implies, true_implies, Classical.not_not, if_true, if_false, Int.reduceEq, Int.reduceLT, Int.reduceLE, Int.reduceGT, Int.reduceGE, Int.reduceAdd, Int.reduceSub, Int.reduceMul, Int.reduceNeg, Int.reduceNe]
    rw [show wrM (up m 50 15 0) W 50 13 = m 50 13 from e13, iI_le (by omega) (by omega) (by decide) (by decide)]
    by_cases z : m 50 13 ≤ 0
    · simp (discharger := omega) only [nlit, iI_lit, iI_add, iI_sub, iI_mul, iI_neg, bI_z, bI_o, i10, i01, eq_self, bI_nar, nar_0, nar_1, bI_t, bI_f, Option.some.injEq, exists_eq_left', true_and, and_true, forall_eq, not_true_eq_false, not_false_eq_true, forall_const, false_implies, true_implies, Classical.not_not, if_true, if_false, Int.reduceEq, Int.reduceLT, Int.reduceLE, Int.reduceGT, Int.reduceGE, Int.reduceAdd, Int.reduceSub, Int.reduceMul, Int.reduceNeg, Int.reduceNe, Bool.true_and, Bool.and_true, Bool.false_and, Bool.and_false, BEq.rfl, Bool.true_eq_false, Bool.false_eq_true, z, wp_X12_isAsWritten_62]; exact k
    · simp (discharger := omega) only [nlit, iI_lit, iI_add, iI_sub, iI_mul, iI_neg, bI_z, bI_o, i10, i01, eq_self, bI_nar, nar_0, nar_1, bI_t, bI_f, Option.some.injEq, exists_eq_left', true_and, and_true, forall_eq, not_true_eq_false, not_false_eq_true, forall_const, false_implies, true_implies, Classical.not_not, if_true, if_false, Int.reduceEq, Int.reduceLT, Int.reduceLE, Int.reduceGT, Int.reduceGE, Int.reduceAdd, Int.reduceSub, Int.reduceMul, Int.reduceNeg, Int.reduceNe, Bool.true_and, Bool.and_true, Bool.false_and, Bool.and_false, BEq.rfl, Bool.true_eq_false, Bool.false_eq_true, z, wp_X12_isAsWritten_62]; exact k
end
