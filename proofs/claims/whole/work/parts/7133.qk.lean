/-- the strengths of the games that pass through the present position -/
def strB (m : xM) (s : Int) : Int := sumL (fun g => if passB m s g (pv m) then m 36 (slotB s g) else 0) 0 (m 30 s).toNat
def meanB (m : xM) (s t : Int) : Int := if t = 0 then strB m s / (Nat.gcd (strB m s).toNat (gamesB m s (-1) 0 9999).toNat : Nat) else gamesB m s (-1) 0 9999 / (Nat.gcd (strB m s).toNat (gamesB m s (-1) 0 9999).toNat : Nat)
section
variable {D : wD} {S : wS} {x : Nat} {A : Nat → Nat} {m : xM} {F R : Int} {post : Int32 → wS → Prop}
theorem sum_rr {f : Int → Int} {c : Int} : ∀ (d : Nat) (k : Int), (∀ j, k ≤ j → j < k + d → 0 ≤ f j ∧ f j ≤ c) → 0 ≤ sumL f k d ∧ sumL f k d ≤ c * d := by
  intro d
  induction d with
  | zero => intro k _; simp [sumL]
  | succ d ih =>
    intro k h
    have h1 := ih (k + 1) (fun j a b => h j (by omega) (by omega))
    have h2 := h k (by omega) (by omega)
    unfold sumL
    have : c * ((d + 1 : Nat) : Int) = c * d + c := by rw [Int.natCast_add, Int.mul_add]; simp
    omega
theorem sum_snoc (f : Int → Int) : ∀ (d : Nat) (k : Int), sumL f k (d + 1) = sumL f k d + f (k + d) := by
  intro d
  induction d with
  | zero => intro k; simp [sumL]
  | succ d ih =>
    intro k
    have e : sumL f k (d + 1 + 1) = f k + sumL f (k + 1) (d + 1) := rfl
    have e2 : sumL f k (d + 1) = f k + sumL f (k + 1) d := rfl
    rw [e, ih (k + 1), e2, show k + 1 + (d : Int) = k + ((d + 1 : Nat) : Int) by omega]
    omega
theorem gamesB_r (hS : SG m F R) {s : Int} (hs : 0 ≤ s ∧ s ≤ 1) (r a b : Int) : 0 ≤ gamesB m s r a b ∧ gamesB m s r a b ≤ 40 := by
  have h40 := hS.1 s hs.1 hs.2
  have := sum_rr (f := fun g => if hereB m s g r a b then 1 else 0) (c := 1) (m 30 s).toNat 0 (fun j _ _ => by split <;> decide)
  unfold gamesB
  omega
theorem strB_r (hS : SG m F R) (hT : ∀ k, 0 ≤ k → k < 80 → 0 ≤ m 36 k ∧ m 36 k ≤ 3500) {s : Int} (hs : 0 ≤ s ∧ s ≤ 1) : 0 ≤ strB m s ∧ strB m s ≤ 140000 := by
  have h40 := hS.1 s hs.1 hs.2
  have := sum_rr (f := fun g => if passB m s g (pv m) then m 36 (slotB s g) else 0) (c := 3500) (m 30 s).toNat 0 (fun j a b => by
    split
    · exact hT _ (by unfold slotB; omega) (by unfold slotB; omega)
    · decide)
  unfold strB
  omega
theorem strB_up0 (w s : Int) : strB (up m 50 0 w) s = strB m s := by
  unfold strB
  rw [up_f m _ _ _ rfl]
  have : ∀ g, (if passB (up m 50 0 w) s g (pv (up m 50 0 w)) then up m 50 0 w 36 (slotB s g) else 0) = if passB m s g (pv m) then m 36 (slotB s g) else 0 := fun g => by
    rw [up_f m _ _ _ rfl, passB_up0, pv_up0]
  simp only [this]
theorem q_meanStrength_50 (h : XC D S x A) (hG : RG m F R) (hS : SG m F R) (hT : ∀ k, 0 ≤ k → k < 80 → 0 ≤ m 36 k ∧ m 36 k ≤ 3500) {s t c : Int} (hs : 0 ≤ s ∧ s ≤ 1) (ht : i32 t) (hc : 1 ≤ c ∧ c ≤ 40) :
    ∀ (n d : Nat) (g e : Int), d < n → g + d = m 30 s → 0 ≤ g → 0 ≤ e ∧ e + 3500 * d ≤ 140000 →
    (∀ f : Int, f = e + sumL (fun g => if passB m s g (pv m) then m 36 (slotB s g) else 0) g d → post (iI (if t = 0 then f / (Nat.gcd f.toNat c.toNat : Nat) else c / (Nat.gcd f.toNat c.toNat : Nat))) (xS S x A m)) → wp_X12_meanStrength_50 D post n (xS S x A m) x (iI s) (iI t) (iI c) (iI e) (iI g) := by
  have i2 : vp_in (iI s) 2 := iI_in (by omega) (by omega) (by omega)
  have h40 := hS.1 s hs.1 hs.2
  intro n
  induction n with
  | zero => intro d g e hd; omega
  | succ n ih =>
    intro d g e hd hj h0 he k
    unfold wp_X12_meanStrength_50
    simp (discharger := first | decide | omega) only [x_own h, x_kd h, x_r h, x_m h, x_l h, x_k h, x_n h, x_i0, x_i h, x_u0 h, x_u h, xLen, xKd, nlit, iI_lit, iI_add, iI_sub, iI_mul, iI_neg, bI_z, bI_o, i10, i01, eq_self, bI_nar, nar_0, nar_1, up_at, up_f, Option.some.injEq, exists_eq_left', true_and, and_true, forall_eq, not_true_eq_false, not_false_eq_true, forall_const, false_implies, true_implies, Classical.not_not, if_true, if_false, Int.reduceEq, Int.reduceLT, Int.reduceLE, Int.reduceGT, Int.reduceGE, Int.reduceAdd, Int.reduceSub, Int.reduceMul, Int.reduceNeg, Int.reduceNe, eq_true i2]
    rw [iI_le (by omega) (by omega) (by omega) (by omega)]
    cases d with
    | zero =>
      have cc : m 30 s ≤ g := by omega
      have k := k e (by simp [sumL])
      simp (discharger := omega) only [nlit, iI_lit, iI_add, iI_sub, iI_mul, iI_neg, bI_z, bI_o, i10, i01, eq_self, bI_nar, nar_0, nar_1, bI_t, bI_f, Option.some.injEq, exists_eq_left', true_and, and_true, forall_eq, not_true_eq_false, not_false_eq_true, forall_const, false_implies, true_implies, Classical.not_not, if_true, if_false, Int.reduceEq, Int.reduceLT, Int.reduceLE, Int.reduceGT, Int.reduceGE, Int.reduceAdd, Int.reduceSub, Int.reduceMul, Int.reduceNeg, Int.reduceNe, Bool.true_and, Bool.and_true, Bool.false_and, Bool.and_false, BEq.rfl, Bool.true_eq_false, Bool.false_eq_true, cc]
      refine q_common ⟨by omega, by omega⟩ ⟨by omega, by omega⟩ ?_
      have gp : 0 < Nat.gcd e.toNat c.toNat := Nat.gcd_pos_of_pos_right _ (by omega)
      have gl : Nat.gcd e.toNat c.toNat ≤ c.toNat := Nat.le_of_dvd (by omega) (Nat.gcd_dvd_right _ _)
      have gz : ¬ (((Nat.gcd e.toNat c.toNat : Nat) : Int) = 0) := by omega
      simp (discharger := omega) only [nlit, iI_lit, iI_add, iI_sub, iI_mul, iI_neg, bI_z, bI_o, i10, i01, eq_self, bI_nar, nar_0, nar_1, bI_t, bI_f, Option.some.injEq, exists_eq_left', true_and, and_true, forall_eq, not_true_eq_false, not_false_eq_true, forall_const, false_implies, true_implies, Classical.not_not, if_true, if_false, Int.reduceEq, Int.reduceLT, Int.reduceLE, Int.reduceGT, Int.reduceGE, Int.reduceAdd, Int.reduceSub, Int.reduceMul, Int.reduceNeg, Int.reduceNe, Bool.true_and, Bool.and_true, Bool.false_and, Bool.and_false, BEq.rfl, Bool.true_eq_false, Bool.false_eq_true, iI_eq, gz, wp_X12_meanStrength_121]
      rw [iI_div (by omega) (by omega) (by omega) (by omega), iI_div (by omega) (by omega) (by omega) (by omega)]
      by_cases ct : t = 0
      · rw [if_pos ct] at k
        simp (discharger := omega) only [nlit, iI_lit, iI_add, iI_sub, iI_mul, iI_neg, bI_z, bI_o, i10, i01, eq_self, bI_nar, nar_0, nar_1, bI_t, bI_f, Option.some.injEq, exists_eq_left', true_and, and_true, forall_eq, not_true_eq_false, not_false_eq_true, forall_const, false_implies, true_implies, Classical.not_not, if_true, if_false, Int.reduceEq, Int.reduceLT, Int.reduceLE, Int.reduceGT, Int.reduceGE, Int.reduceAdd, Int.reduceSub, Int.reduceMul, Int.reduceNeg, Int.reduceNe, Bool.true_and, Bool.and_true, Bool.false_and, Bool.and_false, BEq.rfl, Bool.true_eq_false, Bool.false_eq_true, ct]
        exact k
      · rw [if_neg ct] at k
        simp (discharger := omega) only [nlit, iI_lit, iI_add, iI_sub, iI_mul, iI_neg, bI_z, bI_o, i10, i01, eq_self, bI_nar, nar_0, nar_1, bI_t, bI_f, Option.some.injEq, exists_eq_left', true_and, and_true, forall_eq, not_true_eq_false, not_false_eq_true, forall_const, false_implies, true_implies, Classical.not_not, if_true, if_false, Int.reduceEq, Int.reduceLT, Int.reduceLE, Int.reduceGT, Int.reduceGE, Int.reduceAdd, Int.reduceSub, Int.reduceMul, Int.reduceNeg, Int.reduceNe, Bool.true_and, Bool.and_true, Bool.false_and, Bool.and_false, BEq.rfl, Bool.true_eq_false, Bool.false_eq_true, ct]
        exact k
    | succ d =>
      have cc : ¬ m 30 s ≤ g := by omega
      simp (discharger := omega) only [nlit, iI_lit, iI_add, iI_sub, iI_mul, iI_neg, bI_z, bI_o, i10, i01, eq_self, bI_nar, nar_0, nar_1, bI_t, bI_f, Option.some.injEq, exists_eq_left', true_and, and_true, forall_eq, not_true_eq_false, not_false_eq_true, forall_const, false_implies, true_implies, Classical.not_not, if_true, if_false, Int.reduceEq, Int.reduceLT, Int.reduceLE, Int.reduceGT, Int.reduceGE, Int.reduceAdd, Int.reduceSub, Int.reduceMul, Int.reduceNeg, Int.reduceNe, Bool.true_and, Bool.and_true, Bool.false_and, Bool.and_false, BEq.rfl, Bool.true_eq_false, Bool.false_eq_true, cc]
      refine q_passesHere h hG hS hs ⟨h0, by omega⟩ ?_
      have ik : vp_in (iI (slotB s g)) 80 := iI_in (by unfold slotB; omega) (by unfold slotB; omega) (by unfold slotB; omega)
      have hsl : 0 ≤ slotB s g ∧ slotB s g < 80 := by unfold slotB; omega
      have hk := hT (slotB s g) (by unfold slotB; omega) (by unfold slotB; omega)
      have hd' : ((d + 1 : Nat) : Int) = d + 1 := by omega
      try simp (discharger := omega) only [nlit, iI_lit, iI_add, iI_sub, iI_mul, iI_neg, bI_z, bI_o, i10, i01, eq_self, bI_nar, nar_0, nar_1, bI_t, bI_f, Option.some.injEq, exists_eq_left', true_and, and_true, forall_eq, not_true_eq_false, not_false_eq_true, forall_const, false_implies, true_implies, Classical.not_not, if_true, if_false, Int.reduceEq, Int.reduceLT, Int.reduceLE, Int.reduceGT, Int.reduceGE, Int.reduceAdd, Int.reduceSub, Int.reduceMul, Int.reduceNeg, Int.reduceNe, Bool.true_and, Bool.and_true, Bool.false_and, Bool.and_false, BEq.rfl, Bool.true_eq_false, Bool.false_eq_true]
      cases cp : passB m s g (pv m)
      · simp (discharger := omega) only [nlit, iI_lit, iI_add, iI_sub, iI_mul, iI_neg, bI_z, bI_o, i10, i01, eq_self, bI_nar, nar_0, nar_1, bI_t, bI_f, Option.some.injEq, exists_eq_left', true_and, and_true, forall_eq, not_true_eq_false, not_false_eq_true, forall_const, false_implies, true_implies, Classical.not_not, if_true, if_false, Int.reduceEq, Int.reduceLT, Int.reduceLE, Int.reduceGT, Int.reduceGE, Int.reduceAdd, Int.reduceSub, Int.reduceMul, Int.reduceNeg, Int.reduceNe, Bool.true_and, Bool.and_true, Bool.false_and, Bool.and_false, BEq.rfl, Bool.true_eq_false, Bool.false_eq_true, wp_X12_meanStrength_88]
        rw [Int.add_zero]
        refine ih d (g + 1) e (by omega) (by omega) (by omega) (by omega) (fun f hf => k f ?_)
        rw [hf]; simp [sumL, cp]
      · simp (discharger := omega) only [nlit, iI_lit, iI_add, iI_sub, iI_mul, iI_neg, bI_z, bI_o, i10, i01, eq_self, bI_nar, nar_0, nar_1, bI_t, bI_f, Option.some.injEq, exists_eq_left', true_and, and_true, forall_eq, not_true_eq_false, not_false_eq_true, forall_const, false_implies, true_implies, Classical.not_not, if_true, if_false, Int.reduceEq, Int.reduceLT, Int.reduceLE, Int.reduceGT, Int.reduceGE, Int.reduceAdd, Int.reduceSub, Int.reduceMul, Int.reduceNeg, Int.reduceNe, Bool.true_and, Bool.and_true, Bool.false_and, Bool.and_false, BEq.rfl, Bool.true_eq_false, Bool.false_eq_true, wp_X12_meanStrength_88]
        simp (discharger := first | decide | omega) only [x_own h, x_kd h, x_r h, x_m h, x_l h, x_k h, x_n h, x_i0, x_i h, x_u0 h, x_u h, xLen, xKd, nlit, iI_lit, iI_add, iI_sub, iI_mul, iI_neg, bI_z, bI_o, i10, i01, eq_self, bI_nar, nar_0, nar_1, up_at, up_f, Option.some.injEq, exists_eq_left', true_and, and_true, forall_eq, not_true_eq_false, not_false_eq_true, forall_const, false_implies, true_implies, Classical.not_not, if_true, if_false, Int.reduceEq, Int.reduceLT, Int.reduceLE, Int.reduceGT, Int.reduceGE, Int.reduceAdd, Int.reduceSub, Int.reduceMul, Int.reduceNeg, Int.reduceNe]
        rw [q_slot]
        simp (discharger := first | decide | omega) only [x_own h, x_kd h, x_r h, x_m h, x_l h, x_k h, x_n h, x_i0, x_i h, x_u0 h, x_u h, xLen, xKd, nlit, iI_lit, iI_add, iI_sub, iI_mul, iI_neg, bI_z, bI_o, i10, i01, eq_self, bI_nar, nar_0, nar_1, up_at, up_f, Option.some.injEq, exists_eq_left', true_and, and_true, forall_eq, not_true_eq_false, not_false_eq_true, forall_const, false_implies, true_implies, Classical.not_not, if_true, if_false, Int.reduceEq, Int.reduceLT, Int.reduceLE, Int.reduceGT, Int.reduceGE, Int.reduceAdd, Int.reduceSub, Int.reduceMul, Int.reduceNeg, Int.reduceNe, eq_true ik]
        refine ih d (g + 1) (e + m 36 (slotB s g)) (by omega) (by omega) (by omega) (by omega) (fun f hf => k f ?_)
        rw [hf]; simp [sumL, cp]; omega
theorem q_meanStrength (h : XC D S x A) (hG : RG m F R) (hS : SG m F R) (hT : ∀ k, 0 ≤ k → k < 80 → 0 ≤ m 36 k ∧ m 36 k ≤ 3500) {s t : Int} (hs : i32 s) (ht : i32 t)
    (k0 : inB s 0 1 = false → post (iI 0) (xS S x A (up m 50 0 1)))
    (k1 : inB s 0 1 = true → gamesB m s (-1) 0 9999 = 0 → post (iI 0) (xS S x A (up m 50 0 2)))
    (k2 : inB s 0 1 = true → gamesB m s (-1) 0 9999 ≠ 0 → post (iI (meanB m s t)) (xS S x A (up m 50 0 0))) : wp_X12_meanStrength D post (xS S x A m) x (iI s) (iI t) := by
  unfold wp_X12_meanStrength wp_X12_meanStrength_0
  rw [q_isShelf hs]
  try simp (discharger := omega) only [nlit, iI_lit, iI_add, iI_sub, iI_mul, iI_neg, bI_z, bI_o, i10, i01, eq_self, bI_nar, nar_0, nar_1, bI_t, bI_f, Option.some.injEq, exists_eq_left', true_and, and_true, forall_eq, not_true_eq_false, not_false_eq_true, forall_const, false_implies, true_implies, Classical.not_not, if_true, if_false, Int.reduceEq, Int.reduceLT, Int.reduceLE, Int.reduceGT, Int.reduceGE, Int.reduceAdd, Int.reduceSub, Int.reduceMul, Int.reduceNeg, Int.reduceNe, Bool.true_and, Bool.and_true, Bool.false_and, Bool.and_false, BEq.rfl, Bool.true_eq_false, Bool.false_eq_true]
  rw [q_can h]
  try simp (discharger := omega) only [nlit, iI_lit, iI_add, iI_sub, iI_mul, iI_neg, bI_z, bI_o, i10, i01, eq_self, bI_nar, nar_0, nar_1, bI_t, bI_f, Option.some.injEq, exists_eq_left', true_and, and_true, forall_eq, not_true_eq_false, not_false_eq_true, forall_const, false_implies, true_implies, Classical.not_not, if_true, if_false, Int.reduceEq, Int.reduceLT, Int.reduceLE, Int.reduceGT, Int.reduceGE, Int.reduceAdd, Int.reduceSub, Int.reduceMul, Int.reduceNeg, Int.reduceNe, Bool.true_and, Bool.and_true, Bool.false_and, Bool.and_false, BEq.rfl, Bool.true_eq_false, Bool.false_eq_true]
  cases c : inB s 0 1
  · try simp (discharger := omega) only [nlit, iI_lit, iI_add, iI_sub, iI_mul, iI_neg, bI_z, bI_o, i10, i01, eq_self, bI_nar, nar_0, nar_1, bI_t, bI_f, Option.some.injEq, exists_eq_left', true_and, and_true, forall_eq, not_true_eq_false, not_false_eq_true, forall_const, false_implies, true_implies, Classical.not_not, if_true, if_false, Int.reduceEq, Int.reduceLT, Int.reduceLE, Int.reduceGT, Int.reduceGE, Int.reduceAdd, Int.reduceSub, Int.reduceMul, Int.reduceNeg, Int.reduceNe, Bool.true_and, Bool.and_true, Bool.false_and, Bool.and_false, BEq.rfl, Bool.true_eq_false, Bool.false_eq_true]
    exact k0 c
  · have k1 := k1 c
    have k2 := k2 c
    have hc := c
    unfold inB at hc
    simp at hc
    rw [cn_true]
    try simp (discharger := omega) only [nlit, iI_lit, iI_add, iI_sub, iI_mul, iI_neg, bI_z, bI_o, i10, i01, eq_self, bI_nar, nar_0, nar_1, bI_t, bI_f, Option.some.injEq, exists_eq_left', true_and, and_true, forall_eq, not_true_eq_false, not_false_eq_true, forall_const, false_implies, true_implies, Classical.not_not, if_true, if_false, Int.reduceEq, Int.reduceLT, Int.reduceLE, Int.reduceGT, Int.reduceGE, Int.reduceAdd, Int.reduceSub, Int.reduceMul, Int.reduceNeg, Int.reduceNe, Bool.true_and, Bool.and_true, Bool.false_and, Bool.and_false, BEq.rfl, Bool.true_eq_false, Bool.false_eq_true]
    have hr := gamesB_r hS hc (-1) 0 9999
    refine q_gamesHere h (hG.up0 0) (SG_up0 hS 0) (by omega) (by decide) (by decide) (by decide) ?_
    rw [gamesB_up0]
    simp (discharger := omega) only [nlit, iI_lit, iI_add, iI_sub, iI_mul, iI_neg, bI_z, bI_o, i10, i01, eq_self, bI_nar, nar_0, nar_1, bI_t, bI_f, Option.some.injEq, exists_eq_left', true_and, and_true, forall_eq, not_true_eq_false, not_false_eq_true, forall_const, false_implies, true_implies, Classical.not_not, if_true, if_false, Int.reduceEq, Int.reduceLT, Int.reduceLE, Int.reduceGT, Int.reduceGE, Int.reduceAdd, Int.reduceSub, Int.reduceMul, Int.reduceNeg, Int.reduceNe, Bool.true_and, Bool.and_true, Bool.false_and, Bool.and_false, BEq.rfl, Bool.true_eq_false, Bool.false_eq_true, iI_le]
    by_cases cz : gamesB m s (-1) 0 9999 = 0
    · have : gamesB m s (-1) 0 9999 ≤ 0 := by omega
      simp (discharger := omega) only [nlit, iI_lit, iI_add, iI_sub, iI_mul, iI_neg, bI_z, bI_o, i10, i01, eq_self, bI_nar, nar_0, nar_1, bI_t, bI_f, Option.some.injEq, exists_eq_left', true_and, and_true, forall_eq, not_true_eq_false, not_false_eq_true, forall_const, false_implies, true_implies, Classical.not_not, if_true, if_false, Int.reduceEq, Int.reduceLT, Int.reduceLE, Int.reduceGT, Int.reduceGE, Int.reduceAdd, Int.reduceSub, Int.reduceMul, Int.reduceNeg, Int.reduceNe, Bool.true_and, Bool.and_true, Bool.false_and, Bool.and_false, BEq.rfl, Bool.true_eq_false, Bool.false_eq_true, this, wp_X12_meanStrength_35]
      rw [q_can0 h, up_up]
      try simp (discharger := omega) only [nlit, iI_lit, iI_add, iI_sub, iI_mul, iI_neg, bI_z, bI_o, i10, i01, eq_self, bI_nar, nar_0, nar_1, bI_t, bI_f, Option.some.injEq, exists_eq_left', true_and, and_true, forall_eq, not_true_eq_false, not_false_eq_true, forall_const, false_implies, true_implies, Classical.not_not, if_true, if_false, Int.reduceEq, Int.reduceLT, Int.reduceLE, Int.reduceGT, Int.reduceGE, Int.reduceAdd, Int.reduceSub, Int.reduceMul, Int.reduceNeg, Int.reduceNe, Bool.true_and, Bool.and_true, Bool.false_and, Bool.and_false, BEq.rfl, Bool.true_eq_false, Bool.false_eq_true]
      exact k1 cz
    · have : ¬ gamesB m s (-1) 0 9999 ≤ 0 := by omega
      simp (discharger := omega) only [nlit, iI_lit, iI_add, iI_sub, iI_mul, iI_neg, bI_z, bI_o, i10, i01, eq_self, bI_nar, nar_0, nar_1, bI_t, bI_f, Option.some.injEq, exists_eq_left', true_and, and_true, forall_eq, not_true_eq_false, not_false_eq_true, forall_const, false_implies, true_implies, Classical.not_not, if_true, if_false, Int.reduceEq, Int.reduceLT, Int.reduceLE, Int.reduceGT, Int.reduceGE, Int.reduceAdd, Int.reduceSub, Int.reduceMul, Int.reduceNeg, Int.reduceNe, Bool.true_and, Bool.and_true, Bool.false_and, Bool.and_false, BEq.rfl, Bool.true_eq_false, Bool.false_eq_true, this, wp_X12_meanStrength_35]
      rw [q_can1 h, up_up]
      try simp (discharger := omega) only [nlit, iI_lit, iI_add, iI_sub, iI_mul, iI_neg, bI_z, bI_o, i10, i01, eq_self, bI_nar, nar_0, nar_1, bI_t, bI_f, Option.some.injEq, exists_eq_left', true_and, and_true, forall_eq, not_true_eq_false, not_false_eq_true, forall_const, false_implies, true_implies, Classical.not_not, if_true, if_false, Int.reduceEq, Int.reduceLT, Int.reduceLE, Int.reduceGT, Int.reduceGE, Int.reduceAdd, Int.reduceSub, Int.reduceMul, Int.reduceNeg, Int.reduceNe, Bool.true_and, Bool.and_true, Bool.false_and, Bool.and_false, BEq.rfl, Bool.true_eq_false, Bool.false_eq_true]
      have h40 := hS.1 s hc.1 hc.2
      refine ⟨41, q_meanStrength_50 h (hG.up0 0) (SG_up0 hS 0) (fun k a b => by rw [up_f m _ _ _ rfl]; exact hT k a b) hc ht (by omega) 41 (m 30 s).toNat 0 0 (by omega) (by rw [up_f m _ _ _ rfl]; omega) (by decide) (by omega) (fun f hf => ?_)⟩
      have e1 := strB_up0 (m := m) 0 s
      unfold strB at e1
      rw [up_f m _ _ _ rfl] at e1
      rw [e1, Int.zero_add] at hf
      have k2 := k2 cz
      unfold meanB strB at k2
      rw [hf]
      exact k2
theorem q_errors (h : XC D S x A) (k : post (iI 0) (xS S x A (up m 50 0 0))) : wp_X12_errors D post (xS S x A m) x := by
  simp (discharger := first | decide | omega) only [x_own h, x_kd h, x_r h, x_m h, x_l h, x_k h, x_n h, x_i0, x_i h, x_u0 h, x_u h, xLen, xKd, nlit, iI_lit, iI_add, iI_sub, iI_mul, iI_neg, bI_z, bI_o, i10, i01, eq_self, bI_nar, nar_0, nar_1, up_at, up_f, Option.some.injEq, exists_eq_left', true_and, and_true, forall_eq, not_true_eq_false, not_false_eq_true, forall_const, false_implies, true_implies, Classical.not_not, if_true, if_false, Int.reduceEq, Int.reduceLT, Int.reduceLE, Int.reduceGT, Int.reduceGE, Int.reduceAdd, Int.reduceSub, Int.reduceMul, Int.reduceNeg, Int.reduceNe, wp_X12_errors, wp_X12_errors_0]
  exact k
end
