def sameB (v w : Int → Int) : Bool := allL (fun j => decide (v j = w j)) 0 67
def stoodB (m : xM) : Int := sumL (fun k => if sameB (gv m k) (pv m) then 1 else 0) 0 (m 50 11 + 1).toNat
def lightB (k : Int) : Int := if k = 0 then 0 else if k = 1 then 0 else if k = 4 then 1 else if k = 5 then 1 else 2
def deadB (F R : Int) (v : Int → Int) : Bool := decide (sumL (fun j => lightB (kindO (v j))) 0 (F * R).toNat ≤ 1)
def calmC (loud : Int → Int) (made c : Int) : Nat → Int
  | 0 => c
  | d + 1 => if loud (made - 1 - c) = 0 then calmC loud made (c + 1) d else c
def calmB (m : xM) : Int := calmC (m 10) (m 50 11) 0 (m 50 11).toNat
def stateB (F R : Int) (m : xM) : Int :=
  if (movesL F R (pv m)).length = 0 then (if chkB F R (pv m) (pv m 64) then 1 else 2)
  else if deadB F R (pv m) then 3 else if 3 ≤ stoodB m then 4 else if 40 ≤ calmB m then 5 else 0
theorem okV_i32 {F R : Int} {v : Int → Int} (h : okV F R v) (hn : F * R ≤ 64) {j : Int} (hj : 0 ≤ j ∧ j < 67) : i32 (v j) := by
  have := h.s; have := h.r; have := h.e
  rcases (show j < 64 ∨ j = 64 ∨ j = 65 ∨ j = 66 by omega) with c | c | c | c
  · have := h.p j hj.1 c; exact ⟨by omega, by omega⟩
  · subst c; exact ⟨by omega, by omega⟩
  · subst c; exact ⟨by omega, by omega⟩
  · subst c; exact ⟨by omega, by omega⟩
theorem lightB_r (k : Int) : 0 ≤ lightB k ∧ lightB k ≤ 2 := by unfold lightB; omega
theorem sumL_r2 {f : Int → Int} {c : Int} (hf : ∀ j, 0 ≤ f j ∧ f j ≤ c) (k : Int) (d : Nat) : 0 ≤ sumL f k d ∧ sumL f k d ≤ c * d := by
  induction d generalizing k with
  | zero => simp [sumL]
  | succ d ih =>
    have h1 := ih (k + 1); have h2 := hf k; unfold sumL
    have : c * ((d + 1 : Nat) : Int) = c * d + c := by push_cast; rw [Int.mul_add, Int.mul_one]
    omega
section
variable {D : wD} {S : wS} {x : Nat} {A : Nat → Nat} {m : xM} {F R : Int} {post : Int32 → wS → Prop}
theorem q_isSame_3 (h : XC D S x A) {f g : Nat} (hf : xIn f = true) (hg : xIn g = true) {a b : Int} (ha : 0 ≤ a ∧ a + 67 ≤ xLen f) (hb : 0 ≤ b ∧ b + 67 ≤ xLen g) (hl : xLen f < 1000000 ∧ xLen g < 1000000)
    (hr : ∀ j, 0 ≤ j → j < 67 → i32 (vec m f a j) ∧ i32 (vec m g b j)) : ∀ (n d : Nat) (j : Int), d < n → j + d = 67 → 0 ≤ j →
    post (iI (bI (allL (fun j => decide (vec m f a j = vec m g b j)) j d))) (xS S x A m) → wp_X12_isSame_3 D post n (xS S x A m) (A f) (iI a) (A g) (iI b) (iI j) := by
  intro n
  induction n with
  | zero => intro d j hd; omega
  | succ n ih =>
    intro d j hd hj h0 k
    unfold wp_X12_isSame_3
    simp (discharger := omega) only [nlit, iI_lit, iI_add, iI_sub, iI_mul, iI_neg, bI_z, bI_o, i10, i01, eq_self, bI_nar, nar_0, nar_1, bI_t, bI_f, Option.some.injEq, exists_eq_left', true_and, and_true, forall_eq, not_true_eq_false, not_false_eq_true, forall_const, false_implies, true_implies, Classical.not_not, if_true, if_false, Int.reduceEq, Int.reduceLT, Int.reduceLE, Int.reduceGT, Int.reduceGE, Int.reduceAdd, Int.reduceSub, Int.reduceMul, Int.reduceNeg, Int.reduceNe, Bool.true_and, Bool.and_true, Bool.false_and, Bool.and_false, BEq.rfl, Bool.true_eq_false, Bool.false_eq_true, iI_le]
    cases d with
    | zero =>
      have : j = 67 := by omega
      subst this
      simp only [iI_lit, bI_z, bI_o, i10, i01, eq_self, bI_nar, nar_0, nar_1, bI_t, bI_f, true_and, and_true, forall_eq, not_true_eq_false, not_false_eq_true, forall_const, false_implies, true_implies, Classical.not_not, if_true, if_false, Int.reduceEq, Int.reduceLT, Int.reduceLE, Int.reduceGT, Int.reduceGE, Int.reduceAdd, Int.reduceSub, Int.reduceMul, Int.reduceNeg, Int.reduceNe, Bool.true_and, Bool.and_true, Bool.false_and, Bool.and_false, Bool.true_or, Bool.or_true, Bool.false_or, Bool.or_false, BEq.rfl, decide_true, decide_false, decide_eq_true_eq, Bool.false_eq_true, Bool.true_eq_false, Bool.not_true, Bool.not_false, allL] at k ⊢
      exact k
    | succ d =>
      have e : ¬ 67 ≤ j := by omega
      obtain ⟨r1, r2⟩ := hr j h0 (by omega)
      simp (discharger := omega) only [nlit, iI_lit, iI_add, iI_sub, iI_mul, iI_neg, bI_z, bI_o, i10, i01, eq_self, bI_nar, nar_0, nar_1, bI_t, bI_f, Option.some.injEq, exists_eq_left', true_and, and_true, forall_eq, not_true_eq_false, not_false_eq_true, forall_const, false_implies, true_implies, Classical.not_not, if_true, if_false, Int.reduceEq, Int.reduceLT, Int.reduceLE, Int.reduceGT, Int.reduceGE, Int.reduceAdd, Int.reduceSub, Int.reduceMul, Int.reduceNeg, Int.reduceNe, Bool.true_and, Bool.and_true, Bool.false_and, Bool.and_false, BEq.rfl, Bool.true_eq_false, Bool.false_eq_true, e]
      rw [x_n h hf, x_n h hg, x_i h hf (by omega) (by omega), x_i h hg (by omega) (by omega)]
      rw [show m f (a + j) = vec m f a j from (if_pos ⟨h0, by omega⟩).symm, show m g (b + j) = vec m g b j from (if_pos ⟨h0, by omega⟩).symm, iI_eq r1.1 r1.2 r2.1 r2.2]
      refine ⟨iI_in (by omega) (by omega) (by omega), iI_in (by omega) (by omega) (by omega), ?_⟩
      by_cases c : vec m f a j = vec m g b j
      · simp only [iI_lit, bI_z, bI_o, i10, i01, eq_self, bI_nar, nar_0, nar_1, bI_t, bI_f, true_and, and_true, forall_eq, not_true_eq_false, not_false_eq_true, forall_const, false_implies, true_implies, Classical.not_not, if_true, if_false, Int.reduceEq, Int.reduceLT, Int.reduceLE, Int.reduceGT, Int.reduceGE, Int.reduceAdd, Int.reduceSub, Int.reduceMul, Int.reduceNeg, Int.reduceNe, Bool.true_and, Bool.and_true, Bool.false_and, Bool.and_false, Bool.true_or, Bool.or_true, Bool.false_or, Bool.or_false, BEq.rfl, decide_true, decide_false, decide_eq_true_eq, Bool.false_eq_true, Bool.true_eq_false, Bool.not_true, Bool.not_false, allL, eq_true c] at k ⊢
        exact ih d (j + 1) (by omega) (by omega) (by omega) k
      · simp only [iI_lit, bI_z, bI_o, i10, i01, eq_self, bI_nar, nar_0, nar_1, bI_t, bI_f, true_and, and_true, forall_eq, not_true_eq_false, not_false_eq_true, forall_const, false_implies, true_implies, Classical.not_not, if_true, if_false, Int.reduceEq, Int.reduceLT, Int.reduceLE, Int.reduceGT, Int.reduceGE, Int.reduceAdd, Int.reduceSub, Int.reduceMul, Int.reduceNeg, Int.reduceNe, Bool.true_and, Bool.and_true, Bool.false_and, Bool.and_false, Bool.true_or, Bool.or_true, Bool.false_or, Bool.or_false, BEq.rfl, decide_true, decide_false, decide_eq_true_eq, Bool.false_eq_true, Bool.true_eq_false, Bool.not_true, Bool.not_false, allL, eq_false c] at k ⊢
        exact k
theorem q_isSame (h : XC D S x A) {f g : Nat} (hf : xIn f = true) (hg : xIn g = true) {a b : Int} (ha : 0 ≤ a ∧ a + 67 ≤ xLen f) (hb : 0 ≤ b ∧ b + 67 ≤ xLen g) (hl : xLen f < 1000000 ∧ xLen g < 1000000)
    (hr : ∀ j, 0 ≤ j → j < 67 → i32 (vec m f a j) ∧ i32 (vec m g b j)) (k : post (iI (bI (sameB (vec m f a) (vec m g b)))) (xS S x A m)) : wp_X12_isSame D post (xS S x A m) (A f) (iI a) (A g) (iI b) :=
  ⟨68, q_isSame_3 h hf hg ha hb hl hr 68 67 0 (by decide) (by decide) (by decide) k⟩
theorem q_stood_4 (h : XC D S x A) (hG : RG m F R) : ∀ (n d : Nat) (j s : Int), d < n → j + d = m 50 11 + 1 → 0 ≤ j →
    post (iI (s + sumL (fun k => if sameB (gv m k) (pv m) then 1 else 0) j d)) (xS S x A m) → wp_X12_stood_4 D post n (xS S x A m) x (iI s) (iI j) := by
  have hn := hG.b.n
  have hm := hG.m0
  intro n
  induction n with
  | zero => intro d j s hd; omega
  | succ n ih =>
    intro d j s hd hj h0 k
    unfold wp_X12_stood_4
    rw [x_i0]
    simp (discharger := omega) only [nlit, iI_lit, iI_add, iI_sub, iI_mul, iI_neg, bI_z, bI_o, i10, i01, eq_self, bI_nar, nar_0, nar_1, bI_t, bI_f, Option.some.injEq, exists_eq_left', true_and, and_true, forall_eq, not_true_eq_false, not_false_eq_true, forall_const, false_implies, true_implies, Classical.not_not, if_true, if_false, Int.reduceEq, Int.reduceLT, Int.reduceLE, Int.reduceGT, Int.reduceGE, Int.reduceAdd, Int.reduceSub, Int.reduceMul, Int.reduceNeg, Int.reduceNe, Bool.true_and, Bool.and_true, Bool.false_and, Bool.and_false, BEq.rfl, Bool.true_eq_false, Bool.false_eq_true, iI_lt]
    cases d with
    | zero =>
      have e : m 50 11 < j := by omega
      simp only [iI_lit, bI_z, bI_o, i10, i01, eq_self, bI_nar, nar_0, nar_1, bI_t, bI_f, true_and, and_true, forall_eq, not_true_eq_false, not_false_eq_true, forall_const, false_implies, true_implies, Classical.not_not, if_true, if_false, Int.reduceEq, Int.reduceLT, Int.reduceLE, Int.reduceGT, Int.reduceGE, Int.reduceAdd, Int.reduceSub, Int.reduceMul, Int.reduceNeg, Int.reduceNe, Bool.true_and, Bool.and_true, Bool.false_and, Bool.and_false, Bool.true_or, Bool.or_true, Bool.false_or, Bool.or_false, BEq.rfl, decide_true, decide_false, decide_eq_true_eq, Bool.false_eq_true, Bool.true_eq_false, Bool.not_true, Bool.not_false, sumL, e, Int.add_zero] at k ⊢
      exact k
    | succ d =>
      have e : ¬ m 50 11 < j := by omega
      simp (discharger := omega) only [nlit, iI_lit, iI_add, iI_sub, iI_mul, iI_neg, bI_z, bI_o, i10, i01, eq_self, bI_nar, nar_0, nar_1, bI_t, bI_f, Option.some.injEq, exists_eq_left', true_and, and_true, forall_eq, not_true_eq_false, not_false_eq_true, forall_const, false_implies, true_implies, Classical.not_not, if_true, if_false, Int.reduceEq, Int.reduceLT, Int.reduceLE, Int.reduceGT, Int.reduceGE, Int.reduceAdd, Int.reduceSub, Int.reduceMul, Int.reduceNeg, Int.reduceNe, Bool.true_and, Bool.and_true, Bool.false_and, Bool.and_false, BEq.rfl, Bool.true_eq_false, Bool.false_eq_true, e]
      simp (discharger := first | decide | omega) only [x_own h, x_kd h, x_r h, x_m h, x_l h, x_k h, x_n h, x_i0, x_i h, x_u0 h, x_u h, xLen, xKd, nlit, iI_lit, iI_add, iI_sub, iI_mul, iI_neg, bI_z, bI_o, i10, i01, eq_self, bI_nar, nar_0, nar_1, up_at, up_f, Option.some.injEq, exists_eq_left', true_and, and_true, forall_eq, not_true_eq_false, not_false_eq_true, forall_const, false_implies, true_implies, Classical.not_not, if_true, if_false, Int.reduceEq, Int.reduceLT, Int.reduceLE, Int.reduceGT, Int.reduceGE, Int.reduceAdd, Int.reduceSub, Int.reduceMul, Int.reduceNeg, Int.reduceNe]
      rw [q_presentAt]
      refine q_isSame (f := 8) (g := 8) h (by decide) (by decide) (by simp only [xLen]; omega) (by simp only [xLen]; omega) (by decide) (fun i h1 h2 => ⟨okV_i32 (hG.v j h0 (by omega)) hn.2 ⟨h1, h2⟩, okV_i32 hG.pv hn.2 ⟨h1, h2⟩⟩) ?_
      change (_ : Prop)
      have nx : ∀ t : Int, t = (if sameB (gv m j) (pv m) then 1 else 0) → wp_X12_stood_40 D post (wp_X12_stood_4 D post n) (xS S x A m) x (iI j) (iI s) (iI t) := by
        intro t ht
        simp (discharger := omega) only [nlit, iI_lit, iI_add, iI_sub, iI_mul, iI_neg, bI_z, bI_o, i10, i01, eq_self, bI_nar, nar_0, nar_1, bI_t, bI_f, Option.some.injEq, exists_eq_left', true_and, and_true, forall_eq, not_true_eq_false, not_false_eq_true, forall_const, false_implies, true_implies, Classical.not_not, if_true, if_false, Int.reduceEq, Int.reduceLT, Int.reduceLE, Int.reduceGT, Int.reduceGE, Int.reduceAdd, Int.reduceSub, Int.reduceMul, Int.reduceNeg, Int.reduceNe, Bool.true_and, Bool.and_true, Bool.false_and, Bool.and_false, BEq.rfl, Bool.true_eq_false, Bool.false_eq_true, wp_X12_stood_40]
        refine ih d (j + 1) (s + t) (by omega) (by omega) (by omega) ?_
        unfold sumL at k
        rw [← ht] at k
        rw [Int.add_assoc]; exact k
      rw [show vec m 8 (67 * j) = gv m j from rfl, show vec m 8 (67 * m 50 11) = pv m from rfl]
      try simp (discharger := omega) only [nlit, iI_lit, iI_add, iI_sub, iI_mul, iI_neg, bI_z, bI_o, i10, i01, eq_self, bI_nar, nar_0, nar_1, bI_t, bI_f, Option.some.injEq, exists_eq_left', true_and, and_true, forall_eq, not_true_eq_false, not_false_eq_true, forall_const, false_implies, true_implies, Classical.not_not, if_true, if_false, Int.reduceEq, Int.reduceLT, Int.reduceLE, Int.reduceGT, Int.reduceGE, Int.reduceAdd, Int.reduceSub, Int.reduceMul, Int.reduceNeg, Int.reduceNe, Bool.true_and, Bool.and_true, Bool.false_and, Bool.and_false, BEq.rfl, Bool.true_eq_false, Bool.false_eq_true]
      cases c : sameB (gv m j) (pv m)
      · try simp (discharger := omega) only [nlit, iI_lit, iI_add, iI_sub, iI_mul, iI_neg, bI_z, bI_o, i10, i01, eq_self, bI_nar, nar_0, nar_1, bI_t, bI_f, Option.some.injEq, exists_eq_left', true_and, and_true, forall_eq, not_true_eq_false, not_false_eq_true, forall_const, false_implies, true_implies, Classical.not_not, if_true, if_false, Int.reduceEq, Int.reduceLT, Int.reduceLE, Int.reduceGT, Int.reduceGE, Int.reduceAdd, Int.reduceSub, Int.reduceMul, Int.reduceNeg, Int.reduceNe, Bool.true_and, Bool.and_true, Bool.false_and, Bool.and_false, BEq.rfl, Bool.true_eq_false, Bool.false_eq_true]
        exact nx 0 (by simp [c])
      · try simp (discharger := omega) only [nlit, iI_lit, iI_add, iI_sub, iI_mul, iI_neg, bI_z, bI_o, i10, i01, eq_self, bI_nar, nar_0, nar_1, bI_t, bI_f, Option.some.injEq, exists_eq_left', true_and, and_true, forall_eq, not_true_eq_false, not_false_eq_true, forall_const, false_implies, true_implies, Classical.not_not, if_true, if_false, Int.reduceEq, Int.reduceLT, Int.reduceLE, Int.reduceGT, Int.reduceGE, Int.reduceAdd, Int.reduceSub, Int.reduceMul, Int.reduceNeg, Int.reduceNe, Bool.true_and, Bool.and_true, Bool.false_and, Bool.and_false, BEq.rfl, Bool.true_eq_false, Bool.false_eq_true]
        exact nx 1 (by simp [c])
theorem q_stood (h : XC D S x A) (hG : RG m F R) (k : post (iI (stoodB m)) (xS S x A m)) : wp_X12_stood D post (xS S x A m) x := by
  have hm := hG.m0
  refine ⟨82, ?_⟩
  refine q_stood_4 h hG 82 (m 50 11 + 1).toNat 0 0 (by omega) (by omega) (by omega) ?_
  rw [Int.zero_add]; exact k
theorem q_isDead_4 (h : XC D S x A) (hB : XB m F R) (hv : okV F R (lv m 0)) : ∀ (n d : Nat) (j s : Int), d < n → j + d = F * R → 0 ≤ j → (0 ≤ s ∧ s ≤ 2 * j) →
    post (iI (bI (decide (s + sumL (fun j => lightB (kindO (lv m 0 j))) j d ≤ 1)))) (xS S x A m) → wp_X12_isDead_4 D post n (xS S x A m) x (iI s) (iI j) := by
  have hn := hB.n
  intro n
  induction n with
  | zero => intro d j s hd; omega
  | succ n ih =>
    intro d j s hd hj h0 hs k
    unfold wp_X12_isDead_4
    rw [q_squares hB]
    simp (discharger := omega) only [nlit, iI_lit, iI_add, iI_sub, iI_mul, iI_neg, bI_z, bI_o, i10, i01, eq_self, bI_nar, nar_0, nar_1, bI_t, bI_f, Option.some.injEq, exists_eq_left', true_and, and_true, forall_eq, not_true_eq_false, not_false_eq_true, forall_const, false_implies, true_implies, Classical.not_not, if_true, if_false, Int.reduceEq, Int.reduceLT, Int.reduceLE, Int.reduceGT, Int.reduceGE, Int.reduceAdd, Int.reduceSub, Int.reduceMul, Int.reduceNeg, Int.reduceNe, Bool.true_and, Bool.and_true, Bool.false_and, Bool.and_false, BEq.rfl, Bool.true_eq_false, Bool.false_eq_true, iI_le, iI_lt, wp_X12_isDead_69, wp_X12_isDead_32, wp_X12_isDead_46]
    cases d with
    | zero =>
      have e : F * R ≤ j := by omega
      by_cases c : s ≤ 1
      · have c2 : ¬ 1 < s := by omega
        simp only [iI_lit, bI_z, bI_o, i10, i01, eq_self, bI_nar, nar_0, nar_1, bI_t, bI_f, true_and, and_true, forall_eq, not_true_eq_false, not_false_eq_true, forall_const, false_implies, true_implies, Classical.not_not, if_true, if_false, Int.reduceEq, Int.reduceLT, Int.reduceLE, Int.reduceGT, Int.reduceGE, Int.reduceAdd, Int.reduceSub, Int.reduceMul, Int.reduceNeg, Int.reduceNe, Bool.true_and, Bool.and_true, Bool.false_and, Bool.and_false, Bool.true_or, Bool.or_true, Bool.false_or, Bool.or_false, BEq.rfl, decide_true, decide_false, decide_eq_true_eq, Bool.false_eq_true, Bool.true_eq_false, Bool.not_true, Bool.not_false, sumL, e, Int.add_zero, c, c2] at k ⊢; exact k
      · have c2 : 1 < s := by omega
        simp only [iI_lit, bI_z, bI_o, i10, i01, eq_self, bI_nar, nar_0, nar_1, bI_t, bI_f, true_and, and_true, forall_eq, not_true_eq_false, not_false_eq_true, forall_const, false_implies, true_implies, Classical.not_not, if_true, if_false, Int.reduceEq, Int.reduceLT, Int.reduceLE, Int.reduceGT, Int.reduceGE, Int.reduceAdd, Int.reduceSub, Int.reduceMul, Int.reduceNeg, Int.reduceNe, Bool.true_and, Bool.and_true, Bool.false_and, Bool.and_false, Bool.true_or, Bool.or_true, Bool.false_or, Bool.or_false, BEq.rfl, decide_true, decide_false, decide_eq_true_eq, Bool.false_eq_true, Bool.true_eq_false, Bool.not_true, Bool.not_false, sumL, e, Int.add_zero, c, c2] at k ⊢; exact k
    | succ d =>
      have e : ¬ F * R ≤ j := by omega
      have hp := hv.p j h0 (by omega)
      have hk := kindO_r hp
      have nx : ∀ t : Int, t = lightB (kindO (lv m 0 j)) → wp_X12_isDead_51 D post (wp_X12_isDead_4 D post n) (xS S x A m) x (iI j) (iI s) (iI t) := by
        intro t ht
        have := lightB_r (kindO (lv m 0 j))
        simp (discharger := omega) only [nlit, iI_lit, iI_add, iI_sub, iI_mul, iI_neg, bI_z, bI_o, i10, i01, eq_self, bI_nar, nar_0, nar_1, bI_t, bI_f, Option.some.injEq, exists_eq_left', true_and, and_true, forall_eq, not_true_eq_false, not_false_eq_true, forall_const, false_implies, true_implies, Classical.not_not, if_true, if_false, Int.reduceEq, Int.reduceLT, Int.reduceLE, Int.reduceGT, Int.reduceGE, Int.reduceAdd, Int.reduceSub, Int.reduceMul, Int.reduceNeg, Int.reduceNe, Bool.true_and, Bool.and_true, Bool.false_and, Bool.and_false, BEq.rfl, Bool.true_eq_false, Bool.false_eq_true, wp_X12_isDead_51]
        refine ih d (j + 1) (s + t) (by omega) (by omega) (by omega) (by omega) ?_
        unfold sumL at k
        rw [← ht] at k
        rw [Int.add_assoc]; exact k
      simp (discharger := omega) only [nlit, iI_lit, iI_add, iI_sub, iI_mul, iI_neg, bI_z, bI_o, i10, i01, eq_self, bI_nar, nar_0, nar_1, bI_t, bI_f, Option.some.injEq, exists_eq_left', true_and, and_true, forall_eq, not_true_eq_false, not_false_eq_true, forall_const, false_implies, true_implies, Classical.not_not, if_true, if_false, Int.reduceEq, Int.reduceLT, Int.reduceLE, Int.reduceGT, Int.reduceGE, Int.reduceAdd, Int.reduceSub, Int.reduceMul, Int.reduceNeg, Int.reduceNe, Bool.true_and, Bool.and_true, Bool.false_and, Bool.and_false, BEq.rfl, Bool.true_eq_false, Bool.false_eq_true, e]
      rw [q_on h (by decide) (by omega) (by omega), q_kindOf hp]
      unfold lightB at nx
      simp (discharger := omega) only [nlit, iI_lit, iI_add, iI_sub, iI_mul, iI_neg, bI_z, bI_o, i10, i01, eq_self, bI_nar, nar_0, nar_1, bI_t, bI_f, Option.some.injEq, exists_eq_left', true_and, and_true, forall_eq, not_true_eq_false, not_false_eq_true, forall_const, false_implies, true_implies, Classical.not_not, if_true, if_false, Int.reduceEq, Int.reduceLT, Int.reduceLE, Int.reduceGT, Int.reduceGE, Int.reduceAdd, Int.reduceSub, Int.reduceMul, Int.reduceNeg, Int.reduceNe, Bool.true_and, Bool.and_true, Bool.false_and, Bool.and_false, BEq.rfl, Bool.true_eq_false, Bool.false_eq_true, iI_eq]
      generalize kindO (lv m 0 j) = kd at *
      rcases (show kd = 0 ∨ kd = 1 ∨ kd = 2 ∨ kd = 3 ∨ kd = 4 ∨ kd = 5 ∨ kd = 6 by omega) with rfl | rfl | rfl | rfl | rfl | rfl | rfl <;> (try simp (discharger := omega) only [nlit, iI_lit, iI_add, iI_sub, iI_mul, iI_neg, bI_z, bI_o, i10, i01, eq_self, bI_nar, nar_0, nar_1, bI_t, bI_f, Option.some.injEq, exists_eq_left', true_and, and_true, forall_eq, not_true_eq_false, not_false_eq_true, forall_const, false_implies, true_implies, Classical.not_not, if_true, if_false, Int.reduceEq, Int.reduceLT, Int.reduceLE, Int.reduceGT, Int.reduceGE, Int.reduceAdd, Int.reduceSub, Int.reduceMul, Int.reduceNeg, Int.reduceNe, Bool.true_and, Bool.and_true, Bool.false_and, Bool.and_false, BEq.rfl, Bool.true_eq_false, Bool.false_eq_true]) <;> exact nx _ rfl
theorem q_isDead (h : XC D S x A) (hB : XB m F R) (hv : okV F R (lv m 0)) (k : post (iI (bI (deadB F R (lv m 0)))) (xS S x A m)) : wp_X12_isDead D post (xS S x A m) x := by
  have hn := hB.n
  refine ⟨65, ?_⟩
  refine q_isDead_4 h hB hv 65 (F * R).toNat 0 0 (by omega) (by omega) (by omega) (by omega) ?_
  rw [Int.zero_add]; exact k
end
