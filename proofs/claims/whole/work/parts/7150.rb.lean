section
variable {D : wD} {S : wS} {x : Nat} {A : Nat → Nat} {m m0 : xM} {F R : Int} {GP : (Int → Int) → Prop} {v0 : Int → Int}
theorem wEnd_fuel (t : Int → Int) (len : Int) : ∀ (d n : Nat) (a : Int), a + d = len → d ≤ n → wEnd t len n a = wEnd t len d a := by
  intro d
  induction d with
  | zero =>
    intro n a h _
    cases n with
    | zero => rfl
    | succ n => unfold wEnd; rw [if_pos (Or.inl (by omega))]
  | succ d ih =>
    intro n a h hn
    cases n with
    | zero => omega
    | succ n => unfold wEnd; rw [ih n (a + 1) (by omega) (by omega)]
theorem nEnd_fuel (t : Int → Int) (len : Int) : ∀ (d n : Nat) (a : Int), a + d = len → d ≤ n → nEnd t len n a = nEnd t len d a := by
  intro d
  induction d with
  | zero =>
    intro n a h _
    cases n with
    | zero => rfl
    | succ n => unfold nEnd; rw [if_pos (Or.inl (by omega))]
  | succ d ih =>
    intro n a h hn
    cases n with
    | zero => omega
    | succ n => unfold nEnd; rw [ih n (a + 1) (by omega) (by omega)]
theorem q_standsNext {post : Int32 → wS → Prop} (h : XC D S x A) (hG : GPc F R GP) (hB : XB m0 F R) (hmd : 0 ≤ m0 50 11 ∧ m0 50 11 ≤ 80) {t : Int → Int} {len a : Int} (hx : TX m0 t len) (h13 : m 50 13 = len) (ha : 0 ≤ a ∧ a < len) (h32 : t a ≠ 32) {s : RD} (hR : RSq F R GP v0 m0 m a s) (h24 : m 50 24 = a) (h25 : m 50 25 = -1)
    (kn : ∀ f s', f ≠ -1 → (∀ n, rdM F R (m0 50 11) t len (n + 1) a s = (f, s')) → ∀ m', SIM m0 m' → m' 50 0 = m0 50 0 → m' 50 25 = f → post (iI 0) (xS S x A m'))
    (ks : ∀ s1 b, (∀ n, rdM F R (m0 50 11) t len (n + 1) a s = rdM F R (m0 50 11) t len n b s1) → a < b ∧ b ≤ len → ∀ m', RSq F R GP v0 m0 m' b s1 → m' 50 24 = b → m' 50 25 = -1 → m' 50 13 = len → post (iI 1) (xS S x A m')) : wp_X12_standsNext D post (xS S x A m) x := by
  have h5 := hx.1
  have ta := hx.2 a ha.1 ha.2
  have hxm : TX m t len := hx.row (hR.1.1.row rfl)
  have ia : vp_in (iI a) 500 := iI_in (by omega) (by omega) (by omega)
  have e25 : ∀ (mm : xM) (v : Int), uI (xS S x A mm) x 25 (iI v) = xS S x A (up mm 50 25 v) := fun mm v => x_u0 h 25 v
  have ln : ¬ len ≤ a := by omega
  unfold wp_X12_standsNext wp_X12_standsNext_0
  simp (discharger := first | decide | omega) only [x_own h, x_kd h, x_r h, x_m h, x_l h, x_k h, x_n h, x_i0, x_i h, x_u0 h, x_u h, xLen, xKd, nlit, iI_lit, iI_add, iI_sub, iI_mul, iI_neg, bI_z, bI_o, i10, i01, eq_self, bI_nar, nar_0, nar_1, up_at, up_f, Option.some.injEq, exists_eq_left', true_and, and_true, forall_eq, not_true_eq_false, not_false_eq_true, forall_const, false_implies, true_implies, Classical.not_not, if_true, if_false, Int.reduceEq, Int.reduceLT, Int.reduceLE, Int.reduceGT, Int.reduceGE, Int.reduceAdd, Int.reduceSub, Int.reduceMul, Int.reduceNeg, Int.reduceNe]
  rw [show m 50 24 = a from h24]
  simp (discharger := first | decide | omega) only [x_own h, x_kd h, x_r h, x_m h, x_l h, x_k h, x_n h, x_i0, x_i h, x_u0 h, x_u h, xLen, xKd, nlit, iI_lit, iI_add, iI_sub, iI_mul, iI_neg, bI_z, bI_o, i10, i01, eq_self, bI_nar, nar_0, nar_1, up_at, up_f, Option.some.injEq, exists_eq_left', true_and, and_true, forall_eq, not_true_eq_false, not_false_eq_true, forall_const, false_implies, true_implies, Classical.not_not, if_true, if_false, Int.reduceEq, Int.reduceLT, Int.reduceLE, Int.reduceGT, Int.reduceGE, Int.reduceAdd, Int.reduceSub, Int.reduceMul, Int.reduceNeg, Int.reduceNe, eq_true ia]
  rw [(hxm.2 a ha.1 ha.2).1]
  -- what a fault does
  have bad : ∀ m2 s', SIM m0 m2 → m2 50 0 = m0 50 0 → (∀ n, rdM F R (m0 50 11) t len (n + 1) a s = (a, s')) → wp_X12_standsNext_115 D post (xS S x A m2) x (iI a) := fun m2 s' q1 q2 q3 => by
    simp (discharger := omega) only [nlit, iI_lit, iI_add, iI_sub, iI_mul, iI_neg, bI_z, bI_o, i10, i01, eq_self, bI_nar, nar_0, nar_1, bI_t, bI_f, Option.some.injEq, exists_eq_left', true_and, and_true, forall_eq, not_true_eq_false, not_false_eq_true, forall_const, false_implies, true_implies, Classical.not_not, if_true, if_false, Int.reduceEq, Int.reduceLT, Int.reduceLE, Int.reduceGT, Int.reduceGE, Int.reduceAdd, Int.reduceSub, Int.reduceMul, Int.reduceNeg, Int.reduceNe, Bool.true_and, Bool.and_true, Bool.false_and, Bool.and_false, BEq.rfl, Bool.true_eq_false, Bool.false_eq_true, wp_X12_standsNext_115, e25]
    exact kn a s' (by omega) q3 _ (q1.up rfl) (by rw [up_ne _ (Or.inr (by decide))]; exact q2) (up_at _ _ _ _)
  cases cb : brkB (t a)
  · refine ⟨501, q_sN_25 h ⟨ta.2.1, ta.2.2⟩ cb 501 (len - (a + 1)).toNat (a + 1) _ (by omega) (by omega) (by omega) h5 (hxm.row (up_r _ _ _ rfl)) (up_at _ _ _ _) (by rw [up_ne _ (Or.inr (by decide))]; exact h13) (fun m1 ⟨w, hw⟩ q => ?_)⟩
    rw [← wEnd_fuel t len (len - (a + 1)).toNat 501 (a + 1) (by omega) (by omega)] at q
    have we := wEnd_r t len 501 (a + 1) (by omega)
    rw [up_up] at hw
    have hR1 : RSq F R GP v0 m0 m1 a s := by rw [hw]; exact hR.at (Or.inl rfl) _
    have n25 : m1 50 25 = -1 := by rw [hw, up_ne _ (Or.inr (by decide))]; exact h25
    have n13 : m1 50 13 = len := by rw [hw, up_ne _ (Or.inr (by decide))]; exact h13
    generalize hwe : wEnd t len 501 (a + 1) = e at q we
    unfold wp_X12_standsNext_85
    refine q_isBracket (by omega) ?_
    rw [cb]
    try simp (discharger := omega) only [nlit, iI_lit, iI_add, iI_sub, iI_mul, iI_neg, bI_z, bI_o, i10, i01, eq_self, bI_nar, nar_0, nar_1, bI_t, bI_f, Option.some.injEq, exists_eq_left', true_and, and_true, forall_eq, not_true_eq_false, not_false_eq_true, forall_const, false_implies, true_implies, Classical.not_not, if_true, if_false, Int.reduceEq, Int.reduceLT, Int.reduceLE, Int.reduceGT, Int.reduceGE, Int.reduceAdd, Int.reduceSub, Int.reduceMul, Int.reduceNeg, Int.reduceNe, Bool.true_and, Bool.and_true, Bool.false_and, Bool.and_false, BEq.rfl, Bool.true_eq_false, Bool.false_eq_true]
    simp (discharger := first | decide | omega) only [x_own h, x_kd h, x_r h, x_m h, x_l h, x_k h, x_n h, x_i0, x_i h, x_u0 h, x_u h, xLen, xKd, nlit, iI_lit, iI_add, iI_sub, iI_mul, iI_neg, bI_z, bI_o, i10, i01, eq_self, bI_nar, nar_0, nar_1, up_at, up_f, Option.some.injEq, exists_eq_left', true_and, and_true, forall_eq, not_true_eq_false, not_false_eq_true, forall_const, false_implies, true_implies, Classical.not_not, if_true, if_false, Int.reduceEq, Int.reduceLT, Int.reduceLE, Int.reduceGT, Int.reduceGE, Int.reduceAdd, Int.reduceSub, Int.reduceMul, Int.reduceNeg, Int.reduceNe]
    rw [show m1 50 24 = e from q]
    have stp : ∀ n, rdM F R (m0 50 11) t len (n + 1) a s = (match wordS F R (m0 50 11) t a e s with
      | none => (a, s)
      | some s1 => rdM F R (m0 50 11) t len n e s1) := fun n => by
      rw [rdM, if_neg ln, if_neg h32, if_neg (by rw [cb]; decide), hwe]
      cases wordS F R (m0 50 11) t a e s <;> rfl
    refine q_standsWord h hG hB hmd hx ⟨ha.1, by omega⟩ we.2 (Int.le_refl a) hR1 (fun z m2 q1 q2 q3 => ?_) (fun s1 z m2 q1 q3 => ?_)
    · try simp (discharger := omega) only [nlit, iI_lit, iI_add, iI_sub, iI_mul, iI_neg, bI_z, bI_o, i10, i01, eq_self, bI_nar, nar_0, nar_1, bI_t, bI_f, Option.some.injEq, exists_eq_left', true_and, and_true, forall_eq, not_true_eq_false, not_false_eq_true, forall_const, false_implies, true_implies, Classical.not_not, if_true, if_false, Int.reduceEq, Int.reduceLT, Int.reduceLE, Int.reduceGT, Int.reduceGE, Int.reduceAdd, Int.reduceSub, Int.reduceMul, Int.reduceNeg, Int.reduceNe, Bool.true_and, Bool.and_true, Bool.false_and, Bool.and_false, BEq.rfl, Bool.true_eq_false, Bool.false_eq_true]
      exact bad m2 s q1 q2 (fun n => by rw [stp, z])
    · have n123 : ¬ t a = 123 := by intro y; rw [y] at cb; exact absurd cb (by decide)
      simp (discharger := omega) only [nlit, iI_lit, iI_add, iI_sub, iI_mul, iI_neg, bI_z, bI_o, i10, i01, eq_self, bI_nar, nar_0, nar_1, bI_t, bI_f, Option.some.injEq, exists_eq_left', true_and, and_true, forall_eq, not_true_eq_false, not_false_eq_true, forall_const, false_implies, true_implies, Classical.not_not, if_true, if_false, Int.reduceEq, Int.reduceLT, Int.reduceLE, Int.reduceGT, Int.reduceGE, Int.reduceAdd, Int.reduceSub, Int.reduceMul, Int.reduceNeg, Int.reduceNe, Bool.true_and, Bool.and_true, Bool.false_and, Bool.and_false, BEq.rfl, Bool.true_eq_false, Bool.false_eq_true, wp_X12_standsNext_122]
      rw [iI_eq (by omega) (by omega) (by decide) (by decide)]
      simp (discharger := omega) only [nlit, iI_lit, iI_add, iI_sub, iI_mul, iI_neg, bI_z, bI_o, i10, i01, eq_self, bI_nar, nar_0, nar_1, bI_t, bI_f, Option.some.injEq, exists_eq_left', true_and, and_true, forall_eq, not_true_eq_false, not_false_eq_true, forall_const, false_implies, true_implies, Classical.not_not, if_true, if_false, Int.reduceEq, Int.reduceLT, Int.reduceLE, Int.reduceGT, Int.reduceGE, Int.reduceAdd, Int.reduceSub, Int.reduceMul, Int.reduceNeg, Int.reduceNe, Bool.true_and, Bool.and_true, Bool.false_and, Bool.and_false, BEq.rfl, Bool.true_eq_false, Bool.false_eq_true, n123]
      exact ks s1 e (fun n => by rw [stp, z]) (by omega) m2 q1 (by rw [q3.1]; exact q) (by rw [q3.2.1]; exact n25) (by rw [q3.2.2]; exact n13)
  · refine ⟨1, ?_⟩
    unfold wp_X12_standsNext_25
    refine q_isBracket (by omega) ?_
    rw [cb]
    simp (discharger := omega) only [nlit, iI_lit, iI_add, iI_sub, iI_mul, iI_neg, bI_z, bI_o, i10, i01, eq_self, bI_nar, nar_0, nar_1, bI_t, bI_f, Option.some.injEq, exists_eq_left', true_and, and_true, forall_eq, not_true_eq_false, not_false_eq_true, forall_const, false_implies, true_implies, Classical.not_not, if_true, if_false, Int.reduceEq, Int.reduceLT, Int.reduceLE, Int.reduceGT, Int.reduceGE, Int.reduceAdd, Int.reduceSub, Int.reduceMul, Int.reduceNeg, Int.reduceNe, Bool.true_and, Bool.and_true, Bool.false_and, Bool.and_false, BEq.rfl, Bool.true_eq_false, Bool.false_eq_true, wp_X12_standsNext_85]
    refine q_isBracket (by omega) ?_
    rw [cb]
    try simp (discharger := omega) only [nlit, iI_lit, iI_add, iI_sub, iI_mul, iI_neg, bI_z, bI_o, i10, i01, eq_self, bI_nar, nar_0, nar_1, bI_t, bI_f, Option.some.injEq, exists_eq_left', true_and, and_true, forall_eq, not_true_eq_false, not_false_eq_true, forall_const, false_implies, true_implies, Classical.not_not, if_true, if_false, Int.reduceEq, Int.reduceLT, Int.reduceLE, Int.reduceGT, Int.reduceGE, Int.reduceAdd, Int.reduceSub, Int.reduceMul, Int.reduceNeg, Int.reduceNe, Bool.true_and, Bool.and_true, Bool.false_and, Bool.and_false, BEq.rfl, Bool.true_eq_false, Bool.false_eq_true]
    have hR1 : RSq F R GP v0 m0 (up m 50 24 (a + 1)) a s := hR.at (Or.inl rfl) _
    have stp : ∀ n, rdM F R (m0 50 11) t len (n + 1) a s = (match brkS (t a) s with
      | none => (a, s)
      | some s1 => if t a = 123 then (if nEnd t len 501 (a + 1) = len then (len, s1) else rdM F R (m0 50 11) t len n (nEnd t len 501 (a + 1) + 1) s1) else rdM F R (m0 50 11) t len n (a + 1) s1) := fun n => by
      rw [rdM, if_neg ln, if_neg h32, if_pos cb]
      cases brkS (t a) s <;> rfl
    refine q_standsBracket h h5 ha (Int.le_refl a) hR1 ⟨ta.2.1, ta.2.2⟩ (fun z m2 q1 q2 q3 => ?_) (fun s1 z zc m2 q1 q3 => ?_) cb
    · try simp (discharger := omega) only [nlit, iI_lit, iI_add, iI_sub, iI_mul, iI_neg, bI_z, bI_o, i10, i01, eq_self, bI_nar, nar_0, nar_1, bI_t, bI_f, Option.some.injEq, exists_eq_left', true_and, and_true, forall_eq, not_true_eq_false, not_false_eq_true, forall_const, false_implies, true_implies, Classical.not_not, if_true, if_false, Int.reduceEq, Int.reduceLT, Int.reduceLE, Int.reduceGT, Int.reduceGE, Int.reduceAdd, Int.reduceSub, Int.reduceMul, Int.reduceNeg, Int.reduceNe, Bool.true_and, Bool.and_true, Bool.false_and, Bool.and_false, BEq.rfl, Bool.true_eq_false, Bool.false_eq_true]
      exact bad m2 s q1 q2 (fun n => by rw [stp, z])
    · have n24 : m2 50 24 = a + 1 := by rw [q3.1, up_at]
      have n25 : m2 50 25 = -1 := by rw [q3.2.1, up_ne _ (Or.inr (by decide))]; exact h25
      have n13 : m2 50 13 = len := by rw [q3.2.2, up_ne _ (Or.inr (by decide))]; exact h13
      simp (discharger := omega) only [nlit, iI_lit, iI_add, iI_sub, iI_mul, iI_neg, bI_z, bI_o, i10, i01, eq_self, bI_nar, nar_0, nar_1, bI_t, bI_f, Option.some.injEq, exists_eq_left', true_and, and_true, forall_eq, not_true_eq_false, not_false_eq_true, forall_const, false_implies, true_implies, Classical.not_not, if_true, if_false, Int.reduceEq, Int.reduceLT, Int.reduceLE, Int.reduceGT, Int.reduceGE, Int.reduceAdd, Int.reduceSub, Int.reduceMul, Int.reduceNeg, Int.reduceNe, Bool.true_and, Bool.and_true, Bool.false_and, Bool.and_false, BEq.rfl, Bool.true_eq_false, Bool.false_eq_true, wp_X12_standsNext_122]
      rw [iI_eq (by omega) (by omega) (by decide) (by decide)]
      by_cases c123 : t a = 123
      · simp (discharger := omega) only [nlit, iI_lit, iI_add, iI_sub, iI_mul, iI_neg, bI_z, bI_o, i10, i01, eq_self, bI_nar, nar_0, nar_1, bI_t, bI_f, Option.some.injEq, exists_eq_left', true_and, and_true, forall_eq, not_true_eq_false, not_false_eq_true, forall_const, false_implies, true_implies, Classical.not_not, if_true, if_false, Int.reduceEq, Int.reduceLT, Int.reduceLE, Int.reduceGT, Int.reduceGE, Int.reduceAdd, Int.reduceSub, Int.reduceMul, Int.reduceNeg, Int.reduceNe, Bool.true_and, Bool.and_true, Bool.false_and, Bool.and_false, BEq.rfl, Bool.true_eq_false, Bool.false_eq_true, c123]
        refine ⟨501, q_sN_130 h 501 (len - (a + 1)).toNat (a + 1) m2 (by omega) (by omega) (by omega) h5 (hx.row (q1.1.1.row rfl)) n24 n13 (fun m3 ⟨w, hw⟩ q => ?_)⟩
        rw [← nEnd_fuel t len (len - (a + 1)).toNat 501 (a + 1) (by omega) (by omega)] at q
        have ne := nEnd_r t len 501 (a + 1) (by omega)
        generalize hne : nEnd t len 501 (a + 1) = e at q ne stp
        have hR3 : RSq F R GP v0 m0 m3 (a + 1) s1 := by rw [hw]; exact q1.at (Or.inl rfl) _
        have p25 : m3 50 25 = -1 := by rw [hw, up_ne _ (Or.inr (by decide))]; exact n25
        have p13 : m3 50 13 = len := by rw [hw, up_ne _ (Or.inr (by decide))]; exact n13
        unfold wp_X12_standsNext_168
        simp (discharger := first | decide | omega) only [x_own h, x_kd h, x_r h, x_m h, x_l h, x_k h, x_n h, x_i0, x_i h, x_u0 h, x_u h, xLen, xKd, nlit, iI_lit, iI_add, iI_sub, iI_mul, iI_neg, bI_z, bI_o, i10, i01, eq_self, bI_nar, nar_0, nar_1, up_at, up_f, Option.some.injEq, exists_eq_left', true_and, and_true, forall_eq, not_true_eq_false, not_false_eq_true, forall_const, false_implies, true_implies, Classical.not_not, if_true, if_false, Int.reduceEq, Int.reduceLT, Int.reduceLE, Int.reduceGT, Int.reduceGE, Int.reduceAdd, Int.reduceSub, Int.reduceMul, Int.reduceNeg, Int.reduceNe]
        rw [show m3 50 24 = e from q, show m3 50 13 = len from p13, iI_eq (by omega) (by omega) (by omega) (by omega)]
        by_cases z2 : e = len
        · simp (discharger := omega) only [nlit, iI_lit, iI_add, iI_sub, iI_mul, iI_neg, bI_z, bI_o, i10, i01, eq_self, bI_nar, nar_0, nar_1, bI_t, bI_f, Option.some.injEq, exists_eq_left', true_and, and_true, forall_eq, not_true_eq_false, not_false_eq_true, forall_const, false_implies, true_implies, Classical.not_not, if_true, if_false, Int.reduceEq, Int.reduceLT, Int.reduceLE, Int.reduceGT, Int.reduceGE, Int.reduceAdd, Int.reduceSub, Int.reduceMul, Int.reduceNeg, Int.reduceNe, Bool.true_and, Bool.and_true, Bool.false_and, Bool.and_false, BEq.rfl, Bool.true_eq_false, Bool.false_eq_true, z2]
          exact kn len s1 (by omega) (fun n => by rw [stp, z]; dsimp only; rw [if_pos c123, if_pos z2]) _ (hR3.1.1.up rfl) (by rw [up_ne _ (Or.inr (by decide))]; exact hR3.1.2) (up_at _ _ _ _)
        · simp (discharger := omega) only [nlit, iI_lit, iI_add, iI_sub, iI_mul, iI_neg, bI_z, bI_o, i10, i01, eq_self, bI_nar, nar_0, nar_1, bI_t, bI_f, Option.some.injEq, exists_eq_left', true_and, and_true, forall_eq, not_true_eq_false, not_false_eq_true, forall_const, false_implies, true_implies, Classical.not_not, if_true, if_false, Int.reduceEq, Int.reduceLT, Int.reduceLE, Int.reduceGT, Int.reduceGE, Int.reduceAdd, Int.reduceSub, Int.reduceMul, Int.reduceNeg, Int.reduceNe, Bool.true_and, Bool.and_true, Bool.false_and, Bool.and_false, BEq.rfl, Bool.true_eq_false, Bool.false_eq_true, z2]
          exact ks s1 (e + 1) (fun n => by rw [stp, z]; dsimp only; rw [if_pos c123, if_neg z2]) (by omega) _ ((hR3.mono (by omega)).at (Or.inl rfl) _) (up_at _ _ _ _) (by rw [up_ne _ (Or.inr (by decide))]; exact p25) (by rw [up_ne _ (Or.inr (by decide))]; exact p13)
      · simp (discharger := omega) only [nlit, iI_lit, iI_add, iI_sub, iI_mul, iI_neg, bI_z, bI_o, i10, i01, eq_self, bI_nar, nar_0, nar_1, bI_t, bI_f, Option.some.injEq, exists_eq_left', true_and, and_true, forall_eq, not_true_eq_false, not_false_eq_true, forall_const, false_implies, true_implies, Classical.not_not, if_true, if_false, Int.reduceEq, Int.reduceLT, Int.reduceLE, Int.reduceGT, Int.reduceGE, Int.reduceAdd, Int.reduceSub, Int.reduceMul, Int.reduceNeg, Int.reduceNe, Bool.true_and, Bool.and_true, Bool.false_and, Bool.and_false, BEq.rfl, Bool.true_eq_false, Bool.false_eq_true, c123]
        exact ks s1 (a + 1) (fun n => by rw [stp, z]; dsimp only; rw [if_neg c123]) (by omega) m2 q1 n24 n25 n13
theorem rdM_fuel (F R made : Int) (t : Int → Int) {len : Int} (h5 : len ≤ 500) : ∀ (D n1 n2 : Nat) (b : Int) (s : RD), 0 ≤ b → b ≤ len → (len - b).toNat ≤ D → (len - b).toNat < n1 → (len - b).toNat < n2 → rdM F R made t len n1 b s = rdM F R made t len n2 b s := by
  intro D
  induction D with
  | zero =>
    intro n1 n2 b s h0 hb hD h1 h2
    obtain ⟨k1, rfl⟩ : ∃ e, n1 = e + 1 := ⟨n1 - 1, by omega⟩
    obtain ⟨k2, rfl⟩ : ∃ e, n2 = e + 1 := ⟨n2 - 1, by omega⟩
    have c : len ≤ b := by omega
    rw [rdM, rdM, if_pos c, if_pos c]
  | succ D ih =>
    intro n1 n2 b s h0 hb hD h1 h2
    obtain ⟨k1, rfl⟩ : ∃ e, n1 = e + 1 := ⟨n1 - 1, by omega⟩
    obtain ⟨k2, rfl⟩ : ∃ e, n2 = e + 1 := ⟨n2 - 1, by omega⟩
    rw [rdM, rdM]
    by_cases c : len ≤ b
    · rw [if_pos c, if_pos c]
    · rw [if_neg c, if_neg c]
      have we := wEnd_r t len 501 (b + 1) (by omega)
      have ne := nEnd_r t len 501 (b + 1) (by omega)
      have ih := fun b' s' (p : b < b') (q : b' ≤ len) => ih k1 k2 b' s' (by omega) q (by omega) (by omega) (by omega)
      rw [ih (b + 1) s (by omega) (by omega)]
      by_cases c2 : t b = 32
      · rw [if_pos c2, if_pos c2]
      · rw [if_neg c2, if_neg c2]
        by_cases c3 : brkB (t b) = true
        · rw [if_pos c3, if_pos c3]
          cases brkS (t b) s with
          | none => rfl
          | some s1 =>
            dsimp only
            rw [ih (b + 1) s1 (by omega) (by omega)]
            by_cases c4 : nEnd t len 501 (b + 1) = len
            · rw [if_pos c4, if_pos c4]
            · rw [ih (nEnd t len 501 (b + 1) + 1) s1 (by omega) (by omega)]
        · rw [if_neg c3, if_neg c3]
          cases wordS F R made t b (wEnd t len 501 (b + 1)) s with
          | none => rfl
          | some s1 => exact ih _ s1 (by omega) (by omega)
theorem rdM_r (F R made : Int) (t : Int → Int) {len : Int} (h0 : 0 ≤ len) : ∀ (n : Nat) (b : Int) (s : RD), 0 ≤ b → b ≤ len → -1 ≤ (rdM F R made t len n b s).1 ∧ (rdM F R made t len n b s).1 ≤ len := by
  intro n
  induction n with
  | zero => intro b s _ _; unfold rdM; dsimp only; omega
  | succ n ih =>
    intro b s hb hl
    rw [rdM]
    by_cases c : len ≤ b
    · rw [if_pos c]; dsimp only; split <;> omega
    · rw [if_neg c]
      have we := wEnd_r t len 501 (b + 1) (by omega)
      have ne := nEnd_r t len 501 (b + 1) (by omega)
      by_cases c2 : t b = 32
      · rw [if_pos c2]; exact ih _ _ (by omega) (by omega)
      · rw [if_neg c2]
        by_cases c3 : brkB (t b) = true
        · rw [if_pos c3]
          cases brkS (t b) s with
          | none => dsimp only; omega
          | some s1 =>
            dsimp only
            by_cases c5 : t b = 123
            · rw [if_pos c5]
              by_cases c4 : nEnd t len 501 (b + 1) = len
              · rw [if_pos c4]; dsimp only; omega
              · rw [if_neg c4]; exact ih _ _ (by omega) (by omega)
            · rw [if_neg c5]; exact ih _ _ (by omega) (by omega)
        · rw [if_neg c3]
          cases wordS F R made t b (wEnd t len 501 (b + 1)) s with
          | none => dsimp only; omega
          | some s1 => exact ih _ _ (by omega) (by omega)
theorem q_reads_58 {post : wS → Prop} (h : XC D S x A) (hG : GPc F R GP) (hB : XB m0 F R) (hmd : 0 ≤ m0 50 11 ∧ m0 50 11 ≤ 80) {t : Int → Int} {len : Int} (hx : TX m0 t len) {k54 : wS → Nat → Int32 → Prop} {res : Int × RD}
    (kf : ∀ f s', f ≠ -1 → res = (f, s') → ∀ m', SIM m0 m' → m' 50 0 = m0 50 0 → m' 50 25 = f → k54 (xS S x A m') x (iI 0)) {N : Nat}
    (ke : ∀ s m', (∀ n, rdM F R (m0 50 11) t len (n + 1) len s = res) → RSq F R GP v0 m0 m' len s → m' 50 24 = len → m' 50 25 = -1 → m' 50 13 = len → k54 (xS S x A m') x (iI 0))
    (kt : ∀ (s1 : RD) (b : Int) (d : Nat) (m' : xM), b + d = len → d < N → rdM F R (m0 50 11) t len (d + 1) b s1 = res → RSq F R GP v0 m0 m' b s1 → m' 50 24 = b → m' 50 25 = -1 → m' 50 13 = len → 0 ≤ b → k54 (xS S x A m') x (iI 1)) :
    ∀ (n d : Nat) (a : Int) (m : xM) (s : RD), d < n → d ≤ N → a + d = len → 0 ≤ a → rdM F R (m0 50 11) t len (d + 1) a s = res → RSq F R GP v0 m0 m a s → m 50 24 = a → m 50 25 = -1 → m 50 13 = len → wp_X12_reads_58 D post k54 n (xS S x A m) x := by
  have h5 := hx.1
  intro n
  induction n with
  | zero => intro d a m s hd; omega
  | succ n ih =>
    intro d a m s hd hN hj h0 hr hR h24 h25 h13
    have hxm : TX m t len := hx.row (hR.1.1.row rfl)
    have hl13 : 0 ≤ m 50 13 ∧ m 50 13 ≤ 500 := by rw [h13]; omega
    unfold wp_X12_reads_58
    simp (discharger := first | decide | omega) only [x_own h, x_kd h, x_r h, x_m h, x_l h, x_k h, x_n h, x_i0, x_i h, x_u0 h, x_u h, xLen, xKd, nlit, iI_lit, iI_add, iI_sub, iI_mul, iI_neg, bI_z, bI_o, i10, i01, eq_self, bI_nar, nar_0, nar_1, up_at, up_f, Option.some.injEq, exists_eq_left', true_and, and_true, forall_eq, not_true_eq_false, not_false_eq_true, forall_const, false_implies, true_implies, Classical.not_not, if_true, if_false, Int.reduceEq, Int.reduceLT, Int.reduceLE, Int.reduceGT, Int.reduceGE, Int.reduceAdd, Int.reduceSub, Int.reduceMul, Int.reduceNeg, Int.reduceNe]
    rw [show m 50 24 = a from h24]
    rw [q_textAt h hl13 ⟨h0, by omega⟩]
    have ec : txB m a = if a < len then t a else 0 := by
      unfold txB
      rw [h13]
      by_cases c : a < len
      · rw [if_pos c, if_pos c, (hxm.2 a h0 c).1]
      · rw [if_neg c, if_neg c]
    have hxr : 0 ≤ txB m a ∧ txB m a ≤ 255 := by
      rw [ec]; split
      · next c => exact (hx.2 a h0 c).2
      · decide
    rw [iI_eq (by omega) (by omega) (by decide) (by decide)]
    cases d with
    | zero =>
      have ea : a = len := by omega
      have n32 : ¬ txB m a = 32 := by rw [ec, if_neg (by omega)]; decide
      have c : len ≤ len := Int.le_refl _
      simp (discharger := omega) only [nlit, iI_lit, iI_add, iI_sub, iI_mul, iI_neg, bI_z, bI_o, i10, i01, eq_self, bI_nar, nar_0, nar_1, bI_t, bI_f, Option.some.injEq, exists_eq_left', true_and, and_true, forall_eq, not_true_eq_false, not_false_eq_true, forall_const, false_implies, true_implies, Classical.not_not, if_true, if_false, Int.reduceEq, Int.reduceLT, Int.reduceLE, Int.reduceGT, Int.reduceGE, Int.reduceAdd, Int.reduceSub, Int.reduceMul, Int.reduceNeg, Int.reduceNe, Bool.true_and, Bool.and_true, Bool.false_and, Bool.and_false, BEq.rfl, Bool.true_eq_false, Bool.false_eq_true, n32]
      simp (discharger := first | decide | omega) only [x_own h, x_kd h, x_r h, x_m h, x_l h, x_k h, x_n h, x_i0, x_i h, x_u0 h, x_u h, xLen, xKd, nlit, iI_lit, iI_add, iI_sub, iI_mul, iI_neg, bI_z, bI_o, i10, i01, eq_self, bI_nar, nar_0, nar_1, up_at, up_f, Option.some.injEq, exists_eq_left', true_and, and_true, forall_eq, not_true_eq_false, not_false_eq_true, forall_const, false_implies, true_implies, Classical.not_not, if_true, if_false, Int.reduceEq, Int.reduceLT, Int.reduceLE, Int.reduceGT, Int.reduceGE, Int.reduceAdd, Int.reduceSub, Int.reduceMul, Int.reduceNeg, Int.reduceNe]
      rw [show m 50 24 = a from h24, show m 50 13 = len from h13, iI_le (by omega) (by omega) (by omega) (by omega), ea]
      simp (discharger := omega) only [nlit, iI_lit, iI_add, iI_sub, iI_mul, iI_neg, bI_z, bI_o, i10, i01, eq_self, bI_nar, nar_0, nar_1, bI_t, bI_f, Option.some.injEq, exists_eq_left', true_and, and_true, forall_eq, not_true_eq_false, not_false_eq_true, forall_const, false_implies, true_implies, Classical.not_not, if_true, if_false, Int.reduceEq, Int.reduceLT, Int.reduceLE, Int.reduceGT, Int.reduceGE, Int.reduceAdd, Int.reduceSub, Int.reduceMul, Int.reduceNeg, Int.reduceNe, Bool.true_and, Bool.and_true, Bool.false_and, Bool.and_false, BEq.rfl, Bool.true_eq_false, Bool.false_eq_true, wp_X12_reads_106, wp_X12_reads_107, c]
      rw [ea] at hr hR h24
      refine ke s m (fun n => ?_) hR h24 h25 h13
      rw [← hr, rdM, rdM, if_pos c, if_pos c]
    | succ d =>
      have lt : a < len := by omega
      rw [if_pos lt] at ec
      have nl : ¬ len ≤ a := by omega
      by_cases c32 : txB m a = 32
      · simp (discharger := omega) only [nlit, iI_lit, iI_add, iI_sub, iI_mul, iI_neg, bI_z, bI_o, i10, i01, eq_self, bI_nar, nar_0, nar_1, bI_t, bI_f, Option.some.injEq, exists_eq_left', true_and, and_true, forall_eq, not_true_eq_false, not_false_eq_true, forall_const, false_implies, true_implies, Classical.not_not, if_true, if_false, Int.reduceEq, Int.reduceLT, Int.reduceLE, Int.reduceGT, Int.reduceGE, Int.reduceAdd, Int.reduceSub, Int.reduceMul, Int.reduceNeg, Int.reduceNe, Bool.true_and, Bool.and_true, Bool.false_and, Bool.and_false, BEq.rfl, Bool.true_eq_false, Bool.false_eq_true, c32]
        simp (discharger := first | decide | omega) only [x_own h, x_kd h, x_r h, x_m h, x_l h, x_k h, x_n h, x_i0, x_i h, x_u0 h, x_u h, xLen, xKd, nlit, iI_lit, iI_add, iI_sub, iI_mul, iI_neg, bI_z, bI_o, i10, i01, eq_self, bI_nar, nar_0, nar_1, up_at, up_f, Option.some.injEq, exists_eq_left', true_and, and_true, forall_eq, not_true_eq_false, not_false_eq_true, forall_const, false_implies, true_implies, Classical.not_not, if_true, if_false, Int.reduceEq, Int.reduceLT, Int.reduceLE, Int.reduceGT, Int.reduceGE, Int.reduceAdd, Int.reduceSub, Int.reduceMul, Int.reduceNeg, Int.reduceNe]
        rw [show m 50 24 = a from h24]
        try simp (discharger := omega) only [nlit, iI_lit, iI_add, iI_sub, iI_mul, iI_neg, bI_z, bI_o, i10, i01, eq_self, bI_nar, nar_0, nar_1, bI_t, bI_f, Option.some.injEq, exists_eq_left', true_and, and_true, forall_eq, not_true_eq_false, not_false_eq_true, forall_const, false_implies, true_implies, Classical.not_not, if_true, if_false, Int.reduceEq, Int.reduceLT, Int.reduceLE, Int.reduceGT, Int.reduceGE, Int.reduceAdd, Int.reduceSub, Int.reduceMul, Int.reduceNeg, Int.reduceNe, Bool.true_and, Bool.and_true, Bool.false_and, Bool.and_false, BEq.rfl, Bool.true_eq_false, Bool.false_eq_true]
        refine ih d (a + 1) _ s (by omega) (by omega) (by omega) (by omega) ?_ ((hR.mono (by omega)).at (Or.inl rfl) _) (up_at _ _ _ _) (by rw [up_ne _ (Or.inr (by decide))]; exact h25) (by rw [up_ne _ (Or.inr (by decide))]; exact h13)
        rw [← hr]
        conv => rhs; rw [rdM]
        rw [if_neg nl, if_pos (by rw [← ec]; exact c32)]
      · have n32 : t a ≠ 32 := by rw [← ec]; exact c32
        simp (discharger := omega) only [nlit, iI_lit, iI_add, iI_sub, iI_mul, iI_neg, bI_z, bI_o, i10, i01, eq_self, bI_nar, nar_0, nar_1, bI_t, bI_f, Option.some.injEq, exists_eq_left', true_and, and_true, forall_eq, not_true_eq_false, not_false_eq_true, forall_const, false_implies, true_implies, Classical.not_not, if_true, if_false, Int.reduceEq, Int.reduceLT, Int.reduceLE, Int.reduceGT, Int.reduceGE, Int.reduceAdd, Int.reduceSub, Int.reduceMul, Int.reduceNeg, Int.reduceNe, Bool.true_and, Bool.and_true, Bool.false_and, Bool.and_false, BEq.rfl, Bool.true_eq_false, Bool.false_eq_true, c32]
        simp (discharger := first | decide | omega) only [x_own h, x_kd h, x_r h, x_m h, x_l h, x_k h, x_n h, x_i0, x_i h, x_u0 h, x_u h, xLen, xKd, nlit, iI_lit, iI_add, iI_sub, iI_mul, iI_neg, bI_z, bI_o, i10, i01, eq_self, bI_nar, nar_0, nar_1, up_at, up_f, Option.some.injEq, exists_eq_left', true_and, and_true, forall_eq, not_true_eq_false, not_false_eq_true, forall_const, false_implies, true_implies, Classical.not_not, if_true, if_false, Int.reduceEq, Int.reduceLT, Int.reduceLE, Int.reduceGT, Int.reduceGE, Int.reduceAdd, Int.reduceSub, Int.reduceMul, Int.reduceNeg, Int.reduceNe]
        rw [show m 50 24 = a from h24, show m 50 13 = len from h13, iI_le (by omega) (by omega) (by omega) (by omega)]
        simp (discharger := omega) only [nlit, iI_lit, iI_add, iI_sub, iI_mul, iI_neg, bI_z, bI_o, i10, i01, eq_self, bI_nar, nar_0, nar_1, bI_t, bI_f, Option.some.injEq, exists_eq_left', true_and, and_true, forall_eq, not_true_eq_false, not_false_eq_true, forall_const, false_implies, true_implies, Classical.not_not, if_true, if_false, Int.reduceEq, Int.reduceLT, Int.reduceLE, Int.reduceGT, Int.reduceGE, Int.reduceAdd, Int.reduceSub, Int.reduceMul, Int.reduceNeg, Int.reduceNe, Bool.true_and, Bool.and_true, Bool.false_and, Bool.and_false, BEq.rfl, Bool.true_eq_false, Bool.false_eq_true, nl]
        refine q_standsNext h hG hB hmd hx h13 ⟨h0, lt⟩ n32 hR h24 h25 (fun f s' q1 q2 m' q3 q4 q5 => ?_) (fun s1 b q1 q2 m' q3 q4 q5 q6 => ?_)
        · simp (discharger := omega) only [nlit, iI_lit, iI_add, iI_sub, iI_mul, iI_neg, bI_z, bI_o, i10, i01, eq_self, bI_nar, nar_0, nar_1, bI_t, bI_f, Option.some.injEq, exists_eq_left', true_and, and_true, forall_eq, not_true_eq_false, not_false_eq_true, forall_const, false_implies, true_implies, Classical.not_not, if_true, if_false, Int.reduceEq, Int.reduceLT, Int.reduceLE, Int.reduceGT, Int.reduceGE, Int.reduceAdd, Int.reduceSub, Int.reduceMul, Int.reduceNeg, Int.reduceNe, Bool.true_and, Bool.and_true, Bool.false_and, Bool.and_false, BEq.rfl, Bool.true_eq_false, Bool.false_eq_true, wp_X12_reads_106, wp_X12_reads_107]
          exact kf f s' q1 (by rw [← hr]; exact q2 _) m' q3 q4 q5
        · simp (discharger := omega) only [nlit, iI_lit, iI_add, iI_sub, iI_mul, iI_neg, bI_z, bI_o, i10, i01, eq_self, bI_nar, nar_0, nar_1, bI_t, bI_f, Option.some.injEq, exists_eq_left', true_and, and_true, forall_eq, not_true_eq_false, not_false_eq_true, forall_const, false_implies, true_implies, Classical.not_not, if_true, if_false, Int.reduceEq, Int.reduceLT, Int.reduceLE, Int.reduceGT, Int.reduceGE, Int.reduceAdd, Int.reduceSub, Int.reduceMul, Int.reduceNeg, Int.reduceNe, Bool.true_and, Bool.and_true, Bool.false_and, Bool.and_false, BEq.rfl, Bool.true_eq_false, Bool.false_eq_true, wp_X12_reads_107]
          refine kt s1 b (len - b).toNat m' (by omega) (by omega) ?_ q3 q4 q5 q6 (by omega)
          rw [← hr, q1]
          exact rdM_fuel F R (m0 50 11) t h5 500 _ _ b s1 (by omega) (by omega) (by omega) (by omega) (by omega)
theorem q_reads_54 {post : wS → Prop} (h : XC D S x A) (hG : GPc F R GP) (hB : XB m0 F R) (hmd : 0 ≤ m0 50 11 ∧ m0 50 11 ≤ 80) {t : Int → Int} {len : Int} (hx : TX m0 t len) {res : Int × RD}
    (k0 : ∀ s', res.1 ≠ -1 → res = (res.1, s') → ∀ m', SIM m0 m' → m' 50 0 = m0 50 0 → m' 50 25 = res.1 → post (xS S x A m'))
    (k1 : res.1 = -1 → ∀ m', RSq F R GP v0 m0 m' len res.2 → m' 50 25 = -1 → post (xS S x A m')) :
    ∀ (f d : Nat) (a : Int) (m : xM) (s : RD), d + 1 < f → d ≤ 500 → a + d = len → 0 ≤ a → rdM F R (m0 50 11) t len (d + 1) a s = res → RSq F R GP v0 m0 m a s → m 50 24 = a → m 50 25 = -1 → m 50 13 = len → wp_X12_reads_54 D post f (xS S x A m) x (iI 1) := by
  have h5 := hx.1
  intro f
  induction f with
  | zero => intro d a m s hd; omega
  | succ f ih =>
    intro d a m s hd h500 hj h0 hr hR h24 h25 h13
    obtain ⟨g, rfl⟩ : ∃ g, f = g + 1 := ⟨f - 1, by omega⟩
    unfold wp_X12_reads_54
    try simp (discharger := omega) only [nlit, iI_lit, iI_add, iI_sub, iI_mul, iI_neg, bI_z, bI_o, i10, i01, eq_self, bI_nar, nar_0, nar_1, bI_t, bI_f, Option.some.injEq, exists_eq_left', true_and, and_true, forall_eq, not_true_eq_false, not_false_eq_true, forall_const, false_implies, true_implies, Classical.not_not, if_true, if_false, Int.reduceEq, Int.reduceLT, Int.reduceLE, Int.reduceGT, Int.reduceGE, Int.reduceAdd, Int.reduceSub, Int.reduceMul, Int.reduceNeg, Int.reduceNe, Bool.true_and, Bool.and_true, Bool.false_and, Bool.and_false, BEq.rfl, Bool.true_eq_false, Bool.false_eq_true]
    refine ⟨502, q_reads_58 (N := d) h hG hB hmd hx (fun f s' q1 q2 m' q3 q4 q5 => ?_) (fun s m' q1 q3 q4 q5 q6 => ?_) (fun s1 b d' m' q0 q1 q2 q3 q4 q5 q6 q7 => ih d' b m' s1 (by omega) (by omega) q0 q7 q2 q3 q4 q5 q6) 502 d a m s (by omega) (Nat.le_refl _) hj h0 hr hR h24 h25 h13⟩
    · unfold wp_X12_reads_54
      have e1 : res.1 = f := by rw [q2]
      have hfr : i32 f := by
        have := rdM_r F R (m0 50 11) t (len := len) (by omega) (d + 1) a s h0 (by omega)
        rw [hr, e1] at this
        omega
      simp (discharger := first | decide | omega) only [x_own h, x_kd h, x_r h, x_m h, x_l h, x_k h, x_n h, x_i0, x_i h, x_u0 h, x_u h, xLen, xKd, nlit, iI_lit, iI_add, iI_sub, iI_mul, iI_neg, bI_z, bI_o, i10, i01, eq_self, bI_nar, nar_0, nar_1, up_at, up_f, Option.some.injEq, exists_eq_left', true_and, and_true, forall_eq, not_true_eq_false, not_false_eq_true, forall_const, false_implies, true_implies, Classical.not_not, if_true, if_false, Int.reduceEq, Int.reduceLT, Int.reduceLE, Int.reduceGT, Int.reduceGE, Int.reduceAdd, Int.reduceSub, Int.reduceMul, Int.reduceNeg, Int.reduceNe]
      rw [show m' 50 25 = f from q5, iI_eq hfr.1 hfr.2 (by decide) (by decide)]
      simp (discharger := omega) only [nlit, iI_lit, iI_add, iI_sub, iI_mul, iI_neg, bI_z, bI_o, i10, i01, eq_self, bI_nar, nar_0, nar_1, bI_t, bI_f, Option.some.injEq, exists_eq_left', true_and, and_true, forall_eq, not_true_eq_false, not_false_eq_true, forall_const, false_implies, true_implies, Classical.not_not, if_true, if_false, Int.reduceEq, Int.reduceLT, Int.reduceLE, Int.reduceGT, Int.reduceGE, Int.reduceAdd, Int.reduceSub, Int.reduceMul, Int.reduceNeg, Int.reduceNe, Bool.true_and, Bool.and_true, Bool.false_and, Bool.and_false, BEq.rfl, Bool.true_eq_false, Bool.false_eq_true, q1, wp_X12_reads_131]
      simp (discharger := first | decide | omega) only [x_own h, x_kd h, x_r h, x_m h, x_l h, x_k h, x_n h, x_i0, x_i h, x_u0 h, x_u h, xLen, xKd, nlit, iI_lit, iI_add, iI_sub, iI_mul, iI_neg, bI_z, bI_o, i10, i01, eq_self, bI_nar, nar_0, nar_1, up_at, up_f, Option.some.injEq, exists_eq_left', true_and, and_true, forall_eq, not_true_eq_false, not_false_eq_true, forall_const, false_implies, true_implies, Classical.not_not, if_true, if_false, Int.reduceEq, Int.reduceLT, Int.reduceLE, Int.reduceGT, Int.reduceGE, Int.reduceAdd, Int.reduceSub, Int.reduceMul, Int.reduceNeg, Int.reduceNe]
      rw [show m' 50 25 = f from q5, iI_eq hfr.1 hfr.2 (by decide) (by decide)]
      simp (discharger := omega) only [nlit, iI_lit, iI_add, iI_sub, iI_mul, iI_neg, bI_z, bI_o, i10, i01, eq_self, bI_nar, nar_0, nar_1, bI_t, bI_f, Option.some.injEq, exists_eq_left', true_and, and_true, forall_eq, not_true_eq_false, not_false_eq_true, forall_const, false_implies, true_implies, Classical.not_not, if_true, if_false, Int.reduceEq, Int.reduceLT, Int.reduceLE, Int.reduceGT, Int.reduceGE, Int.reduceAdd, Int.reduceSub, Int.reduceMul, Int.reduceNeg, Int.reduceNe, Bool.true_and, Bool.and_true, Bool.false_and, Bool.and_false, BEq.rfl, Bool.true_eq_false, Bool.false_eq_true, q1, wp_X12_reads_161]
      exact k0 s' (by rw [e1]; exact q1) (by rw [e1]; exact q2) m' q3 q4 (by rw [e1]; exact q5)
    · have hres := q1 0
      rw [rdM, if_pos (Int.le_refl _)] at hres
      have r2 := q3.2.1
      have r28 := q3.2.2.1.2.1
      unfold wp_X12_reads_54
      have nlt : len ≤ len := Int.le_refl _
      simp (discharger := first | decide | omega) only [x_own h, x_kd h, x_r h, x_m h, x_l h, x_k h, x_n h, x_i0, x_i h, x_u0 h, x_u h, xLen, xKd, nlit, iI_lit, iI_add, iI_sub, iI_mul, iI_neg, bI_z, bI_o, i10, i01, eq_self, bI_nar, nar_0, nar_1, up_at, up_f, Option.some.injEq, exists_eq_left', true_and, and_true, forall_eq, not_true_eq_false, not_false_eq_true, forall_const, false_implies, true_implies, Classical.not_not, if_true, if_false, Int.reduceEq, Int.reduceLT, Int.reduceLE, Int.reduceGT, Int.reduceGE, Int.reduceAdd, Int.reduceSub, Int.reduceMul, Int.reduceNeg, Int.reduceNe]
      rw [show m' 50 25 = -1 from q5, show m' 50 24 = len from q4, show m' 50 13 = len from q6, iI_le (by omega) (by omega) (by omega) (by omega)]
      simp (discharger := omega) only [nlit, iI_lit, iI_add, iI_sub, iI_mul, iI_neg, bI_z, bI_o, i10, i01, eq_self, bI_nar, nar_0, nar_1, bI_t, bI_f, Option.some.injEq, exists_eq_left', true_and, and_true, forall_eq, not_true_eq_false, not_false_eq_true, forall_const, false_implies, true_implies, Classical.not_not, if_true, if_false, Int.reduceEq, Int.reduceLT, Int.reduceLE, Int.reduceGT, Int.reduceGE, Int.reduceAdd, Int.reduceSub, Int.reduceMul, Int.reduceNeg, Int.reduceNe, Bool.true_and, Bool.and_true, Bool.false_and, Bool.and_false, BEq.rfl, Bool.true_eq_false, Bool.false_eq_true, nlt, wp_X12_reads_131]
      simp (discharger := first | decide | omega) only [x_own h, x_kd h, x_r h, x_m h, x_l h, x_k h, x_n h, x_i0, x_i h, x_u0 h, x_u h, xLen, xKd, nlit, iI_lit, iI_add, iI_sub, iI_mul, iI_neg, bI_z, bI_o, i10, i01, eq_self, bI_nar, nar_0, nar_1, up_at, up_f, Option.some.injEq, exists_eq_left', true_and, and_true, forall_eq, not_true_eq_false, not_false_eq_true, forall_const, false_implies, true_implies, Classical.not_not, if_true, if_false, Int.reduceEq, Int.reduceLT, Int.reduceLE, Int.reduceGT, Int.reduceGE, Int.reduceAdd, Int.reduceSub, Int.reduceMul, Int.reduceNeg, Int.reduceNe]
      rw [show m' 50 25 = -1 from q5, show m' 50 27 = s.1 from r2.1, show m' 50 28 = bI s.2.2.2.2.2.2.1 from r28]
      simp (discharger := omega) only [nlit, iI_lit, iI_add, iI_sub, iI_mul, iI_neg, bI_z, bI_o, i10, i01, eq_self, bI_nar, nar_0, nar_1, bI_t, bI_f, Option.some.injEq, exists_eq_left', true_and, and_true, forall_eq, not_true_eq_false, not_false_eq_true, forall_const, false_implies, true_implies, Classical.not_not, if_true, if_false, Int.reduceEq, Int.reduceLT, Int.reduceLE, Int.reduceGT, Int.reduceGE, Int.reduceAdd, Int.reduceSub, Int.reduceMul, Int.reduceNeg, Int.reduceNe, Bool.true_and, Bool.and_true, Bool.false_and, Bool.and_false, BEq.rfl, Bool.true_eq_false, Bool.false_eq_true, iI_lt]
      have flt : 0 < s.1 ∨ s.2.2.2.2.2.2.1 = true → wp_X12_reads_153 D post (xS S x A m') x := fun z => by
        rw [if_pos z] at hres
        unfold wp_X12_reads_153
        simp (discharger := first | decide | omega) only [x_own h, x_kd h, x_r h, x_m h, x_l h, x_k h, x_n h, x_i0, x_i h, x_u0 h, x_u h, xLen, xKd, nlit, iI_lit, iI_add, iI_sub, iI_mul, iI_neg, bI_z, bI_o, i10, i01, eq_self, bI_nar, nar_0, nar_1, up_at, up_f, Option.some.injEq, exists_eq_left', true_and, and_true, forall_eq, not_true_eq_false, not_false_eq_true, forall_const, false_implies, true_implies, Classical.not_not, if_true, if_false, Int.reduceEq, Int.reduceLT, Int.reduceLE, Int.reduceGT, Int.reduceGE, Int.reduceAdd, Int.reduceSub, Int.reduceMul, Int.reduceNeg, Int.reduceNe]
        rw [show m' 50 13 = len from q6]
        simp (discharger := omega) only [nlit, iI_lit, iI_add, iI_sub, iI_mul, iI_neg, bI_z, bI_o, i10, i01, eq_self, bI_nar, nar_0, nar_1, bI_t, bI_f, Option.some.injEq, exists_eq_left', true_and, and_true, forall_eq, not_true_eq_false, not_false_eq_true, forall_const, false_implies, true_implies, Classical.not_not, if_true, if_false, Int.reduceEq, Int.reduceLT, Int.reduceLE, Int.reduceGT, Int.reduceGE, Int.reduceAdd, Int.reduceSub, Int.reduceMul, Int.reduceNeg, Int.reduceNe, Bool.true_and, Bool.and_true, Bool.false_and, Bool.and_false, BEq.rfl, Bool.true_eq_false, Bool.false_eq_true, wp_X12_reads_161]
        have e1 : res.1 = len := by rw [← hres]
        exact k0 s (by rw [e1]; omega) (by rw [e1]; exact hres.symm) _ (q3.1.1.up rfl) (by rw [up_ne _ (Or.inr (by decide))]; exact q3.1.2) (by rw [up_at, e1])
      by_cases c : 0 < s.1
      · simp (discharger := omega) only [nlit, iI_lit, iI_add, iI_sub, iI_mul, iI_neg, bI_z, bI_o, i10, i01, eq_self, bI_nar, nar_0, nar_1, bI_t, bI_f, Option.some.injEq, exists_eq_left', true_and, and_true, forall_eq, not_true_eq_false, not_false_eq_true, forall_const, false_implies, true_implies, Classical.not_not, if_true, if_false, Int.reduceEq, Int.reduceLT, Int.reduceLE, Int.reduceGT, Int.reduceGE, Int.reduceAdd, Int.reduceSub, Int.reduceMul, Int.reduceNeg, Int.reduceNe, Bool.true_and, Bool.and_true, Bool.false_and, Bool.and_false, BEq.rfl, Bool.true_eq_false, Bool.false_eq_true, c]
        exact flt (Or.inl c)
      · simp (discharger := omega) only [nlit, iI_lit, iI_add, iI_sub, iI_mul, iI_neg, bI_z, bI_o, i10, i01, eq_self, bI_nar, nar_0, nar_1, bI_t, bI_f, Option.some.injEq, exists_eq_left', true_and, and_true, forall_eq, not_true_eq_false, not_false_eq_true, forall_const, false_implies, true_implies, Classical.not_not, if_true, if_false, Int.reduceEq, Int.reduceLT, Int.reduceLE, Int.reduceGT, Int.reduceGE, Int.reduceAdd, Int.reduceSub, Int.reduceMul, Int.reduceNeg, Int.reduceNe, Bool.true_and, Bool.and_true, Bool.false_and, Bool.and_false, BEq.rfl, Bool.true_eq_false, Bool.false_eq_true, c]
        cases c2 : s.2.2.2.2.2.2.1
        · simp (discharger := omega) only [nlit, iI_lit, iI_add, iI_sub, iI_mul, iI_neg, bI_z, bI_o, i10, i01, eq_self, bI_nar, nar_0, nar_1, bI_t, bI_f, Option.some.injEq, exists_eq_left', true_and, and_true, forall_eq, not_true_eq_false, not_false_eq_true, forall_const, false_implies, true_implies, Classical.not_not, if_true, if_false, Int.reduceEq, Int.reduceLT, Int.reduceLE, Int.reduceGT, Int.reduceGE, Int.reduceAdd, Int.reduceSub, Int.reduceMul, Int.reduceNeg, Int.reduceNe, Bool.true_and, Bool.and_true, Bool.false_and, Bool.and_false, BEq.rfl, Bool.true_eq_false, Bool.false_eq_true, wp_X12_reads_161]
          rw [if_neg (by rw [c2]; simp; omega)] at hres
          have e1 : res.1 = -1 := by rw [← hres]
          have e2 : res.2 = s := by rw [← hres]
          exact k1 e1 m' (by rw [e2]; exact q3) q5
        · try simp (discharger := omega) only [nlit, iI_lit, iI_add, iI_sub, iI_mul, iI_neg, bI_z, bI_o, i10, i01, eq_self, bI_nar, nar_0, nar_1, bI_t, bI_f, Option.some.injEq, exists_eq_left', true_and, and_true, forall_eq, not_true_eq_false, not_false_eq_true, forall_const, false_implies, true_implies, Classical.not_not, if_true, if_false, Int.reduceEq, Int.reduceLT, Int.reduceLE, Int.reduceGT, Int.reduceGE, Int.reduceAdd, Int.reduceSub, Int.reduceMul, Int.reduceNeg, Int.reduceNe, Bool.true_and, Bool.and_true, Bool.false_and, Bool.and_false, BEq.rfl, Bool.true_eq_false, Bool.false_eq_true]
          exact flt (Or.inr c2)
end
