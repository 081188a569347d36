/-- the same, but for letters and what stands behind level 0 -/
def scrN (m m' : xM) : Prop := ∀ r j, ¬ (r = 3 ∧ 67 ≤ j) → ¬ ((r = 4 ∨ r = 5 ∨ r = 6) ∧ 320 ≤ j) → ¬ (r = 7 ∧ 1 ≤ j) → r ≠ 17 → r ≠ 18 → m' r j = m r j
theorem scrN.rf (m : xM) : scrN m m := fun _ _ _ _ _ _ _ => rfl
theorem scrN.tr {m m' m'' : xM} (h : scrN m m') (h' : scrN m' m'') : scrN m m'' := fun r j a b c d e => (h' r j a b c d e).trans (h r j a b c d e)
theorem scrN.of {m m' : xM} (h : scr m m') : scrN m m' := fun r j a b c _ _ => h r j a b c
theorem scrN.sp (m : xM) (k : Int) (W : List Int) : scrN m (spM m k W) := fun r j _ _ _ d e => by unfold spM; rw [if_neg (by omega), if_neg (by omega)]
theorem scrN.row {m m' : xM} (h : scrN m m') {r : Nat} (hr : (r == 3 || r == 7 || r == 4 || r == 5 || r == 6 || r == 17 || r == 18) = false) : m' r = m r := by
  simp at hr
  funext j
  exact h r j (by omega) (by omega) (by omega) (by omega) (by omega)
theorem scrN.lv {m m' : xM} (h : scrN m m') : lv m' 0 = lv m 0 := lv_cell fun j h1 h2 => h 3 j (by omega) (by omega) (by omega) (by decide) (by decide)
theorem scrN.Ls {m m' : xM} (h : scrN m m') {L : List Mv} (hL : Ls m L) (hn : L.length ≤ 320) : Ls m' L :=
  ⟨(h 7 0 (by omega) (by omega) (by omega) (by decide) (by decide)).trans hL.1, fun k h1 h2 r hr => (h r k (by omega) (by omega) (by omega) (by omega) (by omega)).trans (hL.2 k h1 h2 r hr)⟩
section
variable {D : wD} {S : wS} {x : Nat} {A : Nat → Nat} {m : xM} {F R : Int} {post : Int32 → wS → Prop}
theorem scrN.XB {m' : xM} (h : scrN m m') (hB : XB m F R) : XB m' F R := ⟨by rw [h.row rfl]; exact hB.1, by rw [h.row rfl]; exact hB.2.1, hB.2.2⟩
theorem q_areL_36 (h : XC D S x A) (hB : XB m F R) {v : Int → Int} (hlv : lv m 0 = v) (hv : okV F R v) (hL : Ls m (movesL F R v)) (hLn : (movesL F R v).length ≤ 320) {k : Int} {u : Mv} (hk : 0 ≤ k ∧ k < (movesL F R v).length) (hu : u = (movesL F R v).getD k.toNat (0, 0, 0)) (hst : stOK F R (mkT F R v u))
    {t : Int → Int} {len a e : Int} (hx : TX m t len) (ha : 0 ≤ a) (he : e ≤ len) {W : List Int} (hW : W.length ≤ 8) (hWi : ∀ c ∈ W, 0 ≤ c ∧ c < 300) (hWm : ∀ i : Int, 0 ≤ i → i < W.length → m 17 (12 * k + i) = W.getD i.toNat 0) (hae : e - a = W.length ∨ e - a = W.length + 1)
    (hn8 : endC F R (mkT F R v u) = 0 ∨ endC F R (mkT F R v u) = 35 ∨ endC F R (mkT F R v u) = 43) :
    ∀ (n d : Nat) (j : Int), d < n → j + d = W.length → 0 ≤ j →
    (∀ b : Bool, b = (allL (fun k => decide (W.getD k.toNat 0 = t (a + k))) j d && (decide (e - a = W.length) || decide (endC F R (mkT F R v u) = t (a + W.length)))) → ∀ m', scrN m m' → post (iI (bI b)) (xS S x A m')) →
    wp_X12_areLetters_36 D post n (xS S x A m) x (iI k) (iI a) (iI e) (iI W.length) (iI j) := by
  have h5 := hx.1
  intro n
  induction n with
  | zero => intro d j hd; omega
  | succ n ih =>
    intro d j hd hj h0 kk
    unfold wp_X12_areLetters_36
    simp (discharger := omega) only [nlit, iI_lit, iI_add, iI_sub, iI_mul, iI_neg, bI_z, bI_o, i10, i01, eq_self, bI_nar, nar_0, nar_1, bI_t, bI_f, Option.some.injEq, exists_eq_left', true_and, and_true, forall_eq, not_true_eq_false, not_false_eq_true, forall_const, false_implies, true_implies, Classical.not_not, if_true, if_false, Int.reduceEq, Int.reduceLT, Int.reduceLE, Int.reduceGT, Int.reduceGE, Int.reduceAdd, Int.reduceSub, Int.reduceMul, Int.reduceNeg, Int.reduceNe, Bool.true_and, Bool.and_true, Bool.false_and, Bool.and_false, BEq.rfl, Bool.true_eq_false, Bool.false_eq_true, iI_le]
    cases d with
    | zero =>
      have c : (W.length : Int) ≤ j := by omega
      simp (discharger := omega) only [nlit, iI_lit, iI_add, iI_sub, iI_mul, iI_neg, bI_z, bI_o, i10, i01, eq_self, bI_nar, nar_0, nar_1, bI_t, bI_f, Option.some.injEq, exists_eq_left', true_and, and_true, forall_eq, not_true_eq_false, not_false_eq_true, forall_const, false_implies, true_implies, Classical.not_not, if_true, if_false, Int.reduceEq, Int.reduceLT, Int.reduceLE, Int.reduceGT, Int.reduceGE, Int.reduceAdd, Int.reduceSub, Int.reduceMul, Int.reduceNeg, Int.reduceNe, Bool.true_and, Bool.and_true, Bool.false_and, Bool.and_false, BEq.rfl, Bool.true_eq_false, Bool.false_eq_true, c]
      unfold allL at kk
      rw [iI_eq (by omega) (by omega) (by omega) (by omega)]
      by_cases z : e - a = W.length
      · rw [decide_eq_true z] at kk
        simp (discharger := omega) only [nlit, iI_lit, iI_add, iI_sub, iI_mul, iI_neg, bI_z, bI_o, i10, i01, eq_self, bI_nar, nar_0, nar_1, bI_t, bI_f, Option.some.injEq, exists_eq_left', true_and, and_true, forall_eq, not_true_eq_false, not_false_eq_true, forall_const, false_implies, true_implies, Classical.not_not, if_true, if_false, Int.reduceEq, Int.reduceLT, Int.reduceLE, Int.reduceGT, Int.reduceGE, Int.reduceAdd, Int.reduceSub, Int.reduceMul, Int.reduceNeg, Int.reduceNe, Bool.true_and, Bool.and_true, Bool.false_and, Bool.and_false, BEq.rfl, Bool.true_eq_false, Bool.false_eq_true, z, wp_X12_areLetters_100, wp_X12_areLetters_105]
        exact kk true rfl m (scrN.rf m)
      · rw [decide_eq_false z] at kk
        have z1 : e - a = W.length + 1 := by omega
        simp (discharger := omega) only [nlit, iI_lit, iI_add, iI_sub, iI_mul, iI_neg, bI_z, bI_o, i10, i01, eq_self, bI_nar, nar_0, nar_1, bI_t, bI_f, Option.some.injEq, exists_eq_left', true_and, and_true, forall_eq, not_true_eq_false, not_false_eq_true, forall_const, false_implies, true_implies, Classical.not_not, if_true, if_false, Int.reduceEq, Int.reduceLT, Int.reduceLE, Int.reduceGT, Int.reduceGE, Int.reduceAdd, Int.reduceSub, Int.reduceMul, Int.reduceNeg, Int.reduceNe, Bool.true_and, Bool.and_true, Bool.false_and, Bool.and_false, BEq.rfl, Bool.true_eq_false, Bool.false_eq_true, z]
        have iw : vp_in (iI (a + W.length)) 500 := iI_in (by omega) (by omega) (by omega)
        have tw := hx.2 (a + W.length) (by omega) (by omega)
        have els := Ls_lsM hL
        have q : ∀ post : Int32 → wS → Prop, (∀ m', scr m m' → post (iI (endC F R (mkT F R v u))) (xS S x A m')) → wp_X12_endOf D post (xS S x A m) x (iI k) := fun post z => by
          have := q_endOf (D := D) (post := post) (m := m) (F := F) (R := R) (w := lv m 1) (mv := k) (t := u) h hB (by rw [hlv]; exact hv) (by rw [hlv]; exact hLn) (by rw [hlv]; exact hk) (by rw [hlv]; exact hu) (by rw [hlv]; exact hst)
          rw [hlv, els] at this
          exact this z
        refine q _ (fun m' s1 => ?_)
        simp (discharger := first | decide | omega) only [x_own h, x_kd h, x_r h, x_m h, x_l h, x_k h, x_n h, x_i0, x_i h, x_u0 h, x_u h, xLen, xKd, nlit, iI_lit, iI_add, iI_sub, iI_mul, iI_neg, bI_z, bI_o, i10, i01, eq_self, bI_nar, nar_0, nar_1, up_at, up_f, Option.some.injEq, exists_eq_left', true_and, and_true, forall_eq, not_true_eq_false, not_false_eq_true, forall_const, false_implies, true_implies, Classical.not_not, if_true, if_false, Int.reduceEq, Int.reduceLT, Int.reduceLE, Int.reduceGT, Int.reduceGE, Int.reduceAdd, Int.reduceSub, Int.reduceMul, Int.reduceNeg, Int.reduceNe, eq_true iw]
        rw [s1.row (r := 12) rfl, tw.1, iI_eq (by omega) (by omega) (by omega) (by omega)]
        by_cases y : endC F R (mkT F R v u) = t (a + W.length)
        · simp (discharger := omega) only [nlit, iI_lit, iI_add, iI_sub, iI_mul, iI_neg, bI_z, bI_o, i10, i01, eq_self, bI_nar, nar_0, nar_1, bI_t, bI_f, Option.some.injEq, exists_eq_left', true_and, and_true, forall_eq, not_true_eq_false, not_false_eq_true, forall_const, false_implies, true_implies, Classical.not_not, if_true, if_false, Int.reduceEq, Int.reduceLT, Int.reduceLE, Int.reduceGT, Int.reduceGE, Int.reduceAdd, Int.reduceSub, Int.reduceMul, Int.reduceNeg, Int.reduceNe, Bool.true_and, Bool.and_true, Bool.false_and, Bool.and_false, BEq.rfl, Bool.true_eq_false, Bool.false_eq_true, y, wp_X12_areLetters_100, wp_X12_areLetters_105]
          rw [decide_eq_true y] at kk
          exact kk true rfl m' (scrN.of s1)
        · simp (discharger := omega) only [nlit, iI_lit, iI_add, iI_sub, iI_mul, iI_neg, bI_z, bI_o, i10, i01, eq_self, bI_nar, nar_0, nar_1, bI_t, bI_f, Option.some.injEq, exists_eq_left', true_and, and_true, forall_eq, not_true_eq_false, not_false_eq_true, forall_const, false_implies, true_implies, Classical.not_not, if_true, if_false, Int.reduceEq, Int.reduceLT, Int.reduceLE, Int.reduceGT, Int.reduceGE, Int.reduceAdd, Int.reduceSub, Int.reduceMul, Int.reduceNeg, Int.reduceNe, Bool.true_and, Bool.and_true, Bool.false_and, Bool.and_false, BEq.rfl, Bool.true_eq_false, Bool.false_eq_true, y, wp_X12_areLetters_105]
          rw [decide_eq_false y] at kk
          exact kk false rfl m' (scrN.of s1)
    | succ d =>
      have c : ¬ (W.length : Int) ≤ j := by omega
      have i1 : vp_in (iI (12 * k + j)) 3840 := iI_in (by omega) (by omega) (by omega)
      have i2 : vp_in (iI (a + j)) 500 := iI_in (by omega) (by omega) (by omega)
      have tj := hx.2 (a + j) (by omega) (by omega)
      have wj := getD_i hWi j.toNat
      simp (discharger := omega) only [nlit, iI_lit, iI_add, iI_sub, iI_mul, iI_neg, bI_z, bI_o, i10, i01, eq_self, bI_nar, nar_0, nar_1, bI_t, bI_f, Option.some.injEq, exists_eq_left', true_and, and_true, forall_eq, not_true_eq_false, not_false_eq_true, forall_const, false_implies, true_implies, Classical.not_not, if_true, if_false, Int.reduceEq, Int.reduceLT, Int.reduceLE, Int.reduceGT, Int.reduceGE, Int.reduceAdd, Int.reduceSub, Int.reduceMul, Int.reduceNeg, Int.reduceNe, Bool.true_and, Bool.and_true, Bool.false_and, Bool.and_false, BEq.rfl, Bool.true_eq_false, Bool.false_eq_true, c]
      simp (discharger := first | decide | omega) only [x_own h, x_kd h, x_r h, x_m h, x_l h, x_k h, x_n h, x_i0, x_i h, x_u0 h, x_u h, xLen, xKd, nlit, iI_lit, iI_add, iI_sub, iI_mul, iI_neg, bI_z, bI_o, i10, i01, eq_self, bI_nar, nar_0, nar_1, up_at, up_f, Option.some.injEq, exists_eq_left', true_and, and_true, forall_eq, not_true_eq_false, not_false_eq_true, forall_const, false_implies, true_implies, Classical.not_not, if_true, if_false, Int.reduceEq, Int.reduceLT, Int.reduceLE, Int.reduceGT, Int.reduceGE, Int.reduceAdd, Int.reduceSub, Int.reduceMul, Int.reduceNeg, Int.reduceNe, eq_true i1, eq_true i2]
      rw [hWm j h0 (by omega), tj.1, iI_eq wj.1 wj.2 (by omega) (by omega)]
      unfold allL at kk
      by_cases z : W.getD j.toNat 0 = t (a + j)
      · rw [decide_eq_true z, Bool.true_and] at kk
        simp (discharger := omega) only [nlit, iI_lit, iI_add, iI_sub, iI_mul, iI_neg, bI_z, bI_o, i10, i01, eq_self, bI_nar, nar_0, nar_1, bI_t, bI_f, Option.some.injEq, exists_eq_left', true_and, and_true, forall_eq, not_true_eq_false, not_false_eq_true, forall_const, false_implies, true_implies, Classical.not_not, if_true, if_false, Int.reduceEq, Int.reduceLT, Int.reduceLE, Int.reduceGT, Int.reduceGE, Int.reduceAdd, Int.reduceSub, Int.reduceMul, Int.reduceNeg, Int.reduceNe, Bool.true_and, Bool.and_true, Bool.false_and, Bool.and_false, BEq.rfl, Bool.true_eq_false, Bool.false_eq_true, z]
        exact ih d (j + 1) (by omega) (by omega) (by omega) kk
      · rw [decide_eq_false z, Bool.false_and, Bool.false_and] at kk
        simp (discharger := omega) only [nlit, iI_lit, iI_add, iI_sub, iI_mul, iI_neg, bI_z, bI_o, i10, i01, eq_self, bI_nar, nar_0, nar_1, bI_t, bI_f, Option.some.injEq, exists_eq_left', true_and, and_true, forall_eq, not_true_eq_false, not_false_eq_true, forall_const, false_implies, true_implies, Classical.not_not, if_true, if_false, Int.reduceEq, Int.reduceLT, Int.reduceLE, Int.reduceGT, Int.reduceGE, Int.reduceAdd, Int.reduceSub, Int.reduceMul, Int.reduceNeg, Int.reduceNe, Bool.true_and, Bool.and_true, Bool.false_and, Bool.and_false, BEq.rfl, Bool.true_eq_false, Bool.false_eq_true, z]
        exact kk false rfl m (scrN.rf m)
theorem endC_3 (u : Int → Int) : endC F R u = 0 ∨ endC F R u = 35 ∨ endC F R u = 43 := by
  unfold endC; split
  · split
    · exact Or.inr (Or.inl rfl)
    · exact Or.inr (Or.inr rfl)
  · exact Or.inl rfl
theorem sanA_in (h4 : 4 ≤ F) (h8 : F ≤ 8) (hn : F * R ≤ 64) {v : Int → Int} {L : List Mv} {u : Mv} (ok : okMv F R v u) : ∀ c ∈ sanA F v L u, 0 ≤ c ∧ c < 300 := fun c hc => sanW_b h4 h8 hn (L := L) ok c (by unfold sanW; exact List.mem_append_left _ hc)
theorem q_areLetters (h : XC D S x A) (hB : XB m F R) {v : Int → Int} (hlv : lv m 0 = v) (hv : okV F R v) (hL : Ls m (movesL F R v)) (hLn : (movesL F R v).length ≤ 320) {k : Int} {u : Mv} (hk : 0 ≤ k ∧ k < (movesL F R v).length) (hu : u = (movesL F R v).getD k.toNat (0, 0, 0)) (hst : stOK F R (mkT F R v u))
    {t : Int → Int} {len a e : Int} (hx : TX m t len) (ha : 0 ≤ a ∧ a ≤ e) (he : e ≤ len)
    (kk : ∀ m', scrN m m' → post (iI (bI (letsB t a e (sanA F v (movesL F R v) u) (endC F R (mkT F R v u))))) (xS S x A m')) : wp_X12_areLetters D post (xS S x A m) x (iI k) (iI a) (iI e) := by
  have h5 := hx.1
  have hn := hB.n
  have hmem : u ∈ movesL F R v := by rw [hu]; exact getD_mem hk
  have ok := movesL_mem (by omega) hmem
  have els := Ls_lsM hL
  have q : ∀ post : wS → Prop, post (xS S x A (spM m k (sanA F v (movesL F R v) u))) → wp_X12_spellsAhead D post (xS S x A m) x (iI k) := fun post z => by
    have := q_spellsAhead (D := D) (post := post) (m := m) (F := F) (R := R) (w := lv m 1) (mv := k) (t := u) (L := movesL F R v) h hB hlv hv (fun t ht => movesL_mem (by omega) ht) hLn hk hu
    rw [els] at this
    exact this z
  simp (discharger := omega) only [nlit, iI_lit, iI_add, iI_sub, iI_mul, iI_neg, bI_z, bI_o, i10, i01, eq_self, bI_nar, nar_0, nar_1, bI_t, bI_f, Option.some.injEq, exists_eq_left', true_and, and_true, forall_eq, not_true_eq_false, not_false_eq_true, forall_const, false_implies, true_implies, Classical.not_not, if_true, if_false, Int.reduceEq, Int.reduceLT, Int.reduceLE, Int.reduceGT, Int.reduceGE, Int.reduceAdd, Int.reduceSub, Int.reduceMul, Int.reduceNeg, Int.reduceNe, Bool.true_and, Bool.and_true, Bool.false_and, Bool.and_false, BEq.rfl, Bool.true_eq_false, Bool.false_eq_true, wp_X12_areLetters, wp_X12_areLetters_0]
  refine q _ ?_
  have hlen := sanA_len F v (movesL F R v) u
  have hWi := sanA_in hB.f4 hB.f8 hn.2 (L := movesL F R v) ok
  have hW8 : (sanA F v (movesL F R v) u).length ≤ 8 := by omega
  generalize hWe : sanA F v (movesL F R v) u = W at hlen hWi kk hW8
  have ik : vp_in (iI k) 320 := iI_in (by omega) (by omega) (by omega)
  have e18 : spM m k W 18 k = W.length := by unfold spM; rw [if_pos ⟨rfl, rfl⟩]
  have s0 : scrN m (spM m k W) := scrN.sp m k W
  simp (discharger := first | decide | omega) only [x_own h, x_kd h, x_r h, x_m h, x_l h, x_k h, x_n h, x_i0, x_i h, x_u0 h, x_u h, xLen, xKd, nlit, iI_lit, iI_add, iI_sub, iI_mul, iI_neg, bI_z, bI_o, i10, i01, eq_self, bI_nar, nar_0, nar_1, up_at, up_f, Option.some.injEq, exists_eq_left', true_and, and_true, forall_eq, not_true_eq_false, not_false_eq_true, forall_const, false_implies, true_implies, Classical.not_not, if_true, if_false, Int.reduceEq, Int.reduceLT, Int.reduceLE, Int.reduceGT, Int.reduceGE, Int.reduceAdd, Int.reduceSub, Int.reduceMul, Int.reduceNeg, Int.reduceNe, eq_true ik, e18]
  rw [iI_eq (by omega) (by omega) (by omega) (by omega), iI_eq (by omega) (by omega) (by omega) (by omega)]
  unfold letsB at kk
  have k33 : (e - a = W.length ∨ e - a = W.length + 1) → wp_X12_areLetters_33 D post (xS S x A (spM m k W)) x (iI k) (iI a) (iI e) (iI W.length) := by
    intro z
    unfold wp_X12_areLetters_33
    try simp (discharger := omega) only [nlit, iI_lit, iI_add, iI_sub, iI_mul, iI_neg, bI_z, bI_o, i10, i01, eq_self, bI_nar, nar_0, nar_1, bI_t, bI_f, Option.some.injEq, exists_eq_left', true_and, and_true, forall_eq, not_true_eq_false, not_false_eq_true, forall_const, false_implies, true_implies, Classical.not_not, if_true, if_false, Int.reduceEq, Int.reduceLT, Int.reduceLE, Int.reduceGT, Int.reduceGE, Int.reduceAdd, Int.reduceSub, Int.reduceMul, Int.reduceNeg, Int.reduceNe, Bool.true_and, Bool.and_true, Bool.false_and, Bool.and_false, BEq.rfl, Bool.true_eq_false, Bool.false_eq_true]
    refine ⟨10, q_areL_36 h (s0.XB hB) (by rw [s0.lv]; exact hlv) hv (s0.Ls hL hLn) hLn hk hu hst (hx.row (s0.row rfl)) ha.1 he hW8 hWi (fun i a b => ?_) z (endC_3 _) 10 W.length 0 (by omega) (by omega) (by decide) (fun b hb m' s1 => ?_)⟩
    · unfold spM
      rw [if_neg (by omega), if_pos (by omega)]
      congr 1; omega
    · have := kk m' (s0.tr s1)
      have e1 : (decide (e - a = W.length) || decide (e - a = W.length + 1)) = true := by rcases z with z | z <;> simp [z]
      rw [e1, Bool.true_and, ← hb] at this
      exact this
  by_cases z1 : e - a = W.length
  · simp (discharger := omega) only [nlit, iI_lit, iI_add, iI_sub, iI_mul, iI_neg, bI_z, bI_o, i10, i01, eq_self, bI_nar, nar_0, nar_1, bI_t, bI_f, Option.some.injEq, exists_eq_left', true_and, and_true, forall_eq, not_true_eq_false, not_false_eq_true, forall_const, false_implies, true_implies, Classical.not_not, if_true, if_false, Int.reduceEq, Int.reduceLT, Int.reduceLE, Int.reduceGT, Int.reduceGE, Int.reduceAdd, Int.reduceSub, Int.reduceMul, Int.reduceNeg, Int.reduceNe, Bool.true_and, Bool.and_true, Bool.false_and, Bool.and_false, BEq.rfl, Bool.true_eq_false, Bool.false_eq_true, z1]
    exact k33 (Or.inl z1)
  · simp (discharger := omega) only [nlit, iI_lit, iI_add, iI_sub, iI_mul, iI_neg, bI_z, bI_o, i10, i01, eq_self, bI_nar, nar_0, nar_1, bI_t, bI_f, Option.some.injEq, exists_eq_left', true_and, and_true, forall_eq, not_true_eq_false, not_false_eq_true, forall_const, false_implies, true_implies, Classical.not_not, if_true, if_false, Int.reduceEq, Int.reduceLT, Int.reduceLE, Int.reduceGT, Int.reduceGE, Int.reduceAdd, Int.reduceSub, Int.reduceMul, Int.reduceNeg, Int.reduceNe, Bool.true_and, Bool.and_true, Bool.false_and, Bool.and_false, BEq.rfl, Bool.true_eq_false, Bool.false_eq_true, z1]
    by_cases z2 : e - a = W.length + 1
    · simp (discharger := omega) only [nlit, iI_lit, iI_add, iI_sub, iI_mul, iI_neg, bI_z, bI_o, i10, i01, eq_self, bI_nar, nar_0, nar_1, bI_t, bI_f, Option.some.injEq, exists_eq_left', true_and, and_true, forall_eq, not_true_eq_false, not_false_eq_true, forall_const, false_implies, true_implies, Classical.not_not, if_true, if_false, Int.reduceEq, Int.reduceLT, Int.reduceLE, Int.reduceGT, Int.reduceGE, Int.reduceAdd, Int.reduceSub, Int.reduceMul, Int.reduceNeg, Int.reduceNe, Bool.true_and, Bool.and_true, Bool.false_and, Bool.and_false, BEq.rfl, Bool.true_eq_false, Bool.false_eq_true, z2]
      exact k33 (Or.inr z2)
    · simp (discharger := omega) only [nlit, iI_lit, iI_add, iI_sub, iI_mul, iI_neg, bI_z, bI_o, i10, i01, eq_self, bI_nar, nar_0, nar_1, bI_t, bI_f, Option.some.injEq, exists_eq_left', true_and, and_true, forall_eq, not_true_eq_false, not_false_eq_true, forall_const, false_implies, true_implies, Classical.not_not, if_true, if_false, Int.reduceEq, Int.reduceLT, Int.reduceLE, Int.reduceGT, Int.reduceGE, Int.reduceAdd, Int.reduceSub, Int.reduceMul, Int.reduceNeg, Int.reduceNe, Bool.true_and, Bool.and_true, Bool.false_and, Bool.and_false, BEq.rfl, Bool.true_eq_false, Bool.false_eq_true, z2]
      have := kk _ s0
      simpa [bI_f, z1, z2] using this
theorem q_named_7 (h : XC D S x A) {v : Int → Int} (hv : okV F R v) (hLn : (movesL F R v).length ≤ 320) (hst : ∀ u ∈ movesL F R v, stOK F R (mkT F R v u)) {t : Int → Int} {len a e : Int} (ha : 0 ≤ a ∧ a ≤ e) (he : e ≤ len) :
    ∀ (n d : Nat) (j : Int) (m : xM), d < n → j + d = (movesL F R v).length → 0 ≤ j → XB m F R → lv m 0 = v → Ls m (movesL F R v) → TX m t len →
    (∀ m', scrN m m' → post (iI (namB F R v t a e j d)) (xS S x A m')) → wp_X12_namedMove_7 D post n (xS S x A m) x (iI a) (iI e) (iI j) := by
  have i0 : vp_in (iI 0) 8 := iI_in (by omega) (by omega) (by omega)
  intro n
  induction n with
  | zero => intro d j m hd; omega
  | succ n ih =>
    intro d j m hd hj h0 hB hlv hL hx k
    unfold wp_X12_namedMove_7
    simp (discharger := first | decide | omega) only [x_own h, x_kd h, x_r h, x_m h, x_l h, x_k h, x_n h, x_i0, x_i h, x_u0 h, x_u h, xLen, xKd, nlit, iI_lit, iI_add, iI_sub, iI_mul, iI_neg, bI_z, bI_o, i10, i01, eq_self, bI_nar, nar_0, nar_1, up_at, up_f, Option.some.injEq, exists_eq_left', true_and, and_true, forall_eq, not_true_eq_false, not_false_eq_true, forall_const, false_implies, true_implies, Classical.not_not, if_true, if_false, Int.reduceEq, Int.reduceLT, Int.reduceLE, Int.reduceGT, Int.reduceGE, Int.reduceAdd, Int.reduceSub, Int.reduceMul, Int.reduceNeg, Int.reduceNe, eq_true i0]
    rw [hL.1, iI_le (by omega) (by omega) (by omega) (by omega)]
    cases d with
    | zero =>
      have c : ((movesL F R v).length : Int) ≤ j := by omega
      simp (discharger := omega) only [nlit, iI_lit, iI_add, iI_sub, iI_mul, iI_neg, bI_z, bI_o, i10, i01, eq_self, bI_nar, nar_0, nar_1, bI_t, bI_f, Option.some.injEq, exists_eq_left', true_and, and_true, forall_eq, not_true_eq_false, not_false_eq_true, forall_const, false_implies, true_implies, Classical.not_not, if_true, if_false, Int.reduceEq, Int.reduceLT, Int.reduceLE, Int.reduceGT, Int.reduceGE, Int.reduceAdd, Int.reduceSub, Int.reduceMul, Int.reduceNeg, Int.reduceNe, Bool.true_and, Bool.and_true, Bool.false_and, Bool.and_false, BEq.rfl, Bool.true_eq_false, Bool.false_eq_true, c]
      exact k m (scrN.rf m)
    | succ d =>
      have c : ¬ ((movesL F R v).length : Int) ≤ j := by omega
      simp (discharger := omega) only [nlit, iI_lit, iI_add, iI_sub, iI_mul, iI_neg, bI_z, bI_o, i10, i01, eq_self, bI_nar, nar_0, nar_1, bI_t, bI_f, Option.some.injEq, exists_eq_left', true_and, and_true, forall_eq, not_true_eq_false, not_false_eq_true, forall_const, false_implies, true_implies, Classical.not_not, if_true, if_false, Int.reduceEq, Int.reduceLT, Int.reduceLE, Int.reduceGT, Int.reduceGE, Int.reduceAdd, Int.reduceSub, Int.reduceMul, Int.reduceNeg, Int.reduceNe, Bool.true_and, Bool.and_true, Bool.false_and, Bool.and_false, BEq.rfl, Bool.true_eq_false, Bool.false_eq_true, c]
      refine q_areLetters h hB hlv hv hL hLn ⟨h0, by omega⟩ rfl (hst _ (getD_mem ⟨h0, by omega⟩)) hx ha he (fun m' s1 => ?_)
      unfold namB at k
      try simp (discharger := omega) only [nlit, iI_lit, iI_add, iI_sub, iI_mul, iI_neg, bI_z, bI_o, i10, i01, eq_self, bI_nar, nar_0, nar_1, bI_t, bI_f, Option.some.injEq, exists_eq_left', true_and, and_true, forall_eq, not_true_eq_false, not_false_eq_true, forall_const, false_implies, true_implies, Classical.not_not, if_true, if_false, Int.reduceEq, Int.reduceLT, Int.reduceLE, Int.reduceGT, Int.reduceGE, Int.reduceAdd, Int.reduceSub, Int.reduceMul, Int.reduceNeg, Int.reduceNe, Bool.true_and, Bool.and_true, Bool.false_and, Bool.and_false, BEq.rfl, Bool.true_eq_false, Bool.false_eq_true]
      cases z : letsB t a e (sanA F v (movesL F R v) ((movesL F R v).getD j.toNat (0, 0, 0))) (endC F R (mkT F R v ((movesL F R v).getD j.toNat (0, 0, 0))))
      · rw [z] at k
        try simp (discharger := omega) only [nlit, iI_lit, iI_add, iI_sub, iI_mul, iI_neg, bI_z, bI_o, i10, i01, eq_self, bI_nar, nar_0, nar_1, bI_t, bI_f, Option.some.injEq, exists_eq_left', true_and, and_true, forall_eq, not_true_eq_false, not_false_eq_true, forall_const, false_implies, true_implies, Classical.not_not, if_true, if_false, Int.reduceEq, Int.reduceLT, Int.reduceLE, Int.reduceGT, Int.reduceGE, Int.reduceAdd, Int.reduceSub, Int.reduceMul, Int.reduceNeg, Int.reduceNe, Bool.true_and, Bool.and_true, Bool.false_and, Bool.and_false, BEq.rfl, Bool.true_eq_false, Bool.false_eq_true]
        exact ih d (j + 1) m' (by omega) (by omega) (by omega) (s1.XB hB) (by rw [s1.lv]; exact hlv) (s1.Ls hL hLn) (hx.row (s1.row rfl)) (fun m2 s2 => by simpa using k m2 (s1.tr s2))
      · rw [z] at k
        try simp (discharger := omega) only [nlit, iI_lit, iI_add, iI_sub, iI_mul, iI_neg, bI_z, bI_o, i10, i01, eq_self, bI_nar, nar_0, nar_1, bI_t, bI_f, Option.some.injEq, exists_eq_left', true_and, and_true, forall_eq, not_true_eq_false, not_false_eq_true, forall_const, false_implies, true_implies, Classical.not_not, if_true, if_false, Int.reduceEq, Int.reduceLT, Int.reduceLE, Int.reduceGT, Int.reduceGE, Int.reduceAdd, Int.reduceSub, Int.reduceMul, Int.reduceNeg, Int.reduceNe, Bool.true_and, Bool.and_true, Bool.false_and, Bool.and_false, BEq.rfl, Bool.true_eq_false, Bool.false_eq_true]
        simpa using k m' s1
/-- the same, but for the moves and the letters of level 0 and what stands behind it -/
def scrO (m m' : xM) : Prop := ∀ r j, ¬ (r = 3 ∧ 67 ≤ j) → (r == 4 || r == 5 || r == 6 || r == 7 || r == 17 || r == 18) = false → m' r j = m r j
theorem q_namedMove (h : XC D S x A) (hB : XB m F R) {v : Int → Int} (hlv : lv m 0 = v) (hv : okV F R v) (hK : mvOK F R v) (hst : ∀ u ∈ movesL F R v, stOK F R (mkT F R v u)) {t : Int → Int} {len a e : Int} (hx : TX m t len) (ha : 0 ≤ a ∧ a ≤ e) (he : e ≤ len)
    (k : ∀ m', scrO m m' → lv m' 0 = v → Ls m' (movesL F R v) → post (iI (namB F R v t a e 0 (movesL F R v).length)) (xS S x A m')) : wp_X12_namedMove D post (xS S x A m) x (iI a) (iI e) := by
  unfold wp_X12_namedMove wp_X12_namedMove_0
  try simp (discharger := omega) only [nlit, iI_lit, iI_add, iI_sub, iI_mul, iI_neg, bI_z, bI_o, i10, i01, eq_self, bI_nar, nar_0, nar_1, bI_t, bI_f, Option.some.injEq, exists_eq_left', true_and, and_true, forall_eq, not_true_eq_false, not_false_eq_true, forall_const, false_implies, true_implies, Classical.not_not, if_true, if_false, Int.reduceEq, Int.reduceLT, Int.reduceLE, Int.reduceGT, Int.reduceGE, Int.reduceAdd, Int.reduceSub, Int.reduceMul, Int.reduceNeg, Int.reduceNe, Bool.true_and, Bool.and_true, Bool.false_and, Bool.and_false, BEq.rfl, Bool.true_eq_false, Bool.false_eq_true]
  refine q_movesM h hB (l := 0) (by decide) hlv hv hK (fun m2 s2 hA => ?_)
  have hLs : Ls m2 (movesL F R v) := ⟨hA.2.1, fun k a b r hr => by have := hA.2.2 k a b r hr; rw [Int.mul_zero, Int.zero_add] at this; exact this⟩
  have hL := hK.2
  try simp (discharger := omega) only [nlit, iI_lit, iI_add, iI_sub, iI_mul, iI_neg, bI_z, bI_o, i10, i01, eq_self, bI_nar, nar_0, nar_1, bI_t, bI_f, Option.some.injEq, exists_eq_left', true_and, and_true, forall_eq, not_true_eq_false, not_false_eq_true, forall_const, false_implies, true_implies, Classical.not_not, if_true, if_false, Int.reduceEq, Int.reduceLT, Int.reduceLE, Int.reduceGT, Int.reduceGE, Int.reduceAdd, Int.reduceSub, Int.reduceMul, Int.reduceNeg, Int.reduceNe, Bool.true_and, Bool.and_true, Bool.false_and, Bool.and_false, BEq.rfl, Bool.true_eq_false, Bool.false_eq_true]
  refine ⟨321, q_named_7 h hv hK.2 hst ha he 321 (movesL F R v).length 0 m2 (by omega) (by omega) (by decide) (hB.scM s2) hA.1 hLs (hx.row (s2.row rfl)) (fun m3 s3 => k m3 (fun r j a b => ?_) (by rw [s3.lv]; exact hA.1) (s3.Ls hLs hK.2))⟩
  simp at b
  rw [s3 r j (by omega) (by omega) (by omega) (by omega) (by omega)]
  exact s2 r j (by omega) (by omega) (by omega)
end
