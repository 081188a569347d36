def tailA (F : Int) (v : Int → Int) (t : Mv) : List Int := [fileC F t.2.1, rankC F t.2.1] ++ (if t.2.2 = 0 then [] else [61, letB t.2.2])
def takeA (F : Int) (v : Int → Int) (t : Mv) : List Int := (if takesB F v t.1 t.2.1 then [120] else []) ++ tailA F v t
def headA (F : Int) (v : Int → Int) (L : List Mv) (t : Mv) : List Int :=
  if kindO (v t.1) = 6 then (if takesB F v t.1 t.2.1 then [fileC F t.1] else []) else letB (kindO (v t.1)) :: fromC F t.1 (disL F v L t.1 t.2.1 0 false false false L.length)
/-- the letters of a move, without the end -/
def sanA (F : Int) (v : Int → Int) (L : List Mv) (t : Mv) : List Int :=
  if castingB F v t.1 t.2.1 then (if t.1 < t.2.1 then [79, 45, 79] else [79, 45, 79, 45, 79]) else headA F v L t ++ takeA F v t
theorem fromC_len (F a : Int) (q : Bool × Bool × Bool) : (fromC F a q).length ≤ 2 := by
  unfold fromC; split <;> split <;> simp
theorem takeA_len (F : Int) (v : Int → Int) (t : Mv) : (takeA F v t).length ≤ 5 := by
  unfold takeA tailA; split <;> split <;> simp
theorem headA_len (F : Int) (v : Int → Int) (L : List Mv) (t : Mv) : (headA F v L t).length ≤ 3 := by
  unfold headA
  split
  · split <;> simp
  · have := fromC_len F t.1 (disL F v L t.1 t.2.1 0 false false false L.length)
    simp; omega
theorem sanA_len (F : Int) (v : Int → Int) (L : List Mv) (t : Mv) : (sanA F v L t).length ≤ 8 := by
  unfold sanA
  split
  · split <;> simp
  · have := takeA_len F v t; have := headA_len F v L t
    simp; omega
section
variable {D : wD} {S : wS} {x : Nat} {A : Nat → Nat} {m : xM} {F R : Int} {post : wS → Prop}
theorem q_spellsAhead_155 (h : XC D S x A) (hB : XB m F R) {v : Int → Int} {L : List Mv} {w : Int → Int} {mv : Int} {t : Mv} {W : List Int} (hm : 0 ≤ mv ∧ mv < L.length) (hLn : L.length ≤ 320) (ht : t = L.getD mv.toNat (0, 0, 0)) (ok : okMv F R v t) (hW : W.length < 8)
    (k : post (xS S x A (spM (lsM m 0 L w) mv (W ++ tailA F v t)))) : wp_X12_spellsAhead_155 D post (xS S x A (spM (lsM m 0 L w) mv W)) x (iI mv) (iI t.2.1) := by
  have hn := hB.n
  have hB1 := hB.ls 0 L w
  have a2 := ok.2.1
  have a3 := ok.2.2.1
  have im : vp_in (iI mv) 2560 := iI_in (by omega) (by omega) (by omega)
  have e6 : ∀ W', spM (lsM m 0 L w) mv W' 6 mv = t.2.2 := fun W' => by
    rw [ht]; exact (spM_f _ _ _ _ rfl).trans (lsM_e0 m w (Or.inr (Or.inr rfl)) hm)
  unfold wp_X12_spellsAhead_155
  refine q_spellsSquare h hB1 (by omega) (by omega) (by omega) ?_
  simp (discharger := first | decide | omega) only [x_own h, x_kd h, x_r h, x_m h, x_l h, x_k h, x_n h, x_i0, x_i h, x_u0 h, x_u h, xLen, xKd, nlit, iI_lit, iI_add, iI_sub, iI_mul, iI_neg, bI_z, bI_o, i10, i01, eq_self, bI_nar, nar_0, nar_1, up_at, up_f, Option.some.injEq, exists_eq_left', true_and, and_true, forall_eq, not_true_eq_false, not_false_eq_true, forall_const, false_implies, true_implies, Classical.not_not, if_true, if_false, Int.reduceEq, Int.reduceLT, Int.reduceLE, Int.reduceGT, Int.reduceGE, Int.reduceAdd, Int.reduceSub, Int.reduceMul, Int.reduceNeg, Int.reduceNe, eq_true im, e6]
  simp (discharger := omega) only [nlit, iI_lit, iI_add, iI_sub, iI_mul, iI_neg, bI_z, bI_o, i10, i01, eq_self, bI_nar, nar_0, nar_1, bI_t, bI_f, Option.some.injEq, exists_eq_left', true_and, and_true, forall_eq, not_true_eq_false, not_false_eq_true, forall_const, false_implies, true_implies, Classical.not_not, if_true, if_false, Int.reduceEq, Int.reduceLT, Int.reduceLE, Int.reduceGT, Int.reduceGE, Int.reduceAdd, Int.reduceSub, Int.reduceMul, Int.reduceNeg, Int.reduceNe, Bool.true_and, Bool.and_true, Bool.false_and, Bool.and_false, BEq.rfl, Bool.true_eq_false, Bool.false_eq_true, iI_eq, wp_X12_spellsAhead_191]
  unfold tailA at k
  by_cases c : t.2.2 = 0
  · simp (discharger := omega) only [nlit, iI_lit, iI_add, iI_sub, iI_mul, iI_neg, bI_z, bI_o, i10, i01, eq_self, bI_nar, nar_0, nar_1, bI_t, bI_f, Option.some.injEq, exists_eq_left', true_and, and_true, forall_eq, not_true_eq_false, not_false_eq_true, forall_const, false_implies, true_implies, Classical.not_not, if_true, if_false, Int.reduceEq, Int.reduceLT, Int.reduceLE, Int.reduceGT, Int.reduceGE, Int.reduceAdd, Int.reduceSub, Int.reduceMul, Int.reduceNeg, Int.reduceNe, Bool.true_and, Bool.and_true, Bool.false_and, Bool.and_false, BEq.rfl, Bool.true_eq_false, Bool.false_eq_true, c]
    simpa [c] using k
  · simp (discharger := omega) only [nlit, iI_lit, iI_add, iI_sub, iI_mul, iI_neg, bI_z, bI_o, i10, i01, eq_self, bI_nar, nar_0, nar_1, bI_t, bI_f, Option.some.injEq, exists_eq_left', true_and, and_true, forall_eq, not_true_eq_false, not_false_eq_true, forall_const, false_implies, true_implies, Classical.not_not, if_true, if_false, Int.reduceEq, Int.reduceLT, Int.reduceLE, Int.reduceGT, Int.reduceGE, Int.reduceAdd, Int.reduceSub, Int.reduceMul, Int.reduceNeg, Int.reduceNe, Bool.true_and, Bool.and_true, Bool.false_and, Bool.and_false, BEq.rfl, Bool.true_eq_false, Bool.false_eq_true, c]
    refine q_spells h (by omega) (by simp; omega) ?_
    simp (discharger := first | decide | omega) only [x_own h, x_kd h, x_r h, x_m h, x_l h, x_k h, x_n h, x_i0, x_i h, x_u0 h, x_u h, xLen, xKd, nlit, iI_lit, iI_add, iI_sub, iI_mul, iI_neg, bI_z, bI_o, i10, i01, eq_self, bI_nar, nar_0, nar_1, up_at, up_f, Option.some.injEq, exists_eq_left', true_and, and_true, forall_eq, not_true_eq_false, not_false_eq_true, forall_const, false_implies, true_implies, Classical.not_not, if_true, if_false, Int.reduceEq, Int.reduceLT, Int.reduceLE, Int.reduceGT, Int.reduceGE, Int.reduceAdd, Int.reduceSub, Int.reduceMul, Int.reduceNeg, Int.reduceNe, eq_true im, e6]
    rw [q_letterOf (by omega)]
    refine q_spells h (by omega) (by simp; omega) ?_
    simpa [c] using k
theorem q_spellsAhead_138 (h : XC D S x A) (hB : XB m F R) {v : Int → Int} (hlv : lv m 0 = v) (hv : okV F R v) {L : List Mv} {w : Int → Int} {mv : Int} {t : Mv} {W : List Int} (hm : 0 ≤ mv ∧ mv < L.length) (hLn : L.length ≤ 320) (ht : t = L.getD mv.toNat (0, 0, 0)) (ok : okMv F R v t) (hW : W.length < 7)
    (k : post (xS S x A (spM (lsM m 0 L w) mv (W ++ takeA F v t)))) : wp_X12_spellsAhead_138 D post (xS S x A (spM (lsM m 0 L w) mv W)) x (iI mv) (iI t.1) (iI t.2.1) := by
  have hn := hB.n
  have hB2 := (hB.ls 0 L w).sp mv W
  have el : lv (spM (lsM m 0 L w) mv W) 0 = v := (spM_lv _ _ _ _).trans ((lsM_lv m 0 L w).trans hlv)
  have a1 := ok.1
  have a2 := ok.2.1
  unfold wp_X12_spellsAhead_138
  simp (discharger := omega) only [nlit, iI_lit, iI_add, iI_sub, iI_mul, iI_neg, bI_z, bI_o, i10, i01, eq_self, bI_nar, nar_0, nar_1, bI_t, bI_f, Option.some.injEq, exists_eq_left', true_and, and_true, forall_eq, not_true_eq_false, not_false_eq_true, forall_const, false_implies, true_implies, Classical.not_not, if_true, if_false, Int.reduceEq, Int.reduceLT, Int.reduceLE, Int.reduceGT, Int.reduceGE, Int.reduceAdd, Int.reduceSub, Int.reduceMul, Int.reduceNeg, Int.reduceNe, Bool.true_and, Bool.and_true, Bool.false_and, Bool.and_false, BEq.rfl, Bool.true_eq_false, Bool.false_eq_true]
  refine q_takes h hB2 (by decide) (by rw [el]; exact hv) (by omega) (by omega) ?_
  rw [el]
  unfold takeA at k
  try simp (discharger := omega) only [nlit, iI_lit, iI_add, iI_sub, iI_mul, iI_neg, bI_z, bI_o, i10, i01, eq_self, bI_nar, nar_0, nar_1, bI_t, bI_f, Option.some.injEq, exists_eq_left', true_and, and_true, forall_eq, not_true_eq_false, not_false_eq_true, forall_const, false_implies, true_implies, Classical.not_not, if_true, if_false, Int.reduceEq, Int.reduceLT, Int.reduceLE, Int.reduceGT, Int.reduceGE, Int.reduceAdd, Int.reduceSub, Int.reduceMul, Int.reduceNeg, Int.reduceNe, Bool.true_and, Bool.and_true, Bool.false_and, Bool.and_false, BEq.rfl, Bool.true_eq_false, Bool.false_eq_true]
  cases c : takesB F v t.1 t.2.1
  · try simp (discharger := omega) only [nlit, iI_lit, iI_add, iI_sub, iI_mul, iI_neg, bI_z, bI_o, i10, i01, eq_self, bI_nar, nar_0, nar_1, bI_t, bI_f, Option.some.injEq, exists_eq_left', true_and, and_true, forall_eq, not_true_eq_false, not_false_eq_true, forall_const, false_implies, true_implies, Classical.not_not, if_true, if_false, Int.reduceEq, Int.reduceLT, Int.reduceLE, Int.reduceGT, Int.reduceGE, Int.reduceAdd, Int.reduceSub, Int.reduceMul, Int.reduceNeg, Int.reduceNe, Bool.true_and, Bool.and_true, Bool.false_and, Bool.and_false, BEq.rfl, Bool.true_eq_false, Bool.false_eq_true]
    exact q_spellsAhead_155 h hB hm hLn ht ok (by omega) (by simpa [c] using k)
  · try simp (discharger := omega) only [nlit, iI_lit, iI_add, iI_sub, iI_mul, iI_neg, bI_z, bI_o, i10, i01, eq_self, bI_nar, nar_0, nar_1, bI_t, bI_f, Option.some.injEq, exists_eq_left', true_and, and_true, forall_eq, not_true_eq_false, not_false_eq_true, forall_const, false_implies, true_implies, Classical.not_not, if_true, if_false, Int.reduceEq, Int.reduceLT, Int.reduceLE, Int.reduceGT, Int.reduceGE, Int.reduceAdd, Int.reduceSub, Int.reduceMul, Int.reduceNeg, Int.reduceNe, Bool.true_and, Bool.and_true, Bool.false_and, Bool.and_false, BEq.rfl, Bool.true_eq_false, Bool.false_eq_true]
    refine q_spells h (by omega) (by omega) ?_
    exact q_spellsAhead_155 h hB hm hLn ht ok (by simp; omega) (by simpa [c] using k)
theorem q_spellsFrom (h : XC D S x A) (hB : XB m F R) {v : Int → Int} (hlv : lv m 0 = v) (hv : okV F R v) {L : List Mv} {w : Int → Int} (hL : ∀ t ∈ L, okMv F R v t) (hLn : L.length ≤ 320) {mv : Int} {t : Mv} {W : List Int} (hm : 0 ≤ mv ∧ mv < L.length) (ht : t = L.getD mv.toNat (0, 0, 0)) (hW : W.length < 10)
    (k : post (xS S x A (spM (lsM m 0 L w) mv (W ++ fromC F t.1 (disL F v L t.1 t.2.1 0 false false false L.length))))) : wp_X12_spellsFrom D post (xS S x A (spM (lsM m 0 L w) mv W)) x (iI mv) := by
  have im : vp_in (iI mv) 2560 := iI_in (by omega) (by omega) (by omega)
  have e4 : spM (lsM m 0 L w) mv W 4 mv = t.1 := by rw [ht]; exact (spM_f _ _ _ _ rfl).trans (lsM_e0 m w (Or.inl rfl) hm)
  have ok := hL _ (getD_mem hm)
  rw [← ht] at ok
  simp (discharger := first | decide | omega) only [x_own h, x_kd h, x_r h, x_m h, x_l h, x_k h, x_n h, x_i0, x_i h, x_u0 h, x_u h, xLen, xKd, nlit, iI_lit, iI_add, iI_sub, iI_mul, iI_neg, bI_z, bI_o, i10, i01, eq_self, bI_nar, nar_0, nar_1, up_at, up_f, Option.some.injEq, exists_eq_left', true_and, and_true, forall_eq, not_true_eq_false, not_false_eq_true, forall_const, false_implies, true_implies, Classical.not_not, if_true, if_false, Int.reduceEq, Int.reduceLT, Int.reduceLE, Int.reduceGT, Int.reduceGE, Int.reduceAdd, Int.reduceSub, Int.reduceMul, Int.reduceNeg, Int.reduceNe, wp_X12_spellsFrom, wp_X12_spellsFrom_0, eq_true im, e4]
  refine ⟨L.length + 1, ?_⟩
  have k2 : post (xS S x A (spM (lsM m 0 L w) mv (W ++ fromC F t.1 (disL F v L t.1 (L.getD mv.toNat (0, 0, 0)).2.1 0 false false false L.length)))) := by rw [← ht]; exact k
  have q := q_spellsFrom_18 (post := post) (w := w) h hB hlv hv hL hLn hm hW ok.1 (L.length + 1) L.length 0 false false false (Nat.lt_succ_self _) (Int.zero_add _) (Int.le_refl _) k2
  rw [bI_f] at q
  exact q
theorem q_spellsAhead_45 (h : XC D S x A) {mv a b : Int} {N : Nat} (hm : 0 ≤ mv ∧ mv < 320) (ha : 0 ≤ a ∧ a < 64) (hb : 0 ≤ b ∧ b < 64) (hN : (N = 3 ∧ a < b) ∨ (N = 5 ∧ ¬ a < b)) {m : xM} (k : post (xS S x A (spM m mv ([79, 45, 79, 45, 79].take N)))) : ∀ (n d j : Nat), d < n → j + d = N →
    wp_X12_spellsAhead_45 D post n (xS S x A (spM m mv ([79, 45, 79, 45, 79].take j))) x (iI mv) (iI a) (iI b) (iI j) := by
  have e2 : (iI 2 = iI 0) = False := eq_false (by decide)
  intro n
  induction n with
  | zero => intro d j hd; omega
  | succ n ih =>
    intro d j hd hj
    have k57 : wp_X12_spellsAhead_57 D post (wp_X12_spellsAhead_45 D post n) (xS S x A (spM m mv ([79, 45, 79, 45, 79].take j))) x (iI mv) (iI a) (iI b) (iI j) (iI j) (iI N) := by
      unfold wp_X12_spellsAhead_57
      rw [iI_le (by omega) (by omega) (by omega) (by omega)]
      cases d with
      | zero =>
        have e : (N : Int) ≤ j := by omega
        have : j = N := by omega
        subst this
        simp only [e, true_implies, not_true_eq_false, false_implies, and_true]
        exact k
      | succ d =>
        have e : ¬ (N : Int) ≤ j := by omega
        simp only [e, false_implies, not_false_eq_true, true_implies, true_and]
        simp (discharger := omega) only [nlit, iI_lit, iI_add, iI_sub, iI_mul, iI_neg, bI_z, bI_o, i10, i01, eq_self, bI_nar, nar_0, nar_1, bI_t, bI_f, Option.some.injEq, exists_eq_left', true_and, and_true, forall_eq, not_true_eq_false, not_false_eq_true, forall_const, false_implies, true_implies, Classical.not_not, if_true, if_false, Int.reduceEq, Int.reduceLT, Int.reduceLE, Int.reduceGT, Int.reduceGE, Int.reduceAdd, Int.reduceSub, Int.reduceMul, Int.reduceNeg, Int.reduceNe, Bool.true_and, Bool.and_true, Bool.false_and, Bool.and_false, BEq.rfl, Bool.true_eq_false, Bool.false_eq_true, e2]
        rw [iI_rem (by omega) (by omega) (by decide) (by decide)]
        have nx : ∀ c : Int, [79, 45, 79, 45, 79].take (j + 1) = [79, 45, 79, 45, 79].take j ++ [c] → wp_X12_spellsAhead_76 D post (wp_X12_spellsAhead_45 D post n) (xS S x A (spM m mv ([79, 45, 79, 45, 79].take j))) x (iI mv) (iI a) (iI b) (iI j) x (iI mv) (iI c) := by
          intro c hc
          unfold wp_X12_spellsAhead_76
          refine q_spells h hm (by simp; omega) ?_
          rw [← hc]
          simp (discharger := omega) only [nlit, iI_lit, iI_add, iI_sub, iI_mul, iI_neg, bI_z, bI_o, i10, i01, eq_self, bI_nar, nar_0, nar_1, bI_t, bI_f, Option.some.injEq, exists_eq_left', true_and, and_true, forall_eq, not_true_eq_false, not_false_eq_true, forall_const, false_implies, true_implies, Classical.not_not, if_true, if_false, Int.reduceEq, Int.reduceLT, Int.reduceLE, Int.reduceGT, Int.reduceGE, Int.reduceAdd, Int.reduceSub, Int.reduceMul, Int.reduceNeg, Int.reduceNe, Bool.true_and, Bool.and_true, Bool.false_and, Bool.and_false, BEq.rfl, Bool.true_eq_false, Bool.false_eq_true]
          exact ih d (j + 1) (by omega) (by omega)
        simp (discharger := omega) only [nlit, iI_lit, iI_add, iI_sub, iI_mul, iI_neg, bI_z, bI_o, i10, i01, eq_self, bI_nar, nar_0, nar_1, bI_t, bI_f, Option.some.injEq, exists_eq_left', true_and, and_true, forall_eq, not_true_eq_false, not_false_eq_true, forall_const, false_implies, true_implies, Classical.not_not, if_true, if_false, Int.reduceEq, Int.reduceLT, Int.reduceLE, Int.reduceGT, Int.reduceGE, Int.reduceAdd, Int.reduceSub, Int.reduceMul, Int.reduceNeg, Int.reduceNe, Bool.true_and, Bool.and_true, Bool.false_and, Bool.and_false, BEq.rfl, Bool.true_eq_false, Bool.false_eq_true, iI_eq]
        rcases (show j = 0 ∨ j = 1 ∨ j = 2 ∨ j = 3 ∨ j = 4 by omega) with rfl | rfl | rfl | rfl | rfl
        · exact ⟨fun z => absurd rfl z, fun _ => nx 79 rfl⟩
        · exact ⟨fun _ => nx 45 rfl, fun z => absurd z (by decide)⟩
        · exact ⟨fun z => absurd rfl z, fun _ => nx 79 rfl⟩
        · exact ⟨fun _ => nx 45 rfl, fun z => absurd z (by decide)⟩
        · exact ⟨fun z => absurd rfl z, fun _ => nx 79 rfl⟩
    unfold wp_X12_spellsAhead_45
    simp (discharger := omega) only [nlit, iI_lit, iI_add, iI_sub, iI_mul, iI_neg, bI_z, bI_o, i10, i01, eq_self, bI_nar, nar_0, nar_1, bI_t, bI_f, Option.some.injEq, exists_eq_left', true_and, and_true, forall_eq, not_true_eq_false, not_false_eq_true, forall_const, false_implies, true_implies, Classical.not_not, if_true, if_false, Int.reduceEq, Int.reduceLT, Int.reduceLE, Int.reduceGT, Int.reduceGE, Int.reduceAdd, Int.reduceSub, Int.reduceMul, Int.reduceNeg, Int.reduceNe, Bool.true_and, Bool.and_true, Bool.false_and, Bool.and_false, BEq.rfl, Bool.true_eq_false, Bool.false_eq_true, iI_le]
    rcases hN with ⟨rfl, c⟩ | ⟨rfl, c⟩
    · have c2 : ¬ b ≤ a := by omega
      simp (discharger := omega) only [nlit, iI_lit, iI_add, iI_sub, iI_mul, iI_neg, bI_z, bI_o, i10, i01, eq_self, bI_nar, nar_0, nar_1, bI_t, bI_f, Option.some.injEq, exists_eq_left', true_and, and_true, forall_eq, not_true_eq_false, not_false_eq_true, forall_const, false_implies, true_implies, Classical.not_not, if_true, if_false, Int.reduceEq, Int.reduceLT, Int.reduceLE, Int.reduceGT, Int.reduceGE, Int.reduceAdd, Int.reduceSub, Int.reduceMul, Int.reduceNeg, Int.reduceNe, Bool.true_and, Bool.and_true, Bool.false_and, Bool.and_false, BEq.rfl, Bool.true_eq_false, Bool.false_eq_true, c2]; exact k57
    · have c2 : b ≤ a := by omega
      simp (discharger := omega) only [nlit, iI_lit, iI_add, iI_sub, iI_mul, iI_neg, bI_z, bI_o, i10, i01, eq_self, bI_nar, nar_0, nar_1, bI_t, bI_f, Option.some.injEq, exists_eq_left', true_and, and_true, forall_eq, not_true_eq_false, not_false_eq_true, forall_const, false_implies, true_implies, Classical.not_not, if_true, if_false, Int.reduceEq, Int.reduceLT, Int.reduceLE, Int.reduceGT, Int.reduceGE, Int.reduceAdd, Int.reduceSub, Int.reduceMul, Int.reduceNeg, Int.reduceNe, Bool.true_and, Bool.and_true, Bool.false_and, Bool.and_false, BEq.rfl, Bool.true_eq_false, Bool.false_eq_true, c2]; exact k57
end
