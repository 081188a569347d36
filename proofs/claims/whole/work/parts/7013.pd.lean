def legB (F R : Int) (v : Int → Int) (a b : Int) : Bool := goB F R v a b && !chkB F R (mkV F R v a b 0) (v 64)
def bec4 (a b : Int) : Bool → List Mv
  | true => [(a, b, 2), (a, b, 3), (a, b, 4), (a, b, 5)]
  | false => [(a, b, 0)]
def mTo (F R : Int) (v : Int → Int) (a b : Int) : Nat → List Mv
  | 0 => []
  | d + 1 => (if legB F R v a b then bec4 a b (becB F R v a b) else []) ++ mTo F R v a (b + 1) d
def mFrom (F R : Int) (v : Int → Int) (a : Int) : Nat → List Mv
  | 0 => []
  | d + 1 => (if isOfB (v a) (v 64) then mTo F R v a 0 (F * R).toNat else []) ++ mFrom F R v (a + 1) d
/-- all moves of a position, in their order -/
def movesL (F R : Int) (v : Int → Int) : List Mv := mFrom F R v 0 (F * R).toNat
section
variable {D : wD} {S : wS} {x : Nat} {A : Nat → Nat} {m : xM} {F R : Int} {post : wS → Prop}
theorem q_moves_101 (h : XC D S x A) {k15 : wS → Nat → Int32 → Int32 → Int32 → Prop} {k26 : wS → Nat → Int32 → Int32 → Int32 → Int32 → Prop} {l its a b : Int} {w : Int → Int} (hl : 0 ≤ l ∧ l < 7) (bec : Bool) : ∀ (n : Nat) (i d : Nat) (L : List Mv), d < n →
    (bec = true → i + d = 4) → (bec = false → i + d = 1) → L.length + d ≤ 320 →
    wp_X12_moves_132 D post k15 k26 (xS S x A (lsM m l (L ++ (bec4 a b bec).drop i) w)) x (iI l) (iI its) (iI a) (iI b) →
    wp_X12_moves_101 D post k15 k26 n (xS S x A (lsM m l L w)) x (iI l) (iI its) (iI a) (iI b) (iI (bI bec)) (iI ((if bec then 2 else 0) + i)) := by
  intro n
  induction n with
  | zero => intro i d L hd; omega
  | succ n ih =>
    intro i d L hd ht hf hL k
    unfold wp_X12_moves_101
    cases bec
    · have e := hf rfl
      simp (discharger := omega) only [nlit, iI_lit, iI_add, iI_sub, iI_mul, iI_neg, bI_z, bI_o, i10, i01, eq_self, bI_nar, nar_0, nar_1, bI_t, bI_f, Option.some.injEq, exists_eq_left', true_and, and_true, forall_eq, not_true_eq_false, not_false_eq_true, forall_const, false_implies, true_implies, Classical.not_not, if_true, if_false, Int.reduceEq, Int.reduceLT, Int.reduceLE, Int.reduceGT, Int.reduceGE, Int.reduceAdd, Int.reduceSub, Int.reduceMul, Int.reduceNeg, Int.reduceNe, Bool.true_and, Bool.and_true, Bool.false_and, Bool.and_false, BEq.rfl, Bool.true_eq_false, Bool.false_eq_true, wp_X12_moves_113]
      rw [iI_lt (by omega) (by omega) (by omega) (by omega)]
      cases d with
      | zero =>
        have : i = 1 := by omega
        subst this
        have : (0 : Int) < 0 + ((1 : Nat) : Int) := by decide
        simp (discharger := omega) only [nlit, iI_lit, iI_add, iI_sub, iI_mul, iI_neg, bI_z, bI_o, i10, i01, eq_self, bI_nar, nar_0, nar_1, bI_t, bI_f, Option.some.injEq, exists_eq_left', true_and, and_true, forall_eq, not_true_eq_false, not_false_eq_true, forall_const, false_implies, true_implies, Classical.not_not, if_true, if_false, Int.reduceEq, Int.reduceLT, Int.reduceLE, Int.reduceGT, Int.reduceGE, Int.reduceAdd, Int.reduceSub, Int.reduceMul, Int.reduceNeg, Int.reduceNe, Bool.true_and, Bool.and_true, Bool.false_and, Bool.and_false, BEq.rfl, Bool.true_eq_false, Bool.false_eq_true, this]
        simpa [bec4] using k
      | succ d =>
        have : i = 0 := by omega
        subst this
        have : ¬ (0 : Int) < 0 + ((0 : Nat) : Int) := by decide
        simp (discharger := omega) only [nlit, iI_lit, iI_add, iI_sub, iI_mul, iI_neg, bI_z, bI_o, i10, i01, eq_self, bI_nar, nar_0, nar_1, bI_t, bI_f, Option.some.injEq, exists_eq_left', true_and, and_true, forall_eq, not_true_eq_false, not_false_eq_true, forall_const, false_implies, true_implies, Classical.not_not, if_true, if_false, Int.reduceEq, Int.reduceLT, Int.reduceLE, Int.reduceGT, Int.reduceGE, Int.reduceAdd, Int.reduceSub, Int.reduceMul, Int.reduceNeg, Int.reduceNe, Bool.true_and, Bool.and_true, Bool.false_and, Bool.and_false, BEq.rfl, Bool.true_eq_false, Bool.false_eq_true, this]
        refine q_lists h hl (by omega) ?_
        have := ih 1 d (L ++ [(a, b, 0 + ((0 : Nat) : Int))]) (by omega) (fun z => by cases z) (fun _ => by omega) (by simp; omega) (by simpa [bec4] using k)
        exact this
    · have e := ht rfl
      simp (discharger := omega) only [nlit, iI_lit, iI_add, iI_sub, iI_mul, iI_neg, bI_z, bI_o, i10, i01, eq_self, bI_nar, nar_0, nar_1, bI_t, bI_f, Option.some.injEq, exists_eq_left', true_and, and_true, forall_eq, not_true_eq_false, not_false_eq_true, forall_const, false_implies, true_implies, Classical.not_not, if_true, if_false, Int.reduceEq, Int.reduceLT, Int.reduceLE, Int.reduceGT, Int.reduceGE, Int.reduceAdd, Int.reduceSub, Int.reduceMul, Int.reduceNeg, Int.reduceNe, Bool.true_and, Bool.and_true, Bool.false_and, Bool.and_false, BEq.rfl, Bool.true_eq_false, Bool.false_eq_true, wp_X12_moves_113]
      rw [iI_lt (by omega) (by omega) (by omega) (by omega)]
      cases d with
      | zero =>
        have : i = 4 := by omega
        subst this
        have : (5 : Int) < 2 + ((4 : Nat) : Int) := by decide
        simp (discharger := omega) only [nlit, iI_lit, iI_add, iI_sub, iI_mul, iI_neg, bI_z, bI_o, i10, i01, eq_self, bI_nar, nar_0, nar_1, bI_t, bI_f, Option.some.injEq, exists_eq_left', true_and, and_true, forall_eq, not_true_eq_false, not_false_eq_true, forall_const, false_implies, true_implies, Classical.not_not, if_true, if_false, Int.reduceEq, Int.reduceLT, Int.reduceLE, Int.reduceGT, Int.reduceGE, Int.reduceAdd, Int.reduceSub, Int.reduceMul, Int.reduceNeg, Int.reduceNe, Bool.true_and, Bool.and_true, Bool.false_and, Bool.and_false, BEq.rfl, Bool.true_eq_false, Bool.false_eq_true, this]
        simpa [bec4] using k
      | succ d =>
        have : ¬ (5 : Int) < 2 + (i : Int) := by omega
        simp (discharger := omega) only [nlit, iI_lit, iI_add, iI_sub, iI_mul, iI_neg, bI_z, bI_o, i10, i01, eq_self, bI_nar, nar_0, nar_1, bI_t, bI_f, Option.some.injEq, exists_eq_left', true_and, and_true, forall_eq, not_true_eq_false, not_false_eq_true, forall_const, false_implies, true_implies, Classical.not_not, if_true, if_false, Int.reduceEq, Int.reduceLT, Int.reduceLE, Int.reduceGT, Int.reduceGE, Int.reduceAdd, Int.reduceSub, Int.reduceMul, Int.reduceNeg, Int.reduceNe, Bool.true_and, Bool.and_true, Bool.false_and, Bool.and_false, BEq.rfl, Bool.true_eq_false, Bool.false_eq_true, this]
        refine q_lists h hl (by omega) ?_
        have k2 : wp_X12_moves_132 D post k15 k26 (xS S x A (lsM m l (L ++ [(a, b, 2 + (i : Int))] ++ (bec4 a b true).drop (i + 1)) w)) x (iI l) (iI its) (iI a) (iI b) := by
          rcases (show i = 0 ∨ i = 1 ∨ i = 2 ∨ i = 3 by omega) with rfl | rfl | rfl | rfl <;> simpa [bec4] using k
        have := ih (i + 1) d (L ++ [(a, b, 2 + (i : Int))]) (by omega) (fun _ => by omega) (fun z => by cases z) (by simp; omega) k2
        rw [Int.add_assoc]
        exact this
/-- what a move makes of a position is one again, with the mover's king -/
def goodG (F R : Int) (v : Int → Int) : Prop := ∀ a b c, 0 ≤ a → a < F * R → 0 ≤ b → b < F * R → 0 ≤ c → c ≤ 5 → (c = 0 ∨ kindO (v a) = 6) → isOfB (v a) (v 64) = true → goB F R v a b = true → okV F R (mkV F R v a b c) ∧ kingB F R (mkV F R v a b c) (v 64) < F * R
theorem q_moves_26 (h : XC D S x A) (hB : XB m F R) {k15 : wS → Nat → Int32 → Int32 → Int32 → Prop} {l a : Int} (hl : 0 ≤ l ∧ l < 7) (hv : okV F R (lv m l)) (hG : goodG F R (lv m l)) (ha : 0 ≤ a ∧ a < F * R) (hi : isOfB (lv m l a) (lv m l 64) = true) : ∀ (n d : Nat) (b : Int) (L : List Mv) (w : Int → Int), d < n → b + d = F * R → 0 ≤ b →
    L.length + (mTo F R (lv m l) a b d).length ≤ 320 → clV w →
    (∀ w', clV w' → wp_X12_moves_138 D post k15 (xS S x A (lsM m l (L ++ mTo F R (lv m l) a b d) w')) x (iI l) (iI (lv m l 64)) (iI a)) →
    wp_X12_moves_26 D post k15 n (xS S x A (lsM m l L w)) x (iI l) (iI (lv m l 64)) (iI a) (iI b) := by
  have h4 := hB.f4; have h8 := hB.f8; have r4 := hB.r4; have r8 := hB.r8
  have hn := hB.n
  have hs := hv.s
  have hp := hv.p a (by omega) (by omega)
  intro n
  induction n with
  | zero => intro d b L w hd; omega
  | succ n ih =>
    intro d b L w hd hb h0 hL hw k
    have hB1 := hB.ls l L w
    have el := lsM_lv m l L w
    have hv1 : okV F R (lv (lsM m l L w) l) := by rw [el]; exact hv
    unfold wp_X12_moves_26
    rw [q_on h (by omega) (by omega) (by omega), el, q_isOf hp hs, hi]
    simp (discharger := omega) only [nlit, iI_lit, iI_add, iI_sub, iI_mul, iI_neg, bI_z, bI_o, i10, i01, eq_self, bI_nar, nar_0, nar_1, bI_t, bI_f, Option.some.injEq, exists_eq_left', true_and, and_true, forall_eq, not_true_eq_false, not_false_eq_true, forall_const, false_implies, true_implies, Classical.not_not, if_true, if_false, Int.reduceEq, Int.reduceLT, Int.reduceLE, Int.reduceGT, Int.reduceGE, Int.reduceAdd, Int.reduceSub, Int.reduceMul, Int.reduceNeg, Int.reduceNe, Bool.true_and, Bool.and_true, Bool.false_and, Bool.and_false, BEq.rfl, Bool.true_eq_false, Bool.false_eq_true]
    rw [q_squares hB1]
    simp (discharger := omega) only [nlit, iI_lit, iI_add, iI_sub, iI_mul, iI_neg, bI_z, bI_o, i10, i01, eq_self, bI_nar, nar_0, nar_1, bI_t, bI_f, Option.some.injEq, exists_eq_left', true_and, and_true, forall_eq, not_true_eq_false, not_false_eq_true, forall_const, false_implies, true_implies, Classical.not_not, if_true, if_false, Int.reduceEq, Int.reduceLT, Int.reduceLE, Int.reduceGT, Int.reduceGE, Int.reduceAdd, Int.reduceSub, Int.reduceMul, Int.reduceNeg, Int.reduceNe, Bool.true_and, Bool.and_true, Bool.false_and, Bool.and_false, BEq.rfl, Bool.true_eq_false, Bool.false_eq_true, iI_le]
    cases d with
    | zero =>
      have e : F * R ≤ b := by omega
      simp (discharger := omega) only [nlit, iI_lit, iI_add, iI_sub, iI_mul, iI_neg, bI_z, bI_o, i10, i01, eq_self, bI_nar, nar_0, nar_1, bI_t, bI_f, Option.some.injEq, exists_eq_left', true_and, and_true, forall_eq, not_true_eq_false, not_false_eq_true, forall_const, false_implies, true_implies, Classical.not_not, if_true, if_false, Int.reduceEq, Int.reduceLT, Int.reduceLE, Int.reduceGT, Int.reduceGE, Int.reduceAdd, Int.reduceSub, Int.reduceMul, Int.reduceNeg, Int.reduceNe, Bool.true_and, Bool.and_true, Bool.false_and, Bool.and_false, BEq.rfl, Bool.true_eq_false, Bool.false_eq_true, e]
      have := k w hw
      simpa [mTo] using this
    | succ d =>
      have e : ¬ F * R ≤ b := by omega
      simp (discharger := omega) only [nlit, iI_lit, iI_add, iI_sub, iI_mul, iI_neg, bI_z, bI_o, i10, i01, eq_self, bI_nar, nar_0, nar_1, bI_t, bI_f, Option.some.injEq, exists_eq_left', true_and, and_true, forall_eq, not_true_eq_false, not_false_eq_true, forall_const, false_implies, true_implies, Classical.not_not, if_true, if_false, Int.reduceEq, Int.reduceLT, Int.reduceLE, Int.reduceGT, Int.reduceGE, Int.reduceAdd, Int.reduceSub, Int.reduceMul, Int.reduceNeg, Int.reduceNe, Bool.true_and, Bool.and_true, Bool.false_and, Bool.and_false, BEq.rfl, Bool.true_eq_false, Bool.false_eq_true, e]
      have nx : ∀ L' w', clV w' → (L' = L ++ (if legB F R (lv m l) a b then bec4 a b (becB F R (lv m l) a b) else [])) →
          wp_X12_moves_132 D post k15 (wp_X12_moves_26 D post k15 n) (xS S x A (lsM m l L' w')) x (iI l) (iI (lv m l 64)) (iI a) (iI b) := by
        intro L' w' hw' hL'
        have hmt : mTo F R (lv m l) a b (d + 1) = (if legB F R (lv m l) a b then bec4 a b (becB F R (lv m l) a b) else []) ++ mTo F R (lv m l) a (b + 1) d := rfl
        simp (discharger := omega) only [nlit, iI_lit, iI_add, iI_sub, iI_mul, iI_neg, bI_z, bI_o, i10, i01, eq_self, bI_nar, nar_0, nar_1, bI_t, bI_f, Option.some.injEq, exists_eq_left', true_and, and_true, forall_eq, not_true_eq_false, not_false_eq_true, forall_const, false_implies, true_implies, Classical.not_not, if_true, if_false, Int.reduceEq, Int.reduceLT, Int.reduceLE, Int.reduceGT, Int.reduceGE, Int.reduceAdd, Int.reduceSub, Int.reduceMul, Int.reduceNeg, Int.reduceNe, Bool.true_and, Bool.and_true, Bool.false_and, Bool.and_false, BEq.rfl, Bool.true_eq_false, Bool.false_eq_true, wp_X12_moves_132]
        refine ih d (b + 1) L' w' (by omega) (by omega) (by omega) ?_ hw' ?_
        · rw [hmt, List.length_append] at hL
          rw [hL', List.length_append]
          omega
        · intro w2 hw2
          have := k w2 hw2
          rw [hmt, ← List.append_assoc, ← hL'] at this
          exact this
      refine q_goes h hB1 (by omega) hv1 ha (by omega) ?_
      rw [el]
      simp (discharger := omega) only [nlit, iI_lit, iI_add, iI_sub, iI_mul, iI_neg, bI_z, bI_o, i10, i01, eq_self, bI_nar, nar_0, nar_1, bI_t, bI_f, Option.some.injEq, exists_eq_left', true_and, and_true, forall_eq, not_true_eq_false, not_false_eq_true, forall_const, false_implies, true_implies, Classical.not_not, if_true, if_false, Int.reduceEq, Int.reduceLT, Int.reduceLE, Int.reduceGT, Int.reduceGE, Int.reduceAdd, Int.reduceSub, Int.reduceMul, Int.reduceNeg, Int.reduceNe, Bool.true_and, Bool.and_true, Bool.false_and, Bool.and_false, BEq.rfl, Bool.true_eq_false, Bool.false_eq_true]
      cases c1 : goB F R (lv m l) a b
      · simp (discharger := omega) only [nlit, iI_lit, iI_add, iI_sub, iI_mul, iI_neg, bI_z, bI_o, i10, i01, eq_self, bI_nar, nar_0, nar_1, bI_t, bI_f, Option.some.injEq, exists_eq_left', true_and, and_true, forall_eq, not_true_eq_false, not_false_eq_true, forall_const, false_implies, true_implies, Classical.not_not, if_true, if_false, Int.reduceEq, Int.reduceLT, Int.reduceLE, Int.reduceGT, Int.reduceGE, Int.reduceAdd, Int.reduceSub, Int.reduceMul, Int.reduceNeg, Int.reduceNe, Bool.true_and, Bool.and_true, Bool.false_and, Bool.and_false, BEq.rfl, Bool.true_eq_false, Bool.false_eq_true]
        exact nx L w hw (by simp [legB, c1])
      · simp (discharger := omega) only [nlit, iI_lit, iI_add, iI_sub, iI_mul, iI_neg, bI_z, bI_o, i10, i01, eq_self, bI_nar, nar_0, nar_1, bI_t, bI_f, Option.some.injEq, exists_eq_left', true_and, and_true, forall_eq, not_true_eq_false, not_false_eq_true, forall_const, false_implies, true_implies, Classical.not_not, if_true, if_false, Int.reduceEq, Int.reduceLT, Int.reduceLE, Int.reduceGT, Int.reduceGE, Int.reduceAdd, Int.reduceSub, Int.reduceMul, Int.reduceNeg, Int.reduceNe, Bool.true_and, Bool.and_true, Bool.false_and, Bool.and_false, BEq.rfl, Bool.true_eq_false, Bool.false_eq_true]
        obtain ⟨g1, g2⟩ := hG a b 0 ha.1 ha.2 h0 (by omega) (by decide) (by decide) (Or.inl rfl) hi c1
        obtain ⟨-, -, -, c6, -, -⟩ := mk6_ok (bec := 0) h4 h8 r4 r8 hv (lv_clV m l) ha ⟨h0, by omega⟩ (by decide)
        have cm : clV (mkV F R (lv m l) a b 0) := clV_up c6 (by decide)
        have en : lv (lsM m l L (mkV F R (lv m l) a b 0)) (l + 1) = mkV F R (lv m l) a b 0 := lsM_next cm
        have el2 := lsM_lv m l L (mkV F R (lv m l) a b 0)
        have hB2 := hB.ls l L (mkV F R (lv m l) a b 0)
        refine q_makes h hB1 hl hv1 ha (by omega) (by decide) ?_
        rw [el, lsM_putV]
        refine q_isInCheck h hB2 (by omega) (by rw [en]; exact g1) hs (by rw [en]; exact g2) ?_
        rw [en]
        simp (discharger := omega) only [nlit, iI_lit, iI_add, iI_sub, iI_mul, iI_neg, bI_z, bI_o, i10, i01, eq_self, bI_nar, nar_0, nar_1, bI_t, bI_f, Option.some.injEq, exists_eq_left', true_and, and_true, forall_eq, not_true_eq_false, not_false_eq_true, forall_const, false_implies, true_implies, Classical.not_not, if_true, if_false, Int.reduceEq, Int.reduceLT, Int.reduceLE, Int.reduceGT, Int.reduceGE, Int.reduceAdd, Int.reduceSub, Int.reduceMul, Int.reduceNeg, Int.reduceNe, Bool.true_and, Bool.and_true, Bool.false_and, Bool.and_false, BEq.rfl, Bool.true_eq_false, Bool.false_eq_true]
        cases c2 : chkB F R (mkV F R (lv m l) a b 0) (lv m l 64)
        · simp (discharger := omega) only [nlit, iI_lit, iI_add, iI_sub, iI_mul, iI_neg, bI_z, bI_o, i10, i01, eq_self, bI_nar, nar_0, nar_1, bI_t, bI_f, Option.some.injEq, exists_eq_left', true_and, and_true, forall_eq, not_true_eq_false, not_false_eq_true, forall_const, false_implies, true_implies, Classical.not_not, if_true, if_false, Int.reduceEq, Int.reduceLT, Int.reduceLE, Int.reduceGT, Int.reduceGE, Int.reduceAdd, Int.reduceSub, Int.reduceMul, Int.reduceNeg, Int.reduceNe, Bool.true_and, Bool.and_true, Bool.false_and, Bool.and_false, BEq.rfl, Bool.true_eq_false, Bool.false_eq_true]
          refine q_isBecoming h hB2 (by omega) (by rw [el2]; exact hv) (by omega) (by omega) ?_
          rw [el2]
          simp (discharger := omega) only [nlit, iI_lit, iI_add, iI_sub, iI_mul, iI_neg, bI_z, bI_o, i10, i01, eq_self, bI_nar, nar_0, nar_1, bI_t, bI_f, Option.some.injEq, exists_eq_left', true_and, and_true, forall_eq, not_true_eq_false, not_false_eq_true, forall_const, false_implies, true_implies, Classical.not_not, if_true, if_false, Int.reduceEq, Int.reduceLT, Int.reduceLE, Int.reduceGT, Int.reduceGE, Int.reduceAdd, Int.reduceSub, Int.reduceMul, Int.reduceNeg, Int.reduceNe, Bool.true_and, Bool.and_true, Bool.false_and, Bool.and_false, BEq.rfl, Bool.true_eq_false, Bool.false_eq_true]
          have hlg : legB F R (lv m l) a b = true := by simp [legB, c1, c2]
          have hmt : mTo F R (lv m l) a b (d + 1) = bec4 a b (becB F R (lv m l) a b) ++ mTo F R (lv m l) a (b + 1) d := by
            show (if legB F R (lv m l) a b then _ else _) ++ _ = _
            rw [if_pos hlg]
          have nx2 := nx (L ++ bec4 a b (becB F R (lv m l) a b)) (mkV F R (lv m l) a b 0) cm (by rw [if_pos hlg])
          rw [hmt, List.length_append] at hL
          cases c3 : becB F R (lv m l) a b
          · rw [c3] at nx2 hL
            simp (discharger := omega) only [nlit, iI_lit, iI_add, iI_sub, iI_mul, iI_neg, bI_z, bI_o, i10, i01, eq_self, bI_nar, nar_0, nar_1, bI_t, bI_f, Option.some.injEq, exists_eq_left', true_and, and_true, forall_eq, not_true_eq_false, not_false_eq_true, forall_const, false_implies, true_implies, Classical.not_not, if_true, if_false, Int.reduceEq, Int.reduceLT, Int.reduceLE, Int.reduceGT, Int.reduceGE, Int.reduceAdd, Int.reduceSub, Int.reduceMul, Int.reduceNeg, Int.reduceNe, Bool.true_and, Bool.and_true, Bool.false_and, Bool.and_false, BEq.rfl, Bool.true_eq_false, Bool.false_eq_true]
            refine ⟨2, ?_⟩
            have := q_moves_101 (w := mkV F R (lv m l) a b 0) (its := lv m l 64) (a := a) (b := b) (post := post) (k15 := k15) (k26 := wp_X12_moves_26 D post k15 n) h hl false 2 0 1 L (by decide) (fun z => by cases z) (fun _ => rfl) (by simp [bec4] at hL; omega) (by simpa using nx2)
            simpa [bI] using this
          · rw [c3] at nx2 hL
            simp (discharger := omega) only [nlit, iI_lit, iI_add, iI_sub, iI_mul, iI_neg, bI_z, bI_o, i10, i01, eq_self, bI_nar, nar_0, nar_1, bI_t, bI_f, Option.some.injEq, exists_eq_left', true_and, and_true, forall_eq, not_true_eq_false, not_false_eq_true, forall_const, false_implies, true_implies, Classical.not_not, if_true, if_false, Int.reduceEq, Int.reduceLT, Int.reduceLE, Int.reduceGT, Int.reduceGE, Int.reduceAdd, Int.reduceSub, Int.reduceMul, Int.reduceNeg, Int.reduceNe, Bool.true_and, Bool.and_true, Bool.false_and, Bool.and_false, BEq.rfl, Bool.true_eq_false, Bool.false_eq_true]
            refine ⟨5, ?_⟩
            have := q_moves_101 (w := mkV F R (lv m l) a b 0) (its := lv m l 64) (a := a) (b := b) (post := post) (k15 := k15) (k26 := wp_X12_moves_26 D post k15 n) h hl true 5 0 4 L (by decide) (fun _ => rfl) (fun z => by cases z) (by simp [bec4] at hL; omega) (by simpa using nx2)
            simpa [bI] using this
        · simp (discharger := omega) only [nlit, iI_lit, iI_add, iI_sub, iI_mul, iI_neg, bI_z, bI_o, i10, i01, eq_self, bI_nar, nar_0, nar_1, bI_t, bI_f, Option.some.injEq, exists_eq_left', true_and, and_true, forall_eq, not_true_eq_false, not_false_eq_true, forall_const, false_implies, true_implies, Classical.not_not, if_true, if_false, Int.reduceEq, Int.reduceLT, Int.reduceLE, Int.reduceGT, Int.reduceGE, Int.reduceAdd, Int.reduceSub, Int.reduceMul, Int.reduceNeg, Int.reduceNe, Bool.true_and, Bool.and_true, Bool.false_and, Bool.and_false, BEq.rfl, Bool.true_eq_false, Bool.false_eq_true]
          exact nx L _ cm (by simp [legB, c1, c2])
theorem q_moves_15 (h : XC D S x A) (hB : XB m F R) {l : Int} (hl : 0 ≤ l ∧ l < 7) (hv : okV F R (lv m l)) (hG : goodG F R (lv m l)) : ∀ (n d : Nat) (a : Int) (L : List Mv) (w : Int → Int), d < n → a + d = F * R → 0 ≤ a →
    L.length + (mFrom F R (lv m l) a d).length ≤ 320 → clV w →
    (∀ w', clV w' → post (xS S x A (lsM m l (L ++ mFrom F R (lv m l) a d) w'))) →
    wp_X12_moves_15 D post n (xS S x A (lsM m l L w)) x (iI l) (iI (lv m l 64)) (iI a) := by
  have hn := hB.n
  have hs := hv.s
  intro n
  induction n with
  | zero => intro d a L w hd; omega
  | succ n ih =>
    intro d a L w hd ha h0 hL hw k
    have hB1 := hB.ls l L w
    have el := lsM_lv m l L w
    unfold wp_X12_moves_15
    rw [q_squares hB1]
    simp (discharger := omega) only [nlit, iI_lit, iI_add, iI_sub, iI_mul, iI_neg, bI_z, bI_o, i10, i01, eq_self, bI_nar, nar_0, nar_1, bI_t, bI_f, Option.some.injEq, exists_eq_left', true_and, and_true, forall_eq, not_true_eq_false, not_false_eq_true, forall_const, false_implies, true_implies, Classical.not_not, if_true, if_false, Int.reduceEq, Int.reduceLT, Int.reduceLE, Int.reduceGT, Int.reduceGE, Int.reduceAdd, Int.reduceSub, Int.reduceMul, Int.reduceNeg, Int.reduceNe, Bool.true_and, Bool.and_true, Bool.false_and, Bool.and_false, BEq.rfl, Bool.true_eq_false, Bool.false_eq_true, iI_le]
    cases d with
    | zero =>
      have e : F * R ≤ a := by omega
      simp (discharger := omega) only [nlit, iI_lit, iI_add, iI_sub, iI_mul, iI_neg, bI_z, bI_o, i10, i01, eq_self, bI_nar, nar_0, nar_1, bI_t, bI_f, Option.some.injEq, exists_eq_left', true_and, and_true, forall_eq, not_true_eq_false, not_false_eq_true, forall_const, false_implies, true_implies, Classical.not_not, if_true, if_false, Int.reduceEq, Int.reduceLT, Int.reduceLE, Int.reduceGT, Int.reduceGE, Int.reduceAdd, Int.reduceSub, Int.reduceMul, Int.reduceNeg, Int.reduceNe, Bool.true_and, Bool.and_true, Bool.false_and, Bool.and_false, BEq.rfl, Bool.true_eq_false, Bool.false_eq_true, e]
      have := k w hw
      simpa [mFrom] using this
    | succ d =>
      have e : ¬ F * R ≤ a := by omega
      have hp := hv.p a (by omega) (by omega)
      simp (discharger := omega) only [nlit, iI_lit, iI_add, iI_sub, iI_mul, iI_neg, bI_z, bI_o, i10, i01, eq_self, bI_nar, nar_0, nar_1, bI_t, bI_f, Option.some.injEq, exists_eq_left', true_and, and_true, forall_eq, not_true_eq_false, not_false_eq_true, forall_const, false_implies, true_implies, Classical.not_not, if_true, if_false, Int.reduceEq, Int.reduceLT, Int.reduceLE, Int.reduceGT, Int.reduceGE, Int.reduceAdd, Int.reduceSub, Int.reduceMul, Int.reduceNeg, Int.reduceNe, Bool.true_and, Bool.and_true, Bool.false_and, Bool.and_false, BEq.rfl, Bool.true_eq_false, Bool.false_eq_true, e]
      have hmf : mFrom F R (lv m l) a (d + 1) = (if isOfB (lv m l a) (lv m l 64) then mTo F R (lv m l) a 0 (F * R).toNat else []) ++ mFrom F R (lv m l) (a + 1) d := rfl
      rw [hmf, List.length_append] at hL
      have nx : ∀ w', clV w' → wp_X12_moves_138 D post (wp_X12_moves_15 D post n) (xS S x A (lsM m l (L ++ (if isOfB (lv m l a) (lv m l 64) then mTo F R (lv m l) a 0 (F * R).toNat else [])) w')) x (iI l) (iI (lv m l 64)) (iI a) := by
        intro w' hw'
        simp (discharger := omega) only [nlit, iI_lit, iI_add, iI_sub, iI_mul, iI_neg, bI_z, bI_o, i10, i01, eq_self, bI_nar, nar_0, nar_1, bI_t, bI_f, Option.some.injEq, exists_eq_left', true_and, and_true, forall_eq, not_true_eq_false, not_false_eq_true, forall_const, false_implies, true_implies, Classical.not_not, if_true, if_false, Int.reduceEq, Int.reduceLT, Int.reduceLE, Int.reduceGT, Int.reduceGE, Int.reduceAdd, Int.reduceSub, Int.reduceMul, Int.reduceNeg, Int.reduceNe, Bool.true_and, Bool.and_true, Bool.false_and, Bool.and_false, BEq.rfl, Bool.true_eq_false, Bool.false_eq_true, wp_X12_moves_138]
        refine ih d (a + 1) _ w' (by omega) (by omega) (by omega) (by rw [List.length_append]; omega) hw' ?_
        intro w2 hw2
        have := k w2 hw2
        rw [hmf, ← List.append_assoc] at this
        exact this
      refine ⟨65, ?_⟩
      cases c : isOfB (lv m l a) (lv m l 64)
      · have := nx w hw
        rw [c] at this
        unfold wp_X12_moves_26
        rw [q_on h (by omega) (by omega) (by omega), el, q_isOf hp hs, c]
        simp (discharger := omega) only [nlit, iI_lit, iI_add, iI_sub, iI_mul, iI_neg, bI_z, bI_o, i10, i01, eq_self, bI_nar, nar_0, nar_1, bI_t, bI_f, Option.some.injEq, exists_eq_left', true_and, and_true, forall_eq, not_true_eq_false, not_false_eq_true, forall_const, false_implies, true_implies, Classical.not_not, if_true, if_false, Int.reduceEq, Int.reduceLT, Int.reduceLE, Int.reduceGT, Int.reduceGE, Int.reduceAdd, Int.reduceSub, Int.reduceMul, Int.reduceNeg, Int.reduceNe, Bool.true_and, Bool.and_true, Bool.false_and, Bool.and_false, BEq.rfl, Bool.true_eq_false, Bool.false_eq_true]
        simpa using this
      · rw [c] at nx hL
        simp only [if_true] at nx hL
        exact q_moves_26 h hB hl hv hG ⟨h0, by omega⟩ c 65 (F * R).toNat 0 L w (by omega) (by omega) (by omega) (by omega) hw nx
theorem q_moves (h : XC D S x A) (hB : XB m F R) {l : Int} (hl : 0 ≤ l ∧ l < 7) (hv : okV F R (lv m l)) (hG : goodG F R (lv m l)) (hL : (movesL F R (lv m l)).length ≤ 320)
    (k : ∀ w, clV w → post (xS S x A (lsM m l (movesL F R (lv m l)) w))) : wp_X12_moves D post (xS S x A m) x (iI l) := by
  have hn := hB.n
  have i1 : vp_in (iI l) 8 := iI_in (by omega) (by omega) (by omega)
  have e0 : up m 7 l 0 = lsM m l [] (lv m (l + 1)) := by
    have : lv (putL m l []) (l + 1) = lv m (l + 1) := lv_putL _ _ _ _
    unfold lsM
    rw [← this, putV_lv]
    funext r j
    unfold up putL
    by_cases c : r = 7 ∧ j = l
    · rw [if_pos c, if_pos c]; rfl
    · rw [if_neg c, if_neg c, if_neg]; simp
  simp (discharger := first | decide | omega) only [x_own h, x_kd h, x_r h, x_m h, x_l h, x_k h, x_n h, x_i0, x_i h, x_u0 h, x_u h, xLen, xKd, nlit, iI_lit, iI_add, iI_sub, iI_mul, iI_neg, bI_z, bI_o, i10, i01, eq_self, bI_nar, nar_0, nar_1, up_at, up_f, Option.some.injEq, exists_eq_left', true_and, and_true, forall_eq, not_true_eq_false, not_false_eq_true, forall_const, false_implies, true_implies, Classical.not_not, if_true, if_false, Int.reduceEq, Int.reduceLT, Int.reduceLE, Int.reduceGT, Int.reduceGE, Int.reduceAdd, Int.reduceSub, Int.reduceMul, Int.reduceNeg, Int.reduceNe, wp_X12_moves, wp_X12_moves_0, eq_true i1]
  rw [e0, q_side h (by omega), lsM_lv]
  refine ⟨65, ?_⟩
  exact q_moves_15 h hB hl hv hG 65 (F * R).toNat 0 [] _ (by omega) (by omega) (by omega) (by simpa [movesL] using hL) (lv_clV _ _) (by simpa [movesL] using k)
end
