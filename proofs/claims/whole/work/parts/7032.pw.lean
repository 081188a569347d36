/-- whether a side to move mates by a move -/
def mate1 (F R : Int) (v : Int → Int) : Bool := (movesL F R v).any fun t => mateB F R (mkT F R v t)
/-- whether a move's position is one of a key of n half moves -/
def keyB (F R : Int) (u : Int → Int) (n : Int) : Bool := if n = 1 then mateB F R u else ((movesL F R u).all fun t => mate1 F R (mkT F R u t)) && decide (0 < (movesL F R u).length)
def keysB (F R : Int) (v : Int → Int) (n : Int) : Int := ((movesL F R v).map fun t => bI (keyB F R (mkT F R v t) n)).sum
section
variable {D : wD} {S : wS} {x : Nat} {A : Nat → Nat} {m : xM} {F R : Int}
theorem q_mateM {post : Int32 → wS → Prop} (h : XC D S x A) (hB : XB m F R) {l : Int} {v : Int → Int} (hl : 0 ≤ l ∧ l < 7) (hlv : lv m l = v) (hs : stOK F R v)
    (k : ∀ m', scrM l m m' → post (iI (bI (mateB F R v))) (xS S x A m')) : wp_X12_isMateAt D post (xS S x A m) x (iI l) := by
  subst hlv
  refine q_isMateAt h hB hl hs.1 hs.2.1 hs.2.2 ?_
  intro m' hm'
  rcases hm' with e | ⟨w, -, e⟩
  · subst e; exact k _ (fun _ _ _ _ _ => rfl)
  · subst e; exact k _ (scrM_ls l m _ w)
theorem q_matesAtOnce_7 {post : Int32 → wS → Prop} (h : XC D S x A) {l : Int} {v : Int → Int} (hl : 0 ≤ l ∧ l < 6) (hd : deepOK F R 1 v) {m0 : xM}
    {T : Bool} (k : ∀ m', scrM l m0 m' → post (iI (bI T)) (xS S x A m')) : ∀ (n d : Nat) (j : Nat) (m : xM), d < n → j + d = (movesL F R v).length → XB m F R → AtL l v (movesL F R v) m → scrM l m0 m →
    T = ((movesL F R v).drop j).any (fun t => mateB F R (mkT F R v t)) → wp_X12_matesAtOnce_7 D post n (xS S x A m) x (iI l) (iI j) := by
  have hL := hd.st.2.1.2
  intro n
  induction n with
  | zero => intro d j m hd; omega
  | succ n ih =>
    intro d j m hdn hj hB hA hm hT
    have i8 : vp_in (iI l) 8 := iI_in (by omega) (by omega) (by omega)
    unfold wp_X12_matesAtOnce_7
    simp (discharger := first | decide | omega) only [x_own h, x_kd h, x_r h, x_m h, x_l h, x_k h, x_n h, x_i0, x_i h, x_u0 h, x_u h, xLen, xKd, nlit, iI_lit, iI_add, iI_sub, iI_mul, iI_neg, bI_z, bI_o, i10, i01, eq_self, bI_nar, nar_0, nar_1, up_at, up_f, Option.some.injEq, exists_eq_left', true_and, and_true, forall_eq, not_true_eq_false, not_false_eq_true, forall_const, false_implies, true_implies, Classical.not_not, if_true, if_false, Int.reduceEq, Int.reduceLT, Int.reduceLE, Int.reduceGT, Int.reduceGE, Int.reduceAdd, Int.reduceSub, Int.reduceMul, Int.reduceNeg, Int.reduceNe, eq_true i8, hA.2.1]
    rw [iI_le (by omega) (by omega) (by omega) (by omega)]
    cases d with
    | zero =>
      have e : ((movesL F R v).length : Int) ≤ j := by omega
      simp (discharger := omega) only [nlit, iI_lit, iI_add, iI_sub, iI_mul, iI_neg, bI_z, bI_o, i10, i01, eq_self, bI_nar, nar_0, nar_1, bI_t, bI_f, Option.some.injEq, exists_eq_left', true_and, and_true, forall_eq, not_true_eq_false, not_false_eq_true, forall_const, false_implies, true_implies, Classical.not_not, if_true, if_false, Int.reduceEq, Int.reduceLT, Int.reduceLE, Int.reduceGT, Int.reduceGE, Int.reduceAdd, Int.reduceSub, Int.reduceMul, Int.reduceNeg, Int.reduceNe, Bool.true_and, Bool.and_true, Bool.false_and, Bool.and_false, BEq.rfl, Bool.true_eq_false, Bool.false_eq_true, e]
      have : (movesL F R v).drop j = [] := List.drop_eq_nil_of_le (by omega)
      rw [this] at hT
      simp at hT
      have k := k m hm
      rw [hT] at k
      exact k
    | succ d =>
      have e : ¬ ((movesL F R v).length : Int) ≤ j := by omega
      simp (discharger := omega) only [nlit, iI_lit, iI_add, iI_sub, iI_mul, iI_neg, bI_z, bI_o, i10, i01, eq_self, bI_nar, nar_0, nar_1, bI_t, bI_f, Option.some.injEq, exists_eq_left', true_and, and_true, forall_eq, not_true_eq_false, not_false_eq_true, forall_const, false_implies, true_implies, Classical.not_not, if_true, if_false, Int.reduceEq, Int.reduceLT, Int.reduceLE, Int.reduceGT, Int.reduceGE, Int.reduceAdd, Int.reduceSub, Int.reduceMul, Int.reduceNeg, Int.reduceNe, Bool.true_and, Bool.and_true, Bool.false_and, Bool.and_false, BEq.rfl, Bool.true_eq_false, Bool.false_eq_true, e]
      refine q_mkL h hB (by omega) hA hd.st.1 hd.cl hL (by omega) ?_
      intro m1 t ht hmem s1 el hcl
      have hu := hd.2 t hmem
      have hB1 := hB.scM (scrM.of s1)
      refine q_mateM h hB1 (l := l + 1) (by omega) el hu.st ?_
      intro m2 s2
      have hB2 := hB1.scM s2
      have s12 := s1.trans (scrG.of s2)
      rw [getD_drop (by omega), ← ht] at hT
      simp only [List.any_cons] at hT
      try simp (discharger := omega) only [nlit, iI_lit, iI_add, iI_sub, iI_mul, iI_neg, bI_z, bI_o, i10, i01, eq_self, bI_nar, nar_0, nar_1, bI_t, bI_f, Option.some.injEq, exists_eq_left', true_and, and_true, forall_eq, not_true_eq_false, not_false_eq_true, forall_const, false_implies, true_implies, Classical.not_not, if_true, if_false, Int.reduceEq, Int.reduceLT, Int.reduceLE, Int.reduceGT, Int.reduceGE, Int.reduceAdd, Int.reduceSub, Int.reduceMul, Int.reduceNeg, Int.reduceNe, Bool.true_and, Bool.and_true, Bool.false_and, Bool.and_false, BEq.rfl, Bool.true_eq_false, Bool.false_eq_true]
      cases c : mateB F R (mkT F R v t)
      · rw [c, Bool.false_or] at hT
        try simp (discharger := omega) only [nlit, iI_lit, iI_add, iI_sub, iI_mul, iI_neg, bI_z, bI_o, i10, i01, eq_self, bI_nar, nar_0, nar_1, bI_t, bI_f, Option.some.injEq, exists_eq_left', true_and, and_true, forall_eq, not_true_eq_false, not_false_eq_true, forall_const, false_implies, true_implies, Classical.not_not, if_true, if_false, Int.reduceEq, Int.reduceLT, Int.reduceLE, Int.reduceGT, Int.reduceGE, Int.reduceAdd, Int.reduceSub, Int.reduceMul, Int.reduceNeg, Int.reduceNe, Bool.true_and, Bool.and_true, Bool.false_and, Bool.and_false, BEq.rfl, Bool.true_eq_false, Bool.false_eq_true]
        exact ih d (j + 1) m2 (by omega) (by omega) hB2 (hA.scr s12 hL) (hm.trans (scrM.of s12)) hT
      · rw [c, Bool.true_or] at hT
        try simp (discharger := omega) only [nlit, iI_lit, iI_add, iI_sub, iI_mul, iI_neg, bI_z, bI_o, i10, i01, eq_self, bI_nar, nar_0, nar_1, bI_t, bI_f, Option.some.injEq, exists_eq_left', true_and, and_true, forall_eq, not_true_eq_false, not_false_eq_true, forall_const, false_implies, true_implies, Classical.not_not, if_true, if_false, Int.reduceEq, Int.reduceLT, Int.reduceLE, Int.reduceGT, Int.reduceGE, Int.reduceAdd, Int.reduceSub, Int.reduceMul, Int.reduceNeg, Int.reduceNe, Bool.true_and, Bool.and_true, Bool.false_and, Bool.and_false, BEq.rfl, Bool.true_eq_false, Bool.false_eq_true]
        have k := k m2 (hm.trans (scrM.of s12))
        rw [hT] at k
        exact k
theorem q_matesAtOnce {post : Int32 → wS → Prop} (h : XC D S x A) (hB : XB m F R) {l : Int} {v : Int → Int} (hl : 0 ≤ l ∧ l < 6) (hlv : lv m l = v) (hd : deepOK F R 1 v)
    (k : ∀ m', scrM l m m' → post (iI (bI (mate1 F R v))) (xS S x A m')) : wp_X12_matesAtOnce D post (xS S x A m) x (iI l) := by
  unfold wp_X12_matesAtOnce wp_X12_matesAtOnce_0
  refine q_movesM h hB (by omega) hlv hd.st.1 hd.st.2.1 ?_
  intro m1 s1 hA
  refine ⟨(movesL F R v).length + 1, ?_⟩
  exact q_matesAtOnce_7 h hl hd k _ (movesL F R v).length 0 m1 (by omega) (by omega) (hB.scM s1) hA s1 (by unfold mate1; simp)
theorem q_isKey_24 {post : Int32 → wS → Prop} (h : XC D S x A) {u : Int → Int} (hd : deepOK F R 2 u) {m0 : xM}
    {T : Bool} (k : ∀ m', scrM 1 m0 m' → post (iI (bI (T && decide (0 < (movesL F R u).length)))) (xS S x A m')) : ∀ (n d : Nat) (j : Nat) (m : xM), d < n → j + d = (movesL F R u).length → XB m F R → AtL 1 u (movesL F R u) m → scrM 1 m0 m →
    T = ((movesL F R u).drop j).all (fun t => mate1 F R (mkT F R u t)) → wp_X12_isKey_24 D post n (xS S x A m) x (iI j) := by
  have hL := hd.st.2.1.2
  intro n
  induction n with
  | zero => intro d j m hd; omega
  | succ n ih =>
    intro d j m hdn hj hB hA hm hT
    have i8 : vp_in (iI 1) 8 := iI_in (by omega) (by omega) (by omega)
    unfold wp_X12_isKey_24
    simp (discharger := first | decide | omega) only [x_own h, x_kd h, x_r h, x_m h, x_l h, x_k h, x_n h, x_i0, x_i h, x_u0 h, x_u h, xLen, xKd, nlit, iI_lit, iI_add, iI_sub, iI_mul, iI_neg, bI_z, bI_o, i10, i01, eq_self, bI_nar, nar_0, nar_1, up_at, up_f, Option.some.injEq, exists_eq_left', true_and, and_true, forall_eq, not_true_eq_false, not_false_eq_true, forall_const, false_implies, true_implies, Classical.not_not, if_true, if_false, Int.reduceEq, Int.reduceLT, Int.reduceLE, Int.reduceGT, Int.reduceGE, Int.reduceAdd, Int.reduceSub, Int.reduceMul, Int.reduceNeg, Int.reduceNe, eq_true i8, hA.2.1]
    rw [iI_le (by omega) (by omega) (by omega) (by omega)]
    cases d with
    | zero =>
      have e : ((movesL F R u).length : Int) ≤ j := by omega
      have : (movesL F R u).drop j = [] := List.drop_eq_nil_of_le (by omega)
      rw [this] at hT
      simp at hT
      have k := k m hm
      rw [hT] at k
      simp (discharger := omega) only [nlit, iI_lit, iI_add, iI_sub, iI_mul, iI_neg, bI_z, bI_o, i10, i01, eq_self, bI_nar, nar_0, nar_1, bI_t, bI_f, Option.some.injEq, exists_eq_left', true_and, and_true, forall_eq, not_true_eq_false, not_false_eq_true, forall_const, false_implies, true_implies, Classical.not_not, if_true, if_false, Int.reduceEq, Int.reduceLT, Int.reduceLE, Int.reduceGT, Int.reduceGE, Int.reduceAdd, Int.reduceSub, Int.reduceMul, Int.reduceNeg, Int.reduceNe, Bool.true_and, Bool.and_true, Bool.false_and, Bool.and_false, BEq.rfl, Bool.true_eq_false, Bool.false_eq_true, e, wp_X12_isKey_70]
      rw [iI_le (by omega) (by omega) (by omega) (by omega)]
      by_cases c : 0 < (movesL F R u).length
      · have : ¬ ((movesL F R u).length : Int) ≤ 0 := by omega
        simp (discharger := omega) only [nlit, iI_lit, iI_add, iI_sub, iI_mul, iI_neg, bI_z, bI_o, i10, i01, eq_self, bI_nar, nar_0, nar_1, bI_t, bI_f, Option.some.injEq, exists_eq_left', true_and, and_true, forall_eq, not_true_eq_false, not_false_eq_true, forall_const, false_implies, true_implies, Classical.not_not, if_true, if_false, Int.reduceEq, Int.reduceLT, Int.reduceLE, Int.reduceGT, Int.reduceGE, Int.reduceAdd, Int.reduceSub, Int.reduceMul, Int.reduceNeg, Int.reduceNe, Bool.true_and, Bool.and_true, Bool.false_and, Bool.and_false, BEq.rfl, Bool.true_eq_false, Bool.false_eq_true, this]
        simpa [c, bI] using k
      · have : ((movesL F R u).length : Int) ≤ 0 := by omega
        simp (discharger := omega) only [nlit, iI_lit, iI_add, iI_sub, iI_mul, iI_neg, bI_z, bI_o, i10, i01, eq_self, bI_nar, nar_0, nar_1, bI_t, bI_f, Option.some.injEq, exists_eq_left', true_and, and_true, forall_eq, not_true_eq_false, not_false_eq_true, forall_const, false_implies, true_implies, Classical.not_not, if_true, if_false, Int.reduceEq, Int.reduceLT, Int.reduceLE, Int.reduceGT, Int.reduceGE, Int.reduceAdd, Int.reduceSub, Int.reduceMul, Int.reduceNeg, Int.reduceNe, Bool.true_and, Bool.and_true, Bool.false_and, Bool.and_false, BEq.rfl, Bool.true_eq_false, Bool.false_eq_true, this]
        simpa [c, bI] using k
    | succ d =>
      have e : ¬ ((movesL F R u).length : Int) ≤ j := by omega
      simp (discharger := omega) only [nlit, iI_lit, iI_add, iI_sub, iI_mul, iI_neg, bI_z, bI_o, i10, i01, eq_self, bI_nar, nar_0, nar_1, bI_t, bI_f, Option.some.injEq, exists_eq_left', true_and, and_true, forall_eq, not_true_eq_false, not_false_eq_true, forall_const, false_implies, true_implies, Classical.not_not, if_true, if_false, Int.reduceEq, Int.reduceLT, Int.reduceLE, Int.reduceGT, Int.reduceGE, Int.reduceAdd, Int.reduceSub, Int.reduceMul, Int.reduceNeg, Int.reduceNe, Bool.true_and, Bool.and_true, Bool.false_and, Bool.and_false, BEq.rfl, Bool.true_eq_false, Bool.false_eq_true, e]
      refine q_mkL h hB (l := 1) (by omega) hA hd.st.1 hd.cl hL (by omega) ?_
      intro m1 t ht hmem s1 el hcl
      have hu := hd.2 t hmem
      have hB1 := hB.scM (scrM.of s1)
      refine q_matesAtOnce h hB1 (l := 2) (by omega) el hu ?_
      intro m2 s2
      have hB2 := hB1.scM s2
      have s12 := s1.trans (scrG.of s2)
      rw [getD_drop (by omega), ← ht] at hT
      simp only [List.all_cons] at hT
      try simp (discharger := omega) only [nlit, iI_lit, iI_add, iI_sub, iI_mul, iI_neg, bI_z, bI_o, i10, i01, eq_self, bI_nar, nar_0, nar_1, bI_t, bI_f, Option.some.injEq, exists_eq_left', true_and, and_true, forall_eq, not_true_eq_false, not_false_eq_true, forall_const, false_implies, true_implies, Classical.not_not, if_true, if_false, Int.reduceEq, Int.reduceLT, Int.reduceLE, Int.reduceGT, Int.reduceGE, Int.reduceAdd, Int.reduceSub, Int.reduceMul, Int.reduceNeg, Int.reduceNe, Bool.true_and, Bool.and_true, Bool.false_and, Bool.and_false, BEq.rfl, Bool.true_eq_false, Bool.false_eq_true]
      cases c : mate1 F R (mkT F R u t)
      · rw [c, Bool.false_and] at hT
        try simp (discharger := omega) only [nlit, iI_lit, iI_add, iI_sub, iI_mul, iI_neg, bI_z, bI_o, i10, i01, eq_self, bI_nar, nar_0, nar_1, bI_t, bI_f, Option.some.injEq, exists_eq_left', true_and, and_true, forall_eq, not_true_eq_false, not_false_eq_true, forall_const, false_implies, true_implies, Classical.not_not, if_true, if_false, Int.reduceEq, Int.reduceLT, Int.reduceLE, Int.reduceGT, Int.reduceGE, Int.reduceAdd, Int.reduceSub, Int.reduceMul, Int.reduceNeg, Int.reduceNe, Bool.true_and, Bool.and_true, Bool.false_and, Bool.and_false, BEq.rfl, Bool.true_eq_false, Bool.false_eq_true]
        have k := k m2 (hm.trans (scrM.of s12))
        rw [hT] at k
        exact k
      · rw [c, Bool.true_and] at hT
        try simp (discharger := omega) only [nlit, iI_lit, iI_add, iI_sub, iI_mul, iI_neg, bI_z, bI_o, i10, i01, eq_self, bI_nar, nar_0, nar_1, bI_t, bI_f, Option.some.injEq, exists_eq_left', true_and, and_true, forall_eq, not_true_eq_false, not_false_eq_true, forall_const, false_implies, true_implies, Classical.not_not, if_true, if_false, Int.reduceEq, Int.reduceLT, Int.reduceLE, Int.reduceGT, Int.reduceGE, Int.reduceAdd, Int.reduceSub, Int.reduceMul, Int.reduceNeg, Int.reduceNe, Bool.true_and, Bool.and_true, Bool.false_and, Bool.and_false, BEq.rfl, Bool.true_eq_false, Bool.false_eq_true]
        exact ih d (j + 1) m2 (by omega) (by omega) hB2 (hA.scr s12 hL) (hm.trans (scrM.of s12)) hT
/-- a key, asked at level 0 with its moves listed -/
theorem q_isKey {post : Int32 → wS → Prop} (h : XC D S x A) (hB : XB m F R) {v : Int → Int} (hd : deepOK F R 3 v) (hA : AtL 0 v (movesL F R v) m) {j n : Int} (hj : 0 ≤ j ∧ j < (movesL F R v).length) (hn : n = 1 ∨ n = 3)
    (k : ∀ m', scrG 0 m m' → post (iI (bI (keyB F R (mkT F R v ((movesL F R v).getD j.toNat (0, 0, 0))) n))) (xS S x A m')) : wp_X12_isKey D post (xS S x A m) x (iI j) (iI n) := by
  have hL := hd.st.2.1.2
  unfold wp_X12_isKey wp_X12_isKey_0
  try simp (discharger := omega) only [nlit, iI_lit, iI_add, iI_sub, iI_mul, iI_neg, bI_z, bI_o, i10, i01, eq_self, bI_nar, nar_0, nar_1, bI_t, bI_f, Option.some.injEq, exists_eq_left', true_and, and_true, forall_eq, not_true_eq_false, not_false_eq_true, forall_const, false_implies, true_implies, Classical.not_not, if_true, if_false, Int.reduceEq, Int.reduceLT, Int.reduceLE, Int.reduceGT, Int.reduceGE, Int.reduceAdd, Int.reduceSub, Int.reduceMul, Int.reduceNeg, Int.reduceNe, Bool.true_and, Bool.and_true, Bool.false_and, Bool.and_false, BEq.rfl, Bool.true_eq_false, Bool.false_eq_true]
  refine q_mkL h hB (by omega) hA hd.st.1 hd.cl hL hj ?_
  intro m1 t ht hmem s1 el hcl
  rw [← ht] at k
  have hu := hd.2 t hmem
  have hB1 := hB.scM (scrM.of s1)
  unfold keyB at k
  rcases hn with rfl | rfl
  · try simp (discharger := omega) only [nlit, iI_lit, iI_add, iI_sub, iI_mul, iI_neg, bI_z, bI_o, i10, i01, eq_self, bI_nar, nar_0, nar_1, bI_t, bI_f, Option.some.injEq, exists_eq_left', true_and, and_true, forall_eq, not_true_eq_false, not_false_eq_true, forall_const, false_implies, true_implies, Classical.not_not, if_true, if_false, Int.reduceEq, Int.reduceLT, Int.reduceLE, Int.reduceGT, Int.reduceGE, Int.reduceAdd, Int.reduceSub, Int.reduceMul, Int.reduceNeg, Int.reduceNe, Bool.true_and, Bool.and_true, Bool.false_and, Bool.and_false, BEq.rfl, Bool.true_eq_false, Bool.false_eq_true]
    refine q_mateM h hB1 (l := 1) (by omega) el hu.st ?_
    intro m2 s2
    have k := k m2 (s1.trans (scrG.of s2))
    rw [if_pos rfl] at k
    try simp (discharger := omega) only [nlit, iI_lit, iI_add, iI_sub, iI_mul, iI_neg, bI_z, bI_o, i10, i01, eq_self, bI_nar, nar_0, nar_1, bI_t, bI_f, Option.some.injEq, exists_eq_left', true_and, and_true, forall_eq, not_true_eq_false, not_false_eq_true, forall_const, false_implies, true_implies, Classical.not_not, if_true, if_false, Int.reduceEq, Int.reduceLT, Int.reduceLE, Int.reduceGT, Int.reduceGE, Int.reduceAdd, Int.reduceSub, Int.reduceMul, Int.reduceNeg, Int.reduceNe, Bool.true_and, Bool.and_true, Bool.false_and, Bool.and_false, BEq.rfl, Bool.true_eq_false, Bool.false_eq_true]
    exact k
  · simp (discharger := omega) only [nlit, iI_lit, iI_add, iI_sub, iI_mul, iI_neg, bI_z, bI_o, i10, i01, eq_self, bI_nar, nar_0, nar_1, bI_t, bI_f, Option.some.injEq, exists_eq_left', true_and, and_true, forall_eq, not_true_eq_false, not_false_eq_true, forall_const, false_implies, true_implies, Classical.not_not, if_true, if_false, Int.reduceEq, Int.reduceLT, Int.reduceLE, Int.reduceGT, Int.reduceGE, Int.reduceAdd, Int.reduceSub, Int.reduceMul, Int.reduceNeg, Int.reduceNe, Bool.true_and, Bool.and_true, Bool.false_and, Bool.and_false, BEq.rfl, Bool.true_eq_false, Bool.false_eq_true, iI_eq]
    refine q_movesM h hB1 (l := 1) (by omega) el hu.st.1 hu.st.2.1 ?_
    intro m2 s2 hA2
    refine ⟨(movesL F R (mkT F R v t)).length + 1, ?_⟩
    refine q_isKey_24 h hu (m0 := m1) (T := (movesL F R (mkT F R v t)).all fun t' => mate1 F R (mkT F R (mkT F R v t) t')) ?_ _ (movesL F R (mkT F R v t)).length 0 m2 (by omega) (by omega) (hB1.scM s2) hA2 s2 (by simp)
    intro m3 s3
    have k := k m3 (s1.trans (scrG.of s3))
    rw [if_neg (by decide)] at k
    exact k
theorem q_keys_9 {post : Int32 → wS → Prop} (h : XC D S x A) {v : Int → Int} (hd : deepOK F R 3 v) {q : Int} (hq : q = 1 ∨ q = 3) {m0 : xM}
    {T : Int} (k : ∀ m', scrM 0 m0 m' → post (iI T) (xS S x A m')) : ∀ (n d : Nat) (j : Nat) (s : Int) (m : xM), d < n → j + d = (movesL F R v).length → XB m F R → AtL 0 v (movesL F R v) m → scrM 0 m0 m →
    T = s + (((movesL F R v).drop j).map fun t => bI (keyB F R (mkT F R v t) q)).sum → wp_X12_keys_9 D post n (xS S x A m) x (iI q) (iI s) (iI j) := by
  have hL := hd.st.2.1.2
  intro n
  induction n with
  | zero => intro d j s m hd; omega
  | succ n ih =>
    intro d j s m hdn hj hB hA hm hT
    have i8 : vp_in (iI 0) 8 := iI_in (by omega) (by omega) (by omega)
    unfold wp_X12_keys_9
    simp (discharger := first | decide | omega) only [x_own h, x_kd h, x_r h, x_m h, x_l h, x_k h, x_n h, x_i0, x_i h, x_u0 h, x_u h, xLen, xKd, nlit, iI_lit, iI_add, iI_sub, iI_mul, iI_neg, bI_z, bI_o, i10, i01, eq_self, bI_nar, nar_0, nar_1, up_at, up_f, Option.some.injEq, exists_eq_left', true_and, and_true, forall_eq, not_true_eq_false, not_false_eq_true, forall_const, false_implies, true_implies, Classical.not_not, if_true, if_false, Int.reduceEq, Int.reduceLT, Int.reduceLE, Int.reduceGT, Int.reduceGE, Int.reduceAdd, Int.reduceSub, Int.reduceMul, Int.reduceNeg, Int.reduceNe, eq_true i8, hA.2.1]
    rw [iI_le (by omega) (by omega) (by omega) (by omega)]
    cases d with
    | zero =>
      have e : ((movesL F R v).length : Int) ≤ j := by omega
      simp (discharger := omega) only [nlit, iI_lit, iI_add, iI_sub, iI_mul, iI_neg, bI_z, bI_o, i10, i01, eq_self, bI_nar, nar_0, nar_1, bI_t, bI_f, Option.some.injEq, exists_eq_left', true_and, and_true, forall_eq, not_true_eq_false, not_false_eq_true, forall_const, false_implies, true_implies, Classical.not_not, if_true, if_false, Int.reduceEq, Int.reduceLT, Int.reduceLE, Int.reduceGT, Int.reduceGE, Int.reduceAdd, Int.reduceSub, Int.reduceMul, Int.reduceNeg, Int.reduceNe, Bool.true_and, Bool.and_true, Bool.false_and, Bool.and_false, BEq.rfl, Bool.true_eq_false, Bool.false_eq_true, e]
      have : (movesL F R v).drop j = [] := List.drop_eq_nil_of_le (by omega)
      rw [this] at hT
      simp at hT
      rw [← hT]
      exact k m hm
    | succ d =>
      have e : ¬ ((movesL F R v).length : Int) ≤ j := by omega
      simp (discharger := omega) only [nlit, iI_lit, iI_add, iI_sub, iI_mul, iI_neg, bI_z, bI_o, i10, i01, eq_self, bI_nar, nar_0, nar_1, bI_t, bI_f, Option.some.injEq, exists_eq_left', true_and, and_true, forall_eq, not_true_eq_false, not_false_eq_true, forall_const, false_implies, true_implies, Classical.not_not, if_true, if_false, Int.reduceEq, Int.reduceLT, Int.reduceLE, Int.reduceGT, Int.reduceGE, Int.reduceAdd, Int.reduceSub, Int.reduceMul, Int.reduceNeg, Int.reduceNe, Bool.true_and, Bool.and_true, Bool.false_and, Bool.and_false, BEq.rfl, Bool.true_eq_false, Bool.false_eq_true, e]
      refine q_isKey h hB hd hA (by omega) hq ?_
      intro m1 s1
      have hB1 := hB.scM (scrM.of s1)
      rw [getD_drop (by omega)] at hT
      simp only [List.map_cons, List.sum_cons] at hT
      generalize (movesL F R v).getD (j : Int).toNat (0, 0, 0) = t at *
      have nx : ∀ w : Int, w = bI (keyB F R (mkT F R v t) q) → wp_X12_keys_34 D post (wp_X12_keys_9 D post n) (xS S x A m1) x (iI q) (iI j) (iI s) (iI w) := by
        intro w hw
        simp (discharger := omega) only [nlit, iI_lit, iI_add, iI_sub, iI_mul, iI_neg, bI_z, bI_o, i10, i01, eq_self, bI_nar, nar_0, nar_1, bI_t, bI_f, Option.some.injEq, exists_eq_left', true_and, and_true, forall_eq, not_true_eq_false, not_false_eq_true, forall_const, false_implies, true_implies, Classical.not_not, if_true, if_false, Int.reduceEq, Int.reduceLT, Int.reduceLE, Int.reduceGT, Int.reduceGE, Int.reduceAdd, Int.reduceSub, Int.reduceMul, Int.reduceNeg, Int.reduceNe, Bool.true_and, Bool.and_true, Bool.false_and, Bool.and_false, BEq.rfl, Bool.true_eq_false, Bool.false_eq_true, wp_X12_keys_34]
        exact ih d (j + 1) (s + w) m1 (by omega) (by omega) hB1 (hA.scr s1 hL) (hm.trans (scrM.of s1)) (by rw [hT, hw]; omega)
      try simp (discharger := omega) only [nlit, iI_lit, iI_add, iI_sub, iI_mul, iI_neg, bI_z, bI_o, i10, i01, eq_self, bI_nar, nar_0, nar_1, bI_t, bI_f, Option.some.injEq, exists_eq_left', true_and, and_true, forall_eq, not_true_eq_false, not_false_eq_true, forall_const, false_implies, true_implies, Classical.not_not, if_true, if_false, Int.reduceEq, Int.reduceLT, Int.reduceLE, Int.reduceGT, Int.reduceGE, Int.reduceAdd, Int.reduceSub, Int.reduceMul, Int.reduceNeg, Int.reduceNe, Bool.true_and, Bool.and_true, Bool.false_and, Bool.and_false, BEq.rfl, Bool.true_eq_false, Bool.false_eq_true]
      cases c : keyB F R (mkT F R v t) q
      · try simp (discharger := omega) only [nlit, iI_lit, iI_add, iI_sub, iI_mul, iI_neg, bI_z, bI_o, i10, i01, eq_self, bI_nar, nar_0, nar_1, bI_t, bI_f, Option.some.injEq, exists_eq_left', true_and, and_true, forall_eq, not_true_eq_false, not_false_eq_true, forall_const, false_implies, true_implies, Classical.not_not, if_true, if_false, Int.reduceEq, Int.reduceLT, Int.reduceLE, Int.reduceGT, Int.reduceGE, Int.reduceAdd, Int.reduceSub, Int.reduceMul, Int.reduceNeg, Int.reduceNe, Bool.true_and, Bool.and_true, Bool.false_and, Bool.and_false, BEq.rfl, Bool.true_eq_false, Bool.false_eq_true]
        exact nx 0 (by rw [c]; rfl)
      · try simp (discharger := omega) only [nlit, iI_lit, iI_add, iI_sub, iI_mul, iI_neg, bI_z, bI_o, i10, i01, eq_self, bI_nar, nar_0, nar_1, bI_t, bI_f, Option.some.injEq, exists_eq_left', true_and, and_true, forall_eq, not_true_eq_false, not_false_eq_true, forall_const, false_implies, true_implies, Classical.not_not, if_true, if_false, Int.reduceEq, Int.reduceLT, Int.reduceLE, Int.reduceGT, Int.reduceGE, Int.reduceAdd, Int.reduceSub, Int.reduceMul, Int.reduceNeg, Int.reduceNe, Bool.true_and, Bool.and_true, Bool.false_and, Bool.and_false, BEq.rfl, Bool.true_eq_false, Bool.false_eq_true]
        exact nx 1 (by rw [c]; rfl)
theorem q_keys {post : Int32 → wS → Prop} (h : XC D S x A) (hB : XB m F R) {v : Int → Int} (hlv : lv m 0 = v) (hd : deepOK F R 3 v) {q : Int} (hq : q = 1 ∨ q = 3)
    (k : ∀ m', scrM 0 m m' → post (iI (keysB F R v q)) (xS S x A m')) : wp_X12_keys D post (xS S x A m) x (iI q) := by
  unfold wp_X12_keys wp_X12_keys_0
  try simp (discharger := omega) only [nlit, iI_lit, iI_add, iI_sub, iI_mul, iI_neg, bI_z, bI_o, i10, i01, eq_self, bI_nar, nar_0, nar_1, bI_t, bI_f, Option.some.injEq, exists_eq_left', true_and, and_true, forall_eq, not_true_eq_false, not_false_eq_true, forall_const, false_implies, true_implies, Classical.not_not, if_true, if_false, Int.reduceEq, Int.reduceLT, Int.reduceLE, Int.reduceGT, Int.reduceGE, Int.reduceAdd, Int.reduceSub, Int.reduceMul, Int.reduceNeg, Int.reduceNe, Bool.true_and, Bool.and_true, Bool.false_and, Bool.and_false, BEq.rfl, Bool.true_eq_false, Bool.false_eq_true]
  refine q_movesM h hB (by omega) hlv hd.st.1 hd.st.2.1 ?_
  intro m1 s1 hA
  refine ⟨(movesL F R v).length + 1, ?_⟩
  exact q_keys_9 h hd hq k _ (movesL F R v).length 0 0 m1 (by omega) (by omega) (hB.scM s1) hA s1 (by unfold keysB; simp)
end
