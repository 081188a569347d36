/-- the same, but for what stands behind a level -/
def scrG (l : Int) (m m' : xM) : Prop := ∀ r j, ¬ (r = 3 ∧ 67 * (l + 1) ≤ j) → ¬ ((r = 4 ∨ r = 5 ∨ r = 6) ∧ 320 * (l + 1) ≤ j) → ¬ (r = 7 ∧ l + 1 ≤ j) → m' r j = m r j
/-- the same, but for a level's moves and what stands behind it -/
def scrM (l : Int) (m m' : xM) : Prop := ∀ r j, ¬ (r = 3 ∧ 67 * (l + 1) ≤ j) → ¬ ((r = 4 ∨ r = 5 ∨ r = 6) ∧ 320 * l ≤ j) → ¬ (r = 7 ∧ l ≤ j) → m' r j = m r j
theorem scrG.refl (l : Int) (m : xM) : scrG l m m := fun _ _ _ _ _ => rfl
theorem scrG.trans {l : Int} {m m' m'' : xM} (h : scrG l m m') (h' : scrG l m' m'') : scrG l m m'' := fun r j a b c => (h' r j a b c).trans (h r j a b c)
theorem scrM.trans {l : Int} {m m' m'' : xM} (h : scrM l m m') (h' : scrM l m' m'') : scrM l m m'' := fun r j a b c => (h' r j a b c).trans (h r j a b c)
theorem scrM.of {l : Int} {m m' : xM} (h : scrG l m m') : scrM l m m' := fun r j a b c => h r j a (by omega) (by omega)
theorem scrG.of {l : Int} {m m' : xM} (h : scrM (l + 1) m m') : scrG l m m' := fun r j a b c => h r j (by omega) (by omega) (by omega)
theorem scrM.row {l : Int} {m m' : xM} (h : scrM l m m') {r : Nat} (hr : (r == 3 || r == 7 || r == 4 || r == 5 || r == 6) = false) : m' r = m r := by
  simp at hr
  funext j
  exact h r j (by omega) (by omega) (by omega)
/-- a position and its moves stand at a level -/
def AtL (l : Int) (v : Int → Int) (L : List Mv) (m : xM) : Prop := lv m l = v ∧ m 7 l = L.length ∧ ∀ k : Int, 0 ≤ k → k < L.length → ∀ r, (r = 4 ∨ r = 5 ∨ r = 6) → m r (320 * l + k) = pickM r (L.getD k.toNat (0, 0, 0))
theorem lv_cell {m m' : xM} {l : Int} (h : ∀ j, 67 * l ≤ j → j < 67 * (l + 1) → m' 3 j = m 3 j) : lv m' l = lv m l := by
  funext k
  unfold lv vec
  by_cases c : 0 ≤ k ∧ k < 67
  · rw [if_pos c, if_pos c]; exact h _ (by omega) (by omega)
  · rw [if_neg c, if_neg c]
theorem AtL.scr {l : Int} {v : Int → Int} {L : List Mv} {m m' : xM} (h : AtL l v L m) (hs : scrG l m m') (hn : L.length ≤ 320) : AtL l v L m' := by
  refine ⟨(lv_cell fun j h1 h2 => hs 3 j (by omega) (by omega) (by omega)).trans h.1, (hs 7 l (by omega) (by omega) (by omega)).trans h.2.1, fun k h1 h2 r hr => ?_⟩
  exact (hs r _ (by omega) (by omega) (by omega)).trans (h.2.2 k h1 h2 r hr)
theorem AtL.ls {l : Int} {v : Int → Int} {L : List Mv} {m : xM} (h : AtL l v L m) : lsM m l L (lv m (l + 1)) = m := by
  have e : lv (putL m l L) (l + 1) = lv m (l + 1) := lv_putL _ _ _ _
  unfold lsM
  rw [← e, putV_lv (putL m l L) (l + 1)]
  funext r j
  unfold putL
  by_cases c : r = 7 ∧ j = l
  · rw [if_pos c, c.1, c.2]; exact h.2.1.symm
  · rw [if_neg c]
    by_cases c2 : (r = 4 ∨ r = 5 ∨ r = 6) ∧ 320 * l ≤ j ∧ j < 320 * l + L.length
    · rw [if_pos c2]
      have := h.2.2 (j - 320 * l) (by omega) (by omega) r c2.1
      rw [show 320 * l + (j - 320 * l) = j by omega] at this
      exact this.symm
    · rw [if_neg c2]
theorem AtL.of (m : xM) (l : Int) (L : List Mv) (w : Int → Int) : AtL l (lv m l) L (lsM m l L w) :=
  ⟨lsM_lv m l L w, lsM_n m l L w, fun k h1 h2 r hr => lsM_e m w hr ⟨h1, h2⟩⟩
theorem scrG_ls {l : Int} {m : xM} {L : List Mv} (w u : Int → Int) : scrG l (lsM m l L w) (lsM m l L u) := fun r j a b c => by
  unfold lsM putV
  rw [if_neg (by omega), if_neg (by omega)]
theorem scrM_ls (l : Int) (m : xM) (L : List Mv) (w : Int → Int) : scrM l m (lsM m l L w) := fun r j a b c => by
  unfold lsM putV putL
  rw [if_neg (by omega), if_neg (by omega), if_neg (by omega)]
def rows2 (F R : Int) (v : Int → Int) : Int := ((movesL F R v).map fun t => ((movesL F R (mkT F R v t)).length : Int)).sum
section
variable {D : wD} {S : wS} {x : Nat} {A : Nat → Nat} {m : xM} {F R : Int}
theorem XB.scM {m' : xM} {l : Int} (hB : XB m F R) (h : scrM l m m') : XB m' F R := by
  have e := h.row (r := 50) rfl
  exact ⟨by rw [e]; exact hB.f, by rw [e]; exact hB.r, hB.2.2⟩
theorem q_mkL {post : wS → Prop} (h : XC D S x A) (hB : XB m F R) {l k : Int} {v : Int → Int} (hl : 0 ≤ l ∧ l < 7) (hA : AtL l v (movesL F R v) m) (hv : okV F R v) (hc : clV v) (hL : (movesL F R v).length ≤ 320) (hk : 0 ≤ k ∧ k < (movesL F R v).length)
    (kk : ∀ m' t, t = (movesL F R v).getD k.toNat (0, 0, 0) → t ∈ movesL F R v → scrG l m m' → lv m' (l + 1) = mkT F R v t → clV (mkT F R v t) → post (xS S x A m')) : wp_X12_makesListed D post (xS S x A m) x (iI l) (iI k) := by
  have h4 := hB.f4; have h8 := hB.f8; have r4 := hB.r4; have r8 := hB.r8
  have e := hA.ls
  have hlv := hA.1
  subst hlv
  rw [← e]
  refine q_makesListed h hB hl hv hL hk ?_
  intro t ht ok
  have hcl := mkT_clV h4 h8 r4 r8 hv hc ok
  refine kk _ t ht (by rw [ht]; exact getD_mem hk) ?_ (lsM_next hcl) hcl
  have := scrG_ls (m := m) (l := l) (L := movesL F R (lv m l)) (lv m (l + 1)) (mkT F R (lv m l) t)
  rw [e] at this
  exact this
theorem q_movesM {post : wS → Prop} (h : XC D S x A) (hB : XB m F R) {l : Int} {v : Int → Int} (hl : 0 ≤ l ∧ l < 7) (hlv : lv m l = v) (hv : okV F R v) (hG : mvOK F R v)
    (k : ∀ m', scrM l m m' → AtL l v (movesL F R v) m' → post (xS S x A m')) : wp_X12_moves D post (xS S x A m) x (iI l) := by
  subst hlv
  refine q_moves h hB hl hv hG.1 hG.2 ?_
  intro w hw
  exact k _ (scrM_ls l m _ w) (AtL.of m l _ w)
theorem q_rowsOfTwo_9 {post : Int32 → wS → Prop} (h : XC D S x A) {l : Int} {v : Int → Int} (hl : 0 ≤ l ∧ l < 6) (hv : okV F R v) (hc : clV v) (hL : (movesL F R v).length ≤ 320) (hst : ∀ t ∈ movesL F R v, stOK F R (mkT F R v t)) {m0 : xM}
    {T : Int} (k : ∀ m', scrM l m0 m' → post (iI T) (xS S x A m')) : ∀ (n d : Nat) (j : Nat) (s : Int) (m : xM), d < n → j + d = (movesL F R v).length → XB m F R → AtL l v (movesL F R v) m → scrM l m0 m →
    T = s + (((movesL F R v).drop j).map fun t => ((movesL F R (mkT F R v t)).length : Int)).sum → wp_X12_rowsOfTwo_9 D post n (xS S x A m) x (iI l) (iI s) (iI j) := by
  intro n
  induction n with
  | zero => intro d j s m hd; omega
  | succ n ih =>
    intro d j s m hd hj hB hA hm hT
    have i8 : vp_in (iI l) 8 := iI_in (by omega) (by omega) (by omega)
    have i8' : vp_in (iI (l + 1)) 8 := iI_in (by omega) (by omega) (by omega)
    unfold wp_X12_rowsOfTwo_9
    simp (discharger := first | decide | omega) only [x_own h, x_kd h, x_r h, x_m h, x_l h, x_k h, x_n h, x_i0, x_i h, x_u0 h, x_u h, xLen, xKd, nlit, iI_lit, iI_add, iI_sub, iI_mul, iI_neg, bI_z, bI_o, i10, i01, eq_self, bI_nar, nar_0, nar_1, up_at, up_f, Option.some.injEq, exists_eq_left', true_and, and_true, forall_eq, not_true_eq_false, not_false_eq_true, forall_const, false_implies, true_implies, Classical.not_not, if_true, if_false, Int.reduceEq, Int.reduceLT, Int.reduceLE, Int.reduceGT, Int.reduceGE, Int.reduceAdd, Int.reduceSub, Int.reduceMul, Int.reduceNeg, Int.reduceNe, eq_true i8, hA.2.1]
    rw [iI_le (by omega) (by omega) (by omega) (by omega)]
    cases d with
    | zero =>
      have e : ((movesL F R v).length : Int) ≤ j := by omega
      simp (discharger := omega) only [nlit, iI_lit, iI_add, iI_sub, iI_mul, iI_neg, bI_z, bI_o, i10, i01, eq_self, bI_nar, nar_0, nar_1, bI_t, bI_f, Option.some.injEq, exists_eq_left', true_and, and_true, forall_eq, not_true_eq_false, not_false_eq_true, forall_const, false_implies, true_implies, Classical.not_not, if_true, if_false, Int.reduceEq, Int.reduceLT, Int.reduceLE, Int.reduceGT, Int.reduceGE, Int.reduceAdd, Int.reduceSub, Int.reduceMul, Int.reduceNeg, Int.reduceNe, Bool.true_and, Bool.and_true, Bool.false_and, Bool.and_false, BEq.rfl, Bool.true_eq_false, Bool.false_eq_true, e]
      have : (movesL F R v).drop j = [] := List.drop_eq_nil_of_le (by omega)
      rw [this] at hT
      simp at hT
      rw [← hT]
      exact k m hm
    | succ d =>
      have e : ¬ ((movesL F R v).length : Int) ≤ j := by omega
      simp (discharger := omega) only [nlit, iI_lit, iI_add, iI_sub, iI_mul, iI_neg, bI_z, bI_o, i10, i01, eq_self, bI_nar, nar_0, nar_1, bI_t, bI_f, Option.some.injEq, exists_eq_left', true_and, and_true, forall_eq, not_true_eq_false, not_false_eq_true, forall_const, false_implies, true_implies, Classical.not_not, if_true, if_false, Int.reduceEq, Int.reduceLT, Int.reduceLE, Int.reduceGT, Int.reduceGE, Int.reduceAdd, Int.reduceSub, Int.reduceMul, Int.reduceNeg, Int.reduceNe, Bool.true_and, Bool.and_true, Bool.false_and, Bool.and_false, BEq.rfl, Bool.true_eq_false, Bool.false_eq_true, e]
      refine q_mkL h hB (by omega) hA hv hc hL (by omega) ?_
      intro m1 t ht hmem s1 el hcl
      have hu := hst t hmem
      have hB1 := hB.scM (scrM.of s1)
      refine q_movesM h hB1 (l := l + 1) (by omega) el hu.1 hu.2.1 ?_
      intro m2 s2 hA2
      have hB2 := hB1.scM s2
      have s12 := s1.trans (scrG.of s2)
      simp (discharger := first | decide | omega) only [x_own h, x_kd h, x_r h, x_m h, x_l h, x_k h, x_n h, x_i0, x_i h, x_u0 h, x_u h, xLen, xKd, nlit, iI_lit, iI_add, iI_sub, iI_mul, iI_neg, bI_z, bI_o, i10, i01, eq_self, bI_nar, nar_0, nar_1, up_at, up_f, Option.some.injEq, exists_eq_left', true_and, and_true, forall_eq, not_true_eq_false, not_false_eq_true, forall_const, false_implies, true_implies, Classical.not_not, if_true, if_false, Int.reduceEq, Int.reduceLT, Int.reduceLE, Int.reduceGT, Int.reduceGE, Int.reduceAdd, Int.reduceSub, Int.reduceMul, Int.reduceNeg, Int.reduceNe, eq_true i8', hA2.2.1]
      have hd1 : (movesL F R v).drop j = t :: (movesL F R v).drop (j + 1) := by
        rw [List.drop_eq_getElem_cons (by omega), ht]
        congr 1
        rw [List.getD_eq_getElem?_getD, Int.toNat_natCast, List.getElem?_eq_getElem (by omega)]
        rfl
      rw [hd1] at hT
      simp only [List.map_cons, List.sum_cons] at hT
      have := ih d (j + 1) (s + ((movesL F R (mkT F R v t)).length : Int)) m2 (by omega) (by omega) hB2 (hA.scr s12 hL) (hm.trans (scrM.of s12)) (by rw [hT]; omega)
      exact this
theorem q_rowsOfTwo {post : Int32 → wS → Prop} (h : XC D S x A) (hB : XB m F R) {l : Int} {v : Int → Int} (hl : 0 ≤ l ∧ l < 6) (hlv : lv m l = v) (hv : okV F R v) (hc : clV v) (hG : mvOK F R v) (hst : ∀ t ∈ movesL F R v, stOK F R (mkT F R v t))
    (k : ∀ m', scrM l m m' → post (iI (rows2 F R v)) (xS S x A m')) : wp_X12_rowsOfTwo D post (xS S x A m) x (iI l) := by
  unfold wp_X12_rowsOfTwo wp_X12_rowsOfTwo_0
  refine q_movesM h hB (by omega) hlv hv hG ?_
  intro m1 s1 hA
  refine ⟨(movesL F R v).length + 1, ?_⟩
  exact q_rowsOfTwo_9 h hl hv hc hG.2 hst k _ (movesL F R v).length 0 0 m1 (by omega) (by omega) (hB.scM s1) hA s1 (by unfold rows2; simp)
end
