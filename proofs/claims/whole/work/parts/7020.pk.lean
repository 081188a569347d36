def mateB (F R : Int) (v : Int → Int) : Bool := chkB F R v (v 64) && decide ((movesL F R v).length = 0)
theorem lsM_e (m : xM) {l k : Int} {L : List Mv} (w : Int → Int) {r : Nat} (hr : r = 4 ∨ r = 5 ∨ r = 6) (hk : 0 ≤ k ∧ k < L.length) : lsM m l L w r (320 * l + k) = pickM r (L.getD k.toNat (0, 0, 0)) := by
  unfold lsM
  rw [putV_f _ _ _ _ (by rcases hr with e | e | e <;> subst e <;> rfl)]
  unfold putL
  rw [if_neg (by omega), if_pos ⟨hr, by omega, by omega⟩]
  congr 2
  omega
/-- what is listed can be played -/
def okMv (F R : Int) (v : Int → Int) (t : Mv) : Prop := (0 ≤ t.1 ∧ t.1 < F * R) ∧ (0 ≤ t.2.1 ∧ t.2.1 < F * R) ∧ (0 ≤ t.2.2 ∧ t.2.2 ≤ 5) ∧ isOfB (v t.1) (v 64) = true ∧ legB F R v t.1 t.2.1 = true ∧ (if becB F R v t.1 t.2.1 then 2 ≤ t.2.2 else t.2.2 = 0)
theorem mTo_mem {F R : Int} {v : Int → Int} {a : Int} (ha : 0 ≤ a ∧ a < F * R) (ho : isOfB (v a) (v 64) = true) : ∀ (d : Nat) (b : Int), 0 ≤ b → b + d ≤ F * R → ∀ t ∈ mTo F R v a b d, okMv F R v t := by
  intro d
  induction d with
  | zero => intro b _ _ t ht; simp [mTo] at ht
  | succ d ih =>
    intro b h0 h1 t ht
    have hbR : b < F * R := by omega
    unfold mTo at ht
    rcases List.mem_append.mp ht with h | h
    · cases hl : legB F R v a b
      · rw [hl] at h; simp at h
      · rw [hl] at h
        simp only [if_true] at h
        cases hb : becB F R v a b
        · rw [hb] at h
          simp [bec4] at h
          subst h
          exact ⟨ha, ⟨h0, hbR⟩, by simp, ho, hl, by simp [hb]⟩
        · rw [hb] at h
          simp [bec4] at h
          rcases h with h | h | h | h <;> subst h <;> exact ⟨ha, ⟨h0, hbR⟩, by simp, ho, hl, by simp [hb]⟩
    · exact ih (b + 1) (by omega) (by omega) t h
theorem mFrom_mem {F R : Int} {v : Int → Int} (hn : 0 ≤ F * R) : ∀ (d : Nat) (a : Int), 0 ≤ a → a + d ≤ F * R → ∀ t ∈ mFrom F R v a d, okMv F R v t := by
  intro d
  induction d with
  | zero => intro a _ _ t ht; simp [mFrom] at ht
  | succ d ih =>
    intro a h0 h1 t ht
    unfold mFrom at ht
    rcases List.mem_append.mp ht with h | h
    · cases ho : isOfB (v a) (v 64)
      · rw [ho] at h; simp at h
      · rw [ho] at h
        exact mTo_mem ⟨h0, by omega⟩ ho _ 0 (by decide) (by omega) t h
    · exact ih (a + 1) (by omega) (by omega) t h
theorem movesL_mem {F R : Int} {v : Int → Int} (hn : 0 ≤ F * R) {t : Mv} (ht : t ∈ movesL F R v) : okMv F R v t := mFrom_mem hn _ 0 (by decide) (by omega) t ht
theorem getD_mem {L : List Mv} {k : Int} (hk : 0 ≤ k ∧ k < L.length) : L.getD k.toNat (0, 0, 0) ∈ L := by
  rw [List.getD_eq_getElem?_getD, List.getElem?_eq_getElem (by omega)]
  exact List.getElem_mem _
section
variable {D : wD} {S : wS} {x : Nat} {A : Nat → Nat} {m : xM} {F R : Int}
theorem q_makesListed {post : wS → Prop} (h : XC D S x A) (hB : XB m F R) {l k : Int} {w : Int → Int} (hl : 0 ≤ l ∧ l < 7) (hv : okV F R (lv m l)) (hL : (movesL F R (lv m l)).length ≤ 320) (hk : 0 ≤ k ∧ k < (movesL F R (lv m l)).length)
    (kk : ∀ t, t = (movesL F R (lv m l)).getD k.toNat (0, 0, 0) → okMv F R (lv m l) t → post (xS S x A (lsM m l (movesL F R (lv m l)) (mkV F R (lv m l) t.1 t.2.1 t.2.2)))) :
    wp_X12_makesListed D post (xS S x A (lsM m l (movesL F R (lv m l)) w)) x (iI l) (iI k) := by
  have hn := hB.n
  have ok := movesL_mem (by omega) (getD_mem hk)
  have el := lsM_lv m l (movesL F R (lv m l)) w
  have i2 : vp_in (iI (320 * l + k)) 2560 := iI_in (by omega) (by omega) (by omega)
  simp (discharger := first | decide | omega) only [x_own h, x_kd h, x_r h, x_m h, x_l h, x_k h, x_n h, x_i0, x_i h, x_u0 h, x_u h, xLen, xKd, nlit, iI_lit, iI_add, iI_sub, iI_mul, iI_neg, bI_z, bI_o, i10, i01, eq_self, bI_nar, nar_0, nar_1, up_at, up_f, Option.some.injEq, exists_eq_left', true_and, and_true, forall_eq, not_true_eq_false, not_false_eq_true, forall_const, false_implies, true_implies, Classical.not_not, if_true, if_false, Int.reduceEq, Int.reduceLT, Int.reduceLE, Int.reduceGT, Int.reduceGE, Int.reduceAdd, Int.reduceSub, Int.reduceMul, Int.reduceNeg, Int.reduceNe, wp_X12_makesListed, wp_X12_makesListed_0, eq_true i2]
  rw [lsM_e m w (Or.inl rfl) hk, lsM_e m w (Or.inr (Or.inl rfl)) hk, lsM_e m w (Or.inr (Or.inr rfl)) hk]
  have kk := kk _ rfl ok
  generalize (movesL F R (lv m l)).getD k.toNat (0, 0, 0) = t at *
  refine q_makes h (hB.ls _ _ _) hl (by rw [el]; exact hv) ok.1 ok.2.1 ⟨ok.2.2.1.1, by have := ok.2.2.1.2; simp [pickM]; omega⟩ ?_
  rw [el, lsM_putV]
  exact kk
theorem q_isMateAt {post : Int32 → wS → Prop} (h : XC D S x A) (hB : XB m F R) {l : Int} (hl : 0 ≤ l ∧ l < 7) (hv : okV F R (lv m l)) (hG : mvOK F R (lv m l)) (hK : kingB F R (lv m l) (lv m l 64) < F * R)
    (k : ∀ m', (m' = m ∨ ∃ w, clV w ∧ m' = lsM m l (movesL F R (lv m l)) w) → post (iI (bI (mateB F R (lv m l)))) (xS S x A m')) : wp_X12_isMateAt D post (xS S x A m) x (iI l) := by
  have hs := hv.s
  have hlen := hG.2
  unfold mateB at k
  unfold wp_X12_isMateAt wp_X12_isMateAt_0
  rw [q_side h (by omega)]
  try simp (discharger := omega) only [nlit, iI_lit, iI_add, iI_sub, iI_mul, iI_neg, bI_z, bI_o, i10, i01, eq_self, bI_nar, nar_0, nar_1, bI_t, bI_f, Option.some.injEq, exists_eq_left', true_and, and_true, forall_eq, not_true_eq_false, not_false_eq_true, forall_const, false_implies, true_implies, Classical.not_not, if_true, if_false, Int.reduceEq, Int.reduceLT, Int.reduceLE, Int.reduceGT, Int.reduceGE, Int.reduceAdd, Int.reduceSub, Int.reduceMul, Int.reduceNeg, Int.reduceNe, Bool.true_and, Bool.and_true, Bool.false_and, Bool.and_false, BEq.rfl, Bool.true_eq_false, Bool.false_eq_true]
  refine q_isInCheck h hB (by omega) hv hs hK ?_
  try simp (discharger := omega) only [nlit, iI_lit, iI_add, iI_sub, iI_mul, iI_neg, bI_z, bI_o, i10, i01, eq_self, bI_nar, nar_0, nar_1, bI_t, bI_f, Option.some.injEq, exists_eq_left', true_and, and_true, forall_eq, not_true_eq_false, not_false_eq_true, forall_const, false_implies, true_implies, Classical.not_not, if_true, if_false, Int.reduceEq, Int.reduceLT, Int.reduceLE, Int.reduceGT, Int.reduceGE, Int.reduceAdd, Int.reduceSub, Int.reduceMul, Int.reduceNeg, Int.reduceNe, Bool.true_and, Bool.and_true, Bool.false_and, Bool.and_false, BEq.rfl, Bool.true_eq_false, Bool.false_eq_true]
  cases c : chkB F R (lv m l) (lv m l 64)
  · rw [c] at k
    try simp (discharger := omega) only [nlit, iI_lit, iI_add, iI_sub, iI_mul, iI_neg, bI_z, bI_o, i10, i01, eq_self, bI_nar, nar_0, nar_1, bI_t, bI_f, Option.some.injEq, exists_eq_left', true_and, and_true, forall_eq, not_true_eq_false, not_false_eq_true, forall_const, false_implies, true_implies, Classical.not_not, if_true, if_false, Int.reduceEq, Int.reduceLT, Int.reduceLE, Int.reduceGT, Int.reduceGE, Int.reduceAdd, Int.reduceSub, Int.reduceMul, Int.reduceNeg, Int.reduceNe, Bool.true_and, Bool.and_true, Bool.false_and, Bool.and_false, BEq.rfl, Bool.true_eq_false, Bool.false_eq_true]
    exact k m (Or.inl rfl)
  · rw [c] at k
    try simp (discharger := omega) only [nlit, iI_lit, iI_add, iI_sub, iI_mul, iI_neg, bI_z, bI_o, i10, i01, eq_self, bI_nar, nar_0, nar_1, bI_t, bI_f, Option.some.injEq, exists_eq_left', true_and, and_true, forall_eq, not_true_eq_false, not_false_eq_true, forall_const, false_implies, true_implies, Classical.not_not, if_true, if_false, Int.reduceEq, Int.reduceLT, Int.reduceLE, Int.reduceGT, Int.reduceGE, Int.reduceAdd, Int.reduceSub, Int.reduceMul, Int.reduceNeg, Int.reduceNe, Bool.true_and, Bool.and_true, Bool.false_and, Bool.and_false, BEq.rfl, Bool.true_eq_false, Bool.false_eq_true]
    refine q_moves h hB hl hv hG.1 hG.2 ?_
    intro w hw
    have k := k _ (Or.inr ⟨w, hw, rfl⟩)
    simp (discharger := first | decide | omega) only [x_own h, x_kd h, x_r h, x_m h, x_l h, x_k h, x_n h, x_i0, x_i h, x_u0 h, x_u h, xLen, xKd, nlit, iI_lit, iI_add, iI_sub, iI_mul, iI_neg, bI_z, bI_o, i10, i01, eq_self, bI_nar, nar_0, nar_1, up_at, up_f, Option.some.injEq, exists_eq_left', true_and, and_true, forall_eq, not_true_eq_false, not_false_eq_true, forall_const, false_implies, true_implies, Classical.not_not, if_true, if_false, Int.reduceEq, Int.reduceLT, Int.reduceLE, Int.reduceGT, Int.reduceGE, Int.reduceAdd, Int.reduceSub, Int.reduceMul, Int.reduceNeg, Int.reduceNe, eq_true (iI_in (a := l) (n := 8) (by omega) (by omega) (by omega)), lsM_n, wp_X12_isMateAt_34]
    rw [iI_eq (by omega) (by omega) (by decide) (by decide)]
    by_cases c2 : (movesL F R (lv m l)).length = 0
    · have : ((movesL F R (lv m l)).length : Int) = 0 := by omega
      simp (discharger := omega) only [nlit, iI_lit, iI_add, iI_sub, iI_mul, iI_neg, bI_z, bI_o, i10, i01, eq_self, bI_nar, nar_0, nar_1, bI_t, bI_f, Option.some.injEq, exists_eq_left', true_and, and_true, forall_eq, not_true_eq_false, not_false_eq_true, forall_const, false_implies, true_implies, Classical.not_not, if_true, if_false, Int.reduceEq, Int.reduceLT, Int.reduceLE, Int.reduceGT, Int.reduceGE, Int.reduceAdd, Int.reduceSub, Int.reduceMul, Int.reduceNeg, Int.reduceNe, Bool.true_and, Bool.and_true, Bool.false_and, Bool.and_false, BEq.rfl, Bool.true_eq_false, Bool.false_eq_true, this]
      simpa [c2, bI] using k
    · have : ¬ ((movesL F R (lv m l)).length : Int) = 0 := by omega
      simp (discharger := omega) only [nlit, iI_lit, iI_add, iI_sub, iI_mul, iI_neg, bI_z, bI_o, i10, i01, eq_self, bI_nar, nar_0, nar_1, bI_t, bI_f, Option.some.injEq, exists_eq_left', true_and, and_true, forall_eq, not_true_eq_false, not_false_eq_true, forall_const, false_implies, true_implies, Classical.not_not, if_true, if_false, Int.reduceEq, Int.reduceLT, Int.reduceLE, Int.reduceGT, Int.reduceGE, Int.reduceAdd, Int.reduceSub, Int.reduceMul, Int.reduceNeg, Int.reduceNe, Bool.true_and, Bool.and_true, Bool.false_and, Bool.and_false, BEq.rfl, Bool.true_eq_false, Bool.false_eq_true, this]
      simpa [c2, bI] using k
theorem q_isMove {post : Int32 → wS → Prop} (h : XC D S x A) (hB : XB m F R) (hv : okV F R (lv m 0)) (hG : mvOK F R (lv m 0)) {v : Int} (hi : i32 v)
    (k : ∀ w, clV w → post (iI (bI (inB v 0 ((movesL F R (lv m 0)).length - 1)))) (xS S x A (lsM m 0 (movesL F R (lv m 0)) w))) : wp_X12_isMove D post (xS S x A m) x (iI v) := by
  have hlen := hG.2
  unfold wp_X12_isMove wp_X12_isMove_0
  try simp (discharger := omega) only [nlit, iI_lit, iI_add, iI_sub, iI_mul, iI_neg, bI_z, bI_o, i10, i01, eq_self, bI_nar, nar_0, nar_1, bI_t, bI_f, Option.some.injEq, exists_eq_left', true_and, and_true, forall_eq, not_true_eq_false, not_false_eq_true, forall_const, false_implies, true_implies, Classical.not_not, if_true, if_false, Int.reduceEq, Int.reduceLT, Int.reduceLE, Int.reduceGT, Int.reduceGE, Int.reduceAdd, Int.reduceSub, Int.reduceMul, Int.reduceNeg, Int.reduceNe, Bool.true_and, Bool.and_true, Bool.false_and, Bool.and_false, BEq.rfl, Bool.true_eq_false, Bool.false_eq_true]
  refine q_moves h hB (by decide) hv hG.1 hG.2 ?_
  intro w hw
  simp (discharger := first | decide | omega) only [x_own h, x_kd h, x_r h, x_m h, x_l h, x_k h, x_n h, x_i0, x_i h, x_u0 h, x_u h, xLen, xKd, nlit, iI_lit, iI_add, iI_sub, iI_mul, iI_neg, bI_z, bI_o, i10, i01, eq_self, bI_nar, nar_0, nar_1, up_at, up_f, Option.some.injEq, exists_eq_left', true_and, and_true, forall_eq, not_true_eq_false, not_false_eq_true, forall_const, false_implies, true_implies, Classical.not_not, if_true, if_false, Int.reduceEq, Int.reduceLT, Int.reduceLE, Int.reduceGT, Int.reduceGE, Int.reduceAdd, Int.reduceSub, Int.reduceMul, Int.reduceNeg, Int.reduceNe, eq_true (iI_in (a := 0) (n := 8) (by omega) (by omega) (by omega)), lsM_n]
  rw [q_in hi (by decide) (by omega)]
  try simp (discharger := omega) only [nlit, iI_lit, iI_add, iI_sub, iI_mul, iI_neg, bI_z, bI_o, i10, i01, eq_self, bI_nar, nar_0, nar_1, bI_t, bI_f, Option.some.injEq, exists_eq_left', true_and, and_true, forall_eq, not_true_eq_false, not_false_eq_true, forall_const, false_implies, true_implies, Classical.not_not, if_true, if_false, Int.reduceEq, Int.reduceLT, Int.reduceLE, Int.reduceGT, Int.reduceGE, Int.reduceAdd, Int.reduceSub, Int.reduceMul, Int.reduceNeg, Int.reduceNe, Bool.true_and, Bool.and_true, Bool.false_and, Bool.and_false, BEq.rfl, Bool.true_eq_false, Bool.false_eq_true]
  exact k w hw
theorem q_moveCount {post : Int32 → wS → Prop} (h : XC D S x A) (hG : RG m F R) (hK : properB F R (gv m 0) = true → mvOK F R (pv m))
    (k0 : properB F R (gv m 0) = false → post (iI 0) (xS S x A (up (ldm m) 50 0 1)))
    (k1 : properB F R (gv m 0) = true → ∀ w, clV w → post (iI (movesL F R (pv m)).length) (xS S x A (lsM (up (ldm m) 50 0 0) 0 (movesL F R (pv m)) w))) : wp_X12_moveCount D post (xS S x A m) x := by
  unfold wp_X12_moveCount wp_X12_moveCount_0
  refine q_isAskable h hG ?_
  try simp (discharger := omega) only [nlit, iI_lit, iI_add, iI_sub, iI_mul, iI_neg, bI_z, bI_o, i10, i01, eq_self, bI_nar, nar_0, nar_1, bI_t, bI_f, Option.some.injEq, exists_eq_left', true_and, and_true, forall_eq, not_true_eq_false, not_false_eq_true, forall_const, false_implies, true_implies, Classical.not_not, if_true, if_false, Int.reduceEq, Int.reduceLT, Int.reduceLE, Int.reduceGT, Int.reduceGE, Int.reduceAdd, Int.reduceSub, Int.reduceMul, Int.reduceNeg, Int.reduceNe, Bool.true_and, Bool.and_true, Bool.false_and, Bool.and_false, BEq.rfl, Bool.true_eq_false, Bool.false_eq_true]
  rw [q_can h]
  try simp (discharger := omega) only [nlit, iI_lit, iI_add, iI_sub, iI_mul, iI_neg, bI_z, bI_o, i10, i01, eq_self, bI_nar, nar_0, nar_1, bI_t, bI_f, Option.some.injEq, exists_eq_left', true_and, and_true, forall_eq, not_true_eq_false, not_false_eq_true, forall_const, false_implies, true_implies, Classical.not_not, if_true, if_false, Int.reduceEq, Int.reduceLT, Int.reduceLE, Int.reduceGT, Int.reduceGE, Int.reduceAdd, Int.reduceSub, Int.reduceMul, Int.reduceNeg, Int.reduceNe, Bool.true_and, Bool.and_true, Bool.false_and, Bool.and_false, BEq.rfl, Bool.true_eq_false, Bool.false_eq_true]
  cases c : properB F R (gv m 0)
  · try simp (discharger := omega) only [nlit, iI_lit, iI_add, iI_sub, iI_mul, iI_neg, bI_z, bI_o, i10, i01, eq_self, bI_nar, nar_0, nar_1, bI_t, bI_f, Option.some.injEq, exists_eq_left', true_and, and_true, forall_eq, not_true_eq_false, not_false_eq_true, forall_const, false_implies, true_implies, Classical.not_not, if_true, if_false, Int.reduceEq, Int.reduceLT, Int.reduceLE, Int.reduceGT, Int.reduceGE, Int.reduceAdd, Int.reduceSub, Int.reduceMul, Int.reduceNeg, Int.reduceNe, Bool.true_and, Bool.and_true, Bool.false_and, Bool.and_false, BEq.rfl, Bool.true_eq_false, Bool.false_eq_true]
    exact k0 c
  · have k1 := k1 c
    have hk := hK c
    have el : lv (up (ldm m) 50 0 0) 0 = pv m := (lv_row3 (up_r _ _ _ rfl) 0).trans (ldm_lv m)
    have hB1 : XB (up (ldm m) 50 0 0) F R := hG.b.ldm.cn (w := 0) (b := true)
    try simp (discharger := omega) only [nlit, iI_lit, iI_add, iI_sub, iI_mul, iI_neg, bI_z, bI_o, i10, i01, eq_self, bI_nar, nar_0, nar_1, bI_t, bI_f, Option.some.injEq, exists_eq_left', true_and, and_true, forall_eq, not_true_eq_false, not_false_eq_true, forall_const, false_implies, true_implies, Classical.not_not, if_true, if_false, Int.reduceEq, Int.reduceLT, Int.reduceLE, Int.reduceGT, Int.reduceGE, Int.reduceAdd, Int.reduceSub, Int.reduceMul, Int.reduceNeg, Int.reduceNe, Bool.true_and, Bool.and_true, Bool.false_and, Bool.and_false, BEq.rfl, Bool.true_eq_false, Bool.false_eq_true]
    rw [cn_true]
    refine q_moves h hB1 (by decide) (by rw [el]; exact hG.pv) (by rw [el]; exact hk.1) (by rw [el]; exact hk.2) ?_
    intro w hw
    rw [el]
    simp (discharger := first | decide | omega) only [x_own h, x_kd h, x_r h, x_m h, x_l h, x_k h, x_n h, x_i0, x_i h, x_u0 h, x_u h, xLen, xKd, nlit, iI_lit, iI_add, iI_sub, iI_mul, iI_neg, bI_z, bI_o, i10, i01, eq_self, bI_nar, nar_0, nar_1, up_at, up_f, Option.some.injEq, exists_eq_left', true_and, and_true, forall_eq, not_true_eq_false, not_false_eq_true, forall_const, false_implies, true_implies, Classical.not_not, if_true, if_false, Int.reduceEq, Int.reduceLT, Int.reduceLE, Int.reduceGT, Int.reduceGE, Int.reduceAdd, Int.reduceSub, Int.reduceMul, Int.reduceNeg, Int.reduceNe, eq_true (iI_in (a := 0) (n := 8) (by omega) (by omega) (by omega)), lsM_n]
    exact k1 w hw
theorem q_isAskedMove {post : Int32 → wS → Prop} (h : XC D S x A) (hG : RG m F R) (hK : properB F R (gv m 0) = true → mvOK F R (pv m)) {v : Int} (hi : i32 v)
    (k0 : properB F R (gv m 0) = false → post (iI 0) (xS S x A (up (ldm m) 50 0 1)))
    (k1 : properB F R (gv m 0) = true → ∀ w, clV w → inB v 0 ((movesL F R (pv m)).length - 1) = false → post (iI 0) (xS S x A (up (lsM (up (ldm m) 50 0 0) 0 (movesL F R (pv m)) w) 50 0 2)))
    (k2 : properB F R (gv m 0) = true → ∀ w, clV w → inB v 0 ((movesL F R (pv m)).length - 1) = true → post (iI 1) (xS S x A (up (lsM (up (ldm m) 50 0 0) 0 (movesL F R (pv m)) w) 50 0 0))) : wp_X12_isAskedMove D post (xS S x A m) x (iI v) := by
  unfold wp_X12_isAskedMove wp_X12_isAskedMove_0
  refine q_isAskable h hG ?_
  try simp (discharger := omega) only [nlit, iI_lit, iI_add, iI_sub, iI_mul, iI_neg, bI_z, bI_o, i10, i01, eq_self, bI_nar, nar_0, nar_1, bI_t, bI_f, Option.some.injEq, exists_eq_left', true_and, and_true, forall_eq, not_true_eq_false, not_false_eq_true, forall_const, false_implies, true_implies, Classical.not_not, if_true, if_false, Int.reduceEq, Int.reduceLT, Int.reduceLE, Int.reduceGT, Int.reduceGE, Int.reduceAdd, Int.reduceSub, Int.reduceMul, Int.reduceNeg, Int.reduceNe, Bool.true_and, Bool.and_true, Bool.false_and, Bool.and_false, BEq.rfl, Bool.true_eq_false, Bool.false_eq_true]
  rw [q_can h]
  simp (discharger := omega) only [nlit, iI_lit, iI_add, iI_sub, iI_mul, iI_neg, bI_z, bI_o, i10, i01, eq_self, bI_nar, nar_0, nar_1, bI_t, bI_f, Option.some.injEq, exists_eq_left', true_and, and_true, forall_eq, not_true_eq_false, not_false_eq_true, forall_const, false_implies, true_implies, Classical.not_not, if_true, if_false, Int.reduceEq, Int.reduceLT, Int.reduceLE, Int.reduceGT, Int.reduceGE, Int.reduceAdd, Int.reduceSub, Int.reduceMul, Int.reduceNeg, Int.reduceNe, Bool.true_and, Bool.and_true, Bool.false_and, Bool.and_false, BEq.rfl, Bool.true_eq_false, Bool.false_eq_true, wp_X12_isAskedMove_29, wp_X12_isAskedMove_30]
  cases c : properB F R (gv m 0)
  · try simp (discharger := omega) only [nlit, iI_lit, iI_add, iI_sub, iI_mul, iI_neg, bI_z, bI_o, i10, i01, eq_self, bI_nar, nar_0, nar_1, bI_t, bI_f, Option.some.injEq, exists_eq_left', true_and, and_true, forall_eq, not_true_eq_false, not_false_eq_true, forall_const, false_implies, true_implies, Classical.not_not, if_true, if_false, Int.reduceEq, Int.reduceLT, Int.reduceLE, Int.reduceGT, Int.reduceGE, Int.reduceAdd, Int.reduceSub, Int.reduceMul, Int.reduceNeg, Int.reduceNe, Bool.true_and, Bool.and_true, Bool.false_and, Bool.and_false, BEq.rfl, Bool.true_eq_false, Bool.false_eq_true]
    exact k0 c
  · have k1 := k1 c
    have k2 := k2 c
    have hk := hK c
    have el : lv (up (ldm m) 50 0 0) 0 = pv m := (lv_row3 (up_r _ _ _ rfl) 0).trans (ldm_lv m)
    have hB1 : XB (up (ldm m) 50 0 0) F R := hG.b.ldm.cn (w := 0) (b := true)
    try simp (discharger := omega) only [nlit, iI_lit, iI_add, iI_sub, iI_mul, iI_neg, bI_z, bI_o, i10, i01, eq_self, bI_nar, nar_0, nar_1, bI_t, bI_f, Option.some.injEq, exists_eq_left', true_and, and_true, forall_eq, not_true_eq_false, not_false_eq_true, forall_const, false_implies, true_implies, Classical.not_not, if_true, if_false, Int.reduceEq, Int.reduceLT, Int.reduceLE, Int.reduceGT, Int.reduceGE, Int.reduceAdd, Int.reduceSub, Int.reduceMul, Int.reduceNeg, Int.reduceNe, Bool.true_and, Bool.and_true, Bool.false_and, Bool.and_false, BEq.rfl, Bool.true_eq_false, Bool.false_eq_true]
    rw [cn_true]
    refine q_isMove h hB1 (by rw [el]; exact hG.pv) (by rw [el]; exact hk) hi ?_
    intro w hw
    rw [el, q_can h]
    try simp (discharger := omega) only [nlit, iI_lit, iI_add, iI_sub, iI_mul, iI_neg, bI_z, bI_o, i10, i01, eq_self, bI_nar, nar_0, nar_1, bI_t, bI_f, Option.some.injEq, exists_eq_left', true_and, and_true, forall_eq, not_true_eq_false, not_false_eq_true, forall_const, false_implies, true_implies, Classical.not_not, if_true, if_false, Int.reduceEq, Int.reduceLT, Int.reduceLE, Int.reduceGT, Int.reduceGE, Int.reduceAdd, Int.reduceSub, Int.reduceMul, Int.reduceNeg, Int.reduceNe, Bool.true_and, Bool.and_true, Bool.false_and, Bool.and_false, BEq.rfl, Bool.true_eq_false, Bool.false_eq_true]
    cases c2 : inB v 0 ((movesL F R (pv m)).length - 1)
    · try simp (discharger := omega) only [nlit, iI_lit, iI_add, iI_sub, iI_mul, iI_neg, bI_z, bI_o, i10, i01, eq_self, bI_nar, nar_0, nar_1, bI_t, bI_f, Option.some.injEq, exists_eq_left', true_and, and_true, forall_eq, not_true_eq_false, not_false_eq_true, forall_const, false_implies, true_implies, Classical.not_not, if_true, if_false, Int.reduceEq, Int.reduceLT, Int.reduceLE, Int.reduceGT, Int.reduceGE, Int.reduceAdd, Int.reduceSub, Int.reduceMul, Int.reduceNeg, Int.reduceNe, Bool.true_and, Bool.and_true, Bool.false_and, Bool.and_false, BEq.rfl, Bool.true_eq_false, Bool.false_eq_true]
      exact k1 w hw c2
    · try simp (discharger := omega) only [nlit, iI_lit, iI_add, iI_sub, iI_mul, iI_neg, bI_z, bI_o, i10, i01, eq_self, bI_nar, nar_0, nar_1, bI_t, bI_f, Option.some.injEq, exists_eq_left', true_and, and_true, forall_eq, not_true_eq_false, not_false_eq_true, forall_const, false_implies, true_implies, Classical.not_not, if_true, if_false, Int.reduceEq, Int.reduceLT, Int.reduceLE, Int.reduceGT, Int.reduceGE, Int.reduceAdd, Int.reduceSub, Int.reduceMul, Int.reduceNeg, Int.reduceNe, Bool.true_and, Bool.and_true, Bool.false_and, Bool.and_false, BEq.rfl, Bool.true_eq_false, Bool.false_eq_true]
      exact k2 w hw c2
end
