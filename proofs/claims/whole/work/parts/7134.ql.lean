/-! what is written to the output -/
def wrM (m : xM) (W : List Int) : xM := fun r j => if r = 50 ∧ j = 15 then m 50 15 + W.length else if r = 14 ∧ m 50 15 ≤ j ∧ j < m 50 15 + W.length then W.getD (j - m 50 15).toNat 0 else m r j
theorem wrM_15 (m : xM) (W : List Int) : wrM m W 50 15 = m 50 15 + W.length := by simp [wrM]
theorem wrM_50 (m : xM) (W : List Int) {j : Int} (h : j ≠ 15) : wrM m W 50 j = m 50 j := by simp [wrM, h]
theorem wrM_r (m : xM) (W : List Int) {r : Nat} (j : Int) (h : (r == 50) = false) (h2 : (r == 14) = false) : wrM m W r j = m r j := by
  have a : r ≠ 50 := by simpa using h
  have b : r ≠ 14 := by simpa using h2
  simp [wrM, a, b]
theorem wrM_row (m : xM) (W : List Int) {r : Nat} (h : (r == 50) = false) (h2 : (r == 14) = false) : wrM m W r = m r := funext fun j => wrM_r m W j h h2
theorem wrM_0 (m : xM) : wrM m [] = m := by
  funext r j
  unfold wrM
  split
  · next h => rw [h.1, h.2]; simp
  · split
    · next h => simp at h; omega
    · rfl
theorem wrM_app (m : xM) (V W : List Int) : wrM (wrM m V) W = wrM m (V ++ W) := by
  funext r j
  by_cases c : r = 50 ∧ j = 15
  · rw [c.1, c.2, wrM_15, wrM_15, wrM_15, List.length_append]; omega
  · have e1 : ∀ (m : xM) (V : List Int), wrM m V r j = if r = 14 ∧ m 50 15 ≤ j ∧ j < m 50 15 + V.length then V.getD (j - m 50 15).toNat 0 else m r j := fun m V => if_neg c
    rw [e1, e1, e1, wrM_15, List.length_append]
    by_cases q : r = 14 ∧ m 50 15 ≤ j ∧ j < m 50 15 + ((V.length + W.length : Nat) : Int)
    · rw [if_pos q]
      by_cases z : m 50 15 + V.length ≤ j
      · rw [if_pos ⟨q.1, by omega, by omega⟩, List.getD_eq_getElem?_getD, List.getD_eq_getElem?_getD, List.getElem?_append_right (by omega)]
        congr 2; omega
      · rw [if_neg (by omega), if_pos ⟨q.1, by omega, by omega⟩, List.getD_eq_getElem?_getD, List.getD_eq_getElem?_getD, List.getElem?_append_left (by omega)]
    · rw [if_neg q, if_neg (by omega), if_neg (by omega)]
def rankP (F : Int) (v : Int → Int) (r f e : Int) : Nat → List Int
  | 0 => if 0 < e then [48 + e] else []
  | d + 1 => if v (F * r + f) = 0 then rankP F v r (f + 1) (e + 1) d else (if 0 < e then [48 + e] else []) ++ (letB (kindO (v (F * r + f))) + (if 6 < v (F * r + f) then 32 else 0)) :: rankP F v r (f + 1) 0 d
def ranksP (F : Int) (v : Int → Int) : Nat → List Int
  | 0 => []
  | d + 1 => rankP F v d 0 0 F.toNat ++ (if 0 < d then 47 else 32) :: ranksP F v d
def rightP (p b : Int) : Nat → List Int
  | 0 => []
  | d + 1 => (if p / 2 ^ b.toNat % 2 = 1 then [(if b % 2 = 0 then 75 else 81) + (if b < 2 then 0 else 32)] else []) ++ rightP p (b + 1) d
def rightsP (p : Int) : List Int := rightP p 0 4 ++ if p = 0 then [45] else []
def passP (F q : Int) : List Int := if q = -1 then [45] else [fileC F q, rankC F q]
def paperP (F R : Int) (v : Int → Int) : List Int := ranksP F v R.toNat ++ (if v 64 = 1 then 119 else 98) :: 32 :: (rightsP (v 65) ++ 32 :: passP F (v 66))
theorem rankP_len (F : Int) (v : Int → Int) (r : Int) : ∀ (d : Nat) (f e : Int), (rankP F v r f e d).length ≤ d + if 0 < e then 1 else 0 := by
  intro d
  induction d with
  | zero => intro f e; unfold rankP; split <;> simp
  | succ d ih =>
    intro f e
    unfold rankP
    split
    · have := ih (f + 1) (e + 1)
      split at this <;> split <;> omega
    · have := ih (f + 1) 0
      simp at this
      split <;> simp <;> omega
theorem rightP_len (p : Int) : ∀ (d : Nat) (b : Int), (rightP p b d).length ≤ d := by
  intro d
  induction d with
  | zero => intro b; simp [rightP]
  | succ d ih => intro b; unfold rightP; have := ih (b + 1); rw [List.length_append]; split <;> simp <;> omega
theorem ranksP_len {F : Int} (h8 : F ≤ 8) (v : Int → Int) : ∀ d : Nat, (ranksP F v d).length ≤ 9 * d := by
  intro d
  induction d with
  | zero => simp [ranksP]
  | succ d ih =>
    unfold ranksP
    have := rankP_len F v d F.toNat 0 0
    simp at this ⊢
    omega
section
variable {D : wD} {S : wS} {x : Nat} {A : Nat → Nat} {m : xM} {F R : Int} {post : wS → Prop}
theorem XB.wr (h : XB m F R) (W : List Int) : XB (wrM m W) F R := by
  refine ⟨?_, ?_, h.2.2⟩
  · rw [wrM_50 _ _ (by decide)]; exact h.1
  · rw [wrM_50 _ _ (by decide)]; exact h.2.1
theorem lv_wr (m : xM) (W : List Int) (l : Int) : lv (wrM m W) l = lv m l := vec_row (wrM_row m W rfl rfl) _
theorem q_writes (h : XC D S x A) (hw : 0 ≤ m 50 15 ∧ m 50 15 < 128) {c : Int} (k : post (xS S x A (wrM m [c]))) : wp_X12_writes D post (xS S x A m) x (iI c) := by
  have i1 : vp_in (iI (m 50 15)) 128 := iI_in (by omega) (by omega) (by omega)
  simp (discharger := first | decide | omega) only [x_own h, x_kd h, x_r h, x_m h, x_l h, x_k h, x_n h, x_i0, x_i h, x_u0 h, x_u h, xLen, xKd, nlit, iI_lit, iI_add, iI_sub, iI_mul, iI_neg, bI_z, bI_o, i10, i01, eq_self, bI_nar, nar_0, nar_1, up_at, up_f, Option.some.injEq, exists_eq_left', true_and, and_true, forall_eq, not_true_eq_false, not_false_eq_true, forall_const, false_implies, true_implies, Classical.not_not, if_true, if_false, Int.reduceEq, Int.reduceLT, Int.reduceLE, Int.reduceGT, Int.reduceGE, Int.reduceAdd, Int.reduceSub, Int.reduceMul, Int.reduceNeg, Int.reduceNe, wp_X12_writes, wp_X12_writes_0, eq_true i1]
  have e : up (up m 14 (m 50 15) c) 50 15 (up m 14 (m 50 15) c 50 15 + 1) = wrM m [c] := by
    funext r j
    unfold up wrM
    by_cases q : r = 50 ∧ j = 15
    · simp [q]
    · rw [if_neg q, if_neg q]
      by_cases z : r = 14 ∧ j = m 50 15
      · rw [if_pos z, if_pos (by simp; omega), z.2]; simp
      · rw [if_neg z, if_neg (by simp; omega)]
  have e1 : up m 14 (m 50 15) c 50 15 = m 50 15 := up_f m _ _ _ rfl
  rw [e1] at e
  rw [e]
  exact k
theorem q_writesSquare (h : XC D S x A) (hB : XB m F R) (hw : 0 ≤ m 50 15 ∧ m 50 15 < 127) {a : Int} (ha : 0 ≤ a ∧ a < 64) (k : post (xS S x A (wrM m [fileC F a, rankC F a]))) : wp_X12_writesSquare D post (xS S x A m) x (iI a) := by
  unfold wp_X12_writesSquare wp_X12_writesSquare_0
  rw [q_fileOf hB (by omega)]
  try simp (discharger := omega) only [nlit, iI_lit, iI_add, iI_sub, iI_mul, iI_neg, bI_z, bI_o, i10, i01, eq_self, bI_nar, nar_0, nar_1, bI_t, bI_f, Option.some.injEq, exists_eq_left', true_and, and_true, forall_eq, not_true_eq_false, not_false_eq_true, forall_const, false_implies, true_implies, Classical.not_not, if_true, if_false, Int.reduceEq, Int.reduceLT, Int.reduceLE, Int.reduceGT, Int.reduceGE, Int.reduceAdd, Int.reduceSub, Int.reduceMul, Int.reduceNeg, Int.reduceNe, Bool.true_and, Bool.and_true, Bool.false_and, Bool.and_false, BEq.rfl, Bool.true_eq_false, Bool.false_eq_true]
  refine q_writes h (by omega) ?_
  rw [q_rankOf (hB.wr _) (by omega)]
  try simp (discharger := omega) only [nlit, iI_lit, iI_add, iI_sub, iI_mul, iI_neg, bI_z, bI_o, i10, i01, eq_self, bI_nar, nar_0, nar_1, bI_t, bI_f, Option.some.injEq, exists_eq_left', true_and, and_true, forall_eq, not_true_eq_false, not_false_eq_true, forall_const, false_implies, true_implies, Classical.not_not, if_true, if_false, Int.reduceEq, Int.reduceLT, Int.reduceLE, Int.reduceGT, Int.reduceGE, Int.reduceAdd, Int.reduceSub, Int.reduceMul, Int.reduceNeg, Int.reduceNe, Bool.true_and, Bool.and_true, Bool.false_and, Bool.and_false, BEq.rfl, Bool.true_eq_false, Bool.false_eq_true]
  refine q_writes h (by rw [wrM_15]; simp; omega) ?_
  rw [wrM_app]
  exact k
theorem q_wP_20 (h : XC D S x A) {v : Int → Int} (hv : okV F R v) {r : Int} (hr : 0 ≤ r ∧ r < R) {k12 : wS → Nat → Int32 → Prop} : ∀ (n d : Nat) (f e : Int) (m : xM), d < n → f + d = F → 0 ≤ f → 0 ≤ e ∧ e ≤ f → XB m F R → lv m 0 = v → 0 ≤ m 50 15 ∧ m 50 15 + d + (if 0 < e then 1 else 0) ≤ 128 →
    wp_X12_writesPaper_122 D post k12 (xS S x A (wrM m (rankP F v r f e d))) x (iI r) → wp_X12_writesPaper_20 D post k12 n (xS S x A m) x (iI r) (iI e) (iI f) := by
  intro n
  induction n with
  | zero => intro d f e m hd; omega
  | succ n ih =>
    intro d f e m hd hj h0 he hB hlv hw k
    have h4 := hB.f4; have h8 := hB.f8; have r4 := hB.r4; have r8 := hB.r8
    have hn := hB.n
    have e1 : m 50 1 = F := hB.f
    unfold wp_X12_writesPaper_20
    simp (discharger := first | decide | omega) only [x_own h, x_kd h, x_r h, x_m h, x_l h, x_k h, x_n h, x_i0, x_i h, x_u0 h, x_u h, xLen, xKd, nlit, iI_lit, iI_add, iI_sub, iI_mul, iI_neg, bI_z, bI_o, i10, i01, eq_self, bI_nar, nar_0, nar_1, up_at, up_f, Option.some.injEq, exists_eq_left', true_and, and_true, forall_eq, not_true_eq_false, not_false_eq_true, forall_const, false_implies, true_implies, Classical.not_not, if_true, if_false, Int.reduceEq, Int.reduceLT, Int.reduceLE, Int.reduceGT, Int.reduceGE, Int.reduceAdd, Int.reduceSub, Int.reduceMul, Int.reduceNeg, Int.reduceNe]
    rw [show m 50 1 = F from hB.f]
    simp (discharger := omega) only [nlit, iI_lit, iI_add, iI_sub, iI_mul, iI_neg, bI_z, bI_o, i10, i01, eq_self, bI_nar, nar_0, nar_1, bI_t, bI_f, Option.some.injEq, exists_eq_left', true_and, and_true, forall_eq, not_true_eq_false, not_false_eq_true, forall_const, false_implies, true_implies, Classical.not_not, if_true, if_false, Int.reduceEq, Int.reduceLT, Int.reduceLE, Int.reduceGT, Int.reduceGE, Int.reduceAdd, Int.reduceSub, Int.reduceMul, Int.reduceNeg, Int.reduceNe, Bool.true_and, Bool.and_true, Bool.false_and, Bool.and_false, BEq.rfl, Bool.true_eq_false, Bool.false_eq_true, iI_le]
    unfold rankP at k
    cases d with
    | zero =>
      have c : F ≤ f := by omega
      simp only at k
      simp (discharger := omega) only [nlit, iI_lit, iI_add, iI_sub, iI_mul, iI_neg, bI_z, bI_o, i10, i01, eq_self, bI_nar, nar_0, nar_1, bI_t, bI_f, Option.some.injEq, exists_eq_left', true_and, and_true, forall_eq, not_true_eq_false, not_false_eq_true, forall_const, false_implies, true_implies, Classical.not_not, if_true, if_false, Int.reduceEq, Int.reduceLT, Int.reduceLE, Int.reduceGT, Int.reduceGE, Int.reduceAdd, Int.reduceSub, Int.reduceMul, Int.reduceNeg, Int.reduceNe, Bool.true_and, Bool.and_true, Bool.false_and, Bool.and_false, BEq.rfl, Bool.true_eq_false, Bool.false_eq_true, c]
      by_cases ce : 0 < e
      · have : ¬ e ≤ 0 := by omega
        rw [if_pos ce] at k
        rw [if_pos ce] at hw
        simp (discharger := omega) only [nlit, iI_lit, iI_add, iI_sub, iI_mul, iI_neg, bI_z, bI_o, i10, i01, eq_self, bI_nar, nar_0, nar_1, bI_t, bI_f, Option.some.injEq, exists_eq_left', true_and, and_true, forall_eq, not_true_eq_false, not_false_eq_true, forall_const, false_implies, true_implies, Classical.not_not, if_true, if_false, Int.reduceEq, Int.reduceLT, Int.reduceLE, Int.reduceGT, Int.reduceGE, Int.reduceAdd, Int.reduceSub, Int.reduceMul, Int.reduceNeg, Int.reduceNe, Bool.true_and, Bool.and_true, Bool.false_and, Bool.and_false, BEq.rfl, Bool.true_eq_false, Bool.false_eq_true, this]
        exact q_writes h (by omega) k
      · have : e ≤ 0 := by omega
        rw [if_neg ce, wrM_0] at k
        simp (discharger := omega) only [nlit, iI_lit, iI_add, iI_sub, iI_mul, iI_neg, bI_z, bI_o, i10, i01, eq_self, bI_nar, nar_0, nar_1, bI_t, bI_f, Option.some.injEq, exists_eq_left', true_and, and_true, forall_eq, not_true_eq_false, not_false_eq_true, forall_const, false_implies, true_implies, Classical.not_not, if_true, if_false, Int.reduceEq, Int.reduceLT, Int.reduceLE, Int.reduceGT, Int.reduceGE, Int.reduceAdd, Int.reduceSub, Int.reduceMul, Int.reduceNeg, Int.reduceNe, Bool.true_and, Bool.and_true, Bool.false_and, Bool.and_false, BEq.rfl, Bool.true_eq_false, Bool.false_eq_true, this]
        exact k
    | succ d =>
      have c : ¬ F ≤ f := by omega
      have hsq : 0 ≤ F * r + f ∧ F * r + f < 64 := by
        rcases (show F = 4 ∨ F = 5 ∨ F = 6 ∨ F = 7 ∨ F = 8 by omega) with rfl | rfl | rfl | rfl | rfl <;> omega
      have hp := hv.1 (F * r + f) hsq.1 hsq.2
      have hd1 : ((d + 1 : Nat) : Int) = d + 1 := by omega
      rw [hd1] at hw
      simp (discharger := omega) only [nlit, iI_lit, iI_add, iI_sub, iI_mul, iI_neg, bI_z, bI_o, i10, i01, eq_self, bI_nar, nar_0, nar_1, bI_t, bI_f, Option.some.injEq, exists_eq_left', true_and, and_true, forall_eq, not_true_eq_false, not_false_eq_true, forall_const, false_implies, true_implies, Classical.not_not, if_true, if_false, Int.reduceEq, Int.reduceLT, Int.reduceLE, Int.reduceGT, Int.reduceGE, Int.reduceAdd, Int.reduceSub, Int.reduceMul, Int.reduceNeg, Int.reduceNe, Bool.true_and, Bool.and_true, Bool.false_and, Bool.and_false, BEq.rfl, Bool.true_eq_false, Bool.false_eq_true, c]
      rw [q_on h (by omega) (by omega) (by omega), hlv]
      simp only at k
      simp (discharger := omega) only [nlit, iI_lit, iI_add, iI_sub, iI_mul, iI_neg, bI_z, bI_o, i10, i01, eq_self, bI_nar, nar_0, nar_1, bI_t, bI_f, Option.some.injEq, exists_eq_left', true_and, and_true, forall_eq, not_true_eq_false, not_false_eq_true, forall_const, false_implies, true_implies, Classical.not_not, if_true, if_false, Int.reduceEq, Int.reduceLT, Int.reduceLE, Int.reduceGT, Int.reduceGE, Int.reduceAdd, Int.reduceSub, Int.reduceMul, Int.reduceNeg, Int.reduceNe, Bool.true_and, Bool.and_true, Bool.false_and, Bool.and_false, BEq.rfl, Bool.true_eq_false, Bool.false_eq_true, iI_eq, iI_le]
      have k72 : ∀ m' : xM, XB m' F R → lv m' 0 = v → 0 ≤ m' 50 15 ∧ m' 50 15 + d + 1 ≤ 128 → (if v (F * r + f) = 0 then True else wp_X12_writesPaper_122 D post k12 (xS S x A (wrM m' ((letB (kindO (v (F * r + f))) + (if 6 < v (F * r + f) then 32 else 0)) :: rankP F v r (f + 1) 0 d))) x (iI r)) → v (F * r + f) ≠ 0 →
          wp_X12_writesPaper_60 D post k12 (wp_X12_writesPaper_20 D post k12 n) (xS S x A m') x (iI r) (iI e) (iI f) (iI (v (F * r + f))) := by
        intro m' hB' hl' hw' kk nz
        rw [if_neg nz] at kk
        simp (discharger := omega) only [nlit, iI_lit, iI_add, iI_sub, iI_mul, iI_neg, bI_z, bI_o, i10, i01, eq_self, bI_nar, nar_0, nar_1, bI_t, bI_f, Option.some.injEq, exists_eq_left', true_and, and_true, forall_eq, not_true_eq_false, not_false_eq_true, forall_const, false_implies, true_implies, Classical.not_not, if_true, if_false, Int.reduceEq, Int.reduceLT, Int.reduceLE, Int.reduceGT, Int.reduceGE, Int.reduceAdd, Int.reduceSub, Int.reduceMul, Int.reduceNeg, Int.reduceNe, Bool.true_and, Bool.and_true, Bool.false_and, Bool.and_false, BEq.rfl, Bool.true_eq_false, Bool.false_eq_true, wp_X12_writesPaper_60, wp_X12_writesPaper_72, iI_eq, nz]
        rw [q_kindOf hp]
        try simp (discharger := omega) only [nlit, iI_lit, iI_add, iI_sub, iI_mul, iI_neg, bI_z, bI_o, i10, i01, eq_self, bI_nar, nar_0, nar_1, bI_t, bI_f, Option.some.injEq, exists_eq_left', true_and, and_true, forall_eq, not_true_eq_false, not_false_eq_true, forall_const, false_implies, true_implies, Classical.not_not, if_true, if_false, Int.reduceEq, Int.reduceLT, Int.reduceLE, Int.reduceGT, Int.reduceGE, Int.reduceAdd, Int.reduceSub, Int.reduceMul, Int.reduceNeg, Int.reduceNe, Bool.true_and, Bool.and_true, Bool.false_and, Bool.and_false, BEq.rfl, Bool.true_eq_false, Bool.false_eq_true]
        rw [q_letterOf (by unfold kindO; omega)]
        simp (discharger := omega) only [nlit, iI_lit, iI_add, iI_sub, iI_mul, iI_neg, bI_z, bI_o, i10, i01, eq_self, bI_nar, nar_0, nar_1, bI_t, bI_f, Option.some.injEq, exists_eq_left', true_and, and_true, forall_eq, not_true_eq_false, not_false_eq_true, forall_const, false_implies, true_implies, Classical.not_not, if_true, if_false, Int.reduceEq, Int.reduceLT, Int.reduceLE, Int.reduceGT, Int.reduceGE, Int.reduceAdd, Int.reduceSub, Int.reduceMul, Int.reduceNeg, Int.reduceNe, Bool.true_and, Bool.and_true, Bool.false_and, Bool.and_false, BEq.rfl, Bool.true_eq_false, Bool.false_eq_true, iI_le]
        have k100 : ∀ z : Int, z = (if 6 < v (F * r + f) then 32 else 0) → wp_X12_writesPaper_100 D post k12 (wp_X12_writesPaper_20 D post k12 n) (xS S x A m') x (iI r) (iI 0) (iI f) x (iI (letB (kindO (v (F * r + f))))) (iI z) := by
          intro z hz
          simp (discharger := omega) only [nlit, iI_lit, iI_add, iI_sub, iI_mul, iI_neg, bI_z, bI_o, i10, i01, eq_self, bI_nar, nar_0, nar_1, bI_t, bI_f, Option.some.injEq, exists_eq_left', true_and, and_true, forall_eq, not_true_eq_false, not_false_eq_true, forall_const, false_implies, true_implies, Classical.not_not, if_true, if_false, Int.reduceEq, Int.reduceLT, Int.reduceLE, Int.reduceGT, Int.reduceGE, Int.reduceAdd, Int.reduceSub, Int.reduceMul, Int.reduceNeg, Int.reduceNe, Bool.true_and, Bool.and_true, Bool.false_and, Bool.and_false, BEq.rfl, Bool.true_eq_false, Bool.false_eq_true, wp_X12_writesPaper_100]
          refine q_writes h (by omega) ?_
          simp (discharger := omega) only [nlit, iI_lit, iI_add, iI_sub, iI_mul, iI_neg, bI_z, bI_o, i10, i01, eq_self, bI_nar, nar_0, nar_1, bI_t, bI_f, Option.some.injEq, exists_eq_left', true_and, and_true, forall_eq, not_true_eq_false, not_false_eq_true, forall_const, false_implies, true_implies, Classical.not_not, if_true, if_false, Int.reduceEq, Int.reduceLT, Int.reduceLE, Int.reduceGT, Int.reduceGE, Int.reduceAdd, Int.reduceSub, Int.reduceMul, Int.reduceNeg, Int.reduceNe, Bool.true_and, Bool.and_true, Bool.false_and, Bool.and_false, BEq.rfl, Bool.true_eq_false, Bool.false_eq_true, wp_X12_writesPaper_104]
          refine ih d (f + 1) 0 _ (by omega) (by omega) (by omega) (by omega) (hB'.wr _) (by rw [lv_wr]; exact hl') (by rw [wrM_15]; simp; omega) ?_
          rw [wrM_app, hz]
          exact kk
        by_cases c6 : v (F * r + f) ≤ 6
        · simp (discharger := omega) only [nlit, iI_lit, iI_add, iI_sub, iI_mul, iI_neg, bI_z, bI_o, i10, i01, eq_self, bI_nar, nar_0, nar_1, bI_t, bI_f, Option.some.injEq, exists_eq_left', true_and, and_true, forall_eq, not_true_eq_false, not_false_eq_true, forall_const, false_implies, true_implies, Classical.not_not, if_true, if_false, Int.reduceEq, Int.reduceLT, Int.reduceLE, Int.reduceGT, Int.reduceGE, Int.reduceAdd, Int.reduceSub, Int.reduceMul, Int.reduceNeg, Int.reduceNe, Bool.true_and, Bool.and_true, Bool.false_and, Bool.and_false, BEq.rfl, Bool.true_eq_false, Bool.false_eq_true, c6]
          exact k100 0 (by rw [if_neg (by omega)])
        · simp (discharger := omega) only [nlit, iI_lit, iI_add, iI_sub, iI_mul, iI_neg, bI_z, bI_o, i10, i01, eq_self, bI_nar, nar_0, nar_1, bI_t, bI_f, Option.some.injEq, exists_eq_left', true_and, and_true, forall_eq, not_true_eq_false, not_false_eq_true, forall_const, false_implies, true_implies, Classical.not_not, if_true, if_false, Int.reduceEq, Int.reduceLT, Int.reduceLE, Int.reduceGT, Int.reduceGE, Int.reduceAdd, Int.reduceSub, Int.reduceMul, Int.reduceNeg, Int.reduceNe, Bool.true_and, Bool.and_true, Bool.false_and, Bool.and_false, BEq.rfl, Bool.true_eq_false, Bool.false_eq_true, c6]
          exact k100 32 (by rw [if_pos (by omega)])
      by_cases cz : v (F * r + f) = 0
      · rw [if_pos cz] at k
        simp (discharger := omega) only [nlit, iI_lit, iI_add, iI_sub, iI_mul, iI_neg, bI_z, bI_o, i10, i01, eq_self, bI_nar, nar_0, nar_1, bI_t, bI_f, Option.some.injEq, exists_eq_left', true_and, and_true, forall_eq, not_true_eq_false, not_false_eq_true, forall_const, false_implies, true_implies, Classical.not_not, if_true, if_false, Int.reduceEq, Int.reduceLT, Int.reduceLE, Int.reduceGT, Int.reduceGE, Int.reduceAdd, Int.reduceSub, Int.reduceMul, Int.reduceNeg, Int.reduceNe, Bool.true_and, Bool.and_true, Bool.false_and, Bool.and_false, BEq.rfl, Bool.true_eq_false, Bool.false_eq_true, cz, wp_X12_writesPaper_60, wp_X12_writesPaper_72, wp_X12_writesPaper_104]
        refine ih d (f + 1) (e + 1) m (by omega) (by omega) (by omega) (by omega) hB hlv ⟨by omega, ?_⟩ k
        rw [if_pos (by omega)]; split at hw <;> omega
      · rw [if_neg cz] at k
        simp (discharger := omega) only [nlit, iI_lit, iI_add, iI_sub, iI_mul, iI_neg, bI_z, bI_o, i10, i01, eq_self, bI_nar, nar_0, nar_1, bI_t, bI_f, Option.some.injEq, exists_eq_left', true_and, and_true, forall_eq, not_true_eq_false, not_false_eq_true, forall_const, false_implies, true_implies, Classical.not_not, if_true, if_false, Int.reduceEq, Int.reduceLT, Int.reduceLE, Int.reduceGT, Int.reduceGE, Int.reduceAdd, Int.reduceSub, Int.reduceMul, Int.reduceNeg, Int.reduceNe, Bool.true_and, Bool.and_true, Bool.false_and, Bool.and_false, BEq.rfl, Bool.true_eq_false, Bool.false_eq_true, cz]
        by_cases ce : 0 < e
        · have : ¬ e ≤ 0 := by omega
          rw [if_pos ce] at k
          rw [if_pos ce] at hw
          simp (discharger := omega) only [nlit, iI_lit, iI_add, iI_sub, iI_mul, iI_neg, bI_z, bI_o, i10, i01, eq_self, bI_nar, nar_0, nar_1, bI_t, bI_f, Option.some.injEq, exists_eq_left', true_and, and_true, forall_eq, not_true_eq_false, not_false_eq_true, forall_const, false_implies, true_implies, Classical.not_not, if_true, if_false, Int.reduceEq, Int.reduceLT, Int.reduceLE, Int.reduceGT, Int.reduceGE, Int.reduceAdd, Int.reduceSub, Int.reduceMul, Int.reduceNeg, Int.reduceNe, Bool.true_and, Bool.and_true, Bool.false_and, Bool.and_false, BEq.rfl, Bool.true_eq_false, Bool.false_eq_true, this]
          refine q_writes h (by omega) ?_
          refine k72 _ (hB.wr _) (by rw [lv_wr]; exact hlv) (by rw [wrM_15]; simp; omega) ?_ cz
          rw [if_neg cz, wrM_app]
          exact k
        · have : e ≤ 0 := by omega
          rw [if_neg ce] at k
          simp (discharger := omega) only [nlit, iI_lit, iI_add, iI_sub, iI_mul, iI_neg, bI_z, bI_o, i10, i01, eq_self, bI_nar, nar_0, nar_1, bI_t, bI_f, Option.some.injEq, exists_eq_left', true_and, and_true, forall_eq, not_true_eq_false, not_false_eq_true, forall_const, false_implies, true_implies, Classical.not_not, if_true, if_false, Int.reduceEq, Int.reduceLT, Int.reduceLE, Int.reduceGT, Int.reduceGE, Int.reduceAdd, Int.reduceSub, Int.reduceMul, Int.reduceNeg, Int.reduceNe, Bool.true_and, Bool.and_true, Bool.false_and, Bool.and_false, BEq.rfl, Bool.true_eq_false, Bool.false_eq_true, this]
          refine k72 m hB hlv (by omega) ?_ cz
          rw [if_neg cz]
          exact k
theorem q_wP_179 (h : XC D S x A) {p : Int} (hp : 0 ≤ p ∧ p ≤ 15) : ∀ (n d : Nat) (b : Int) (m : xM), d < n → b + d = 4 → 0 ≤ b → 0 ≤ m 50 15 ∧ m 50 15 + d + 1 ≤ 128 →
    wp_X12_writesPaper_238 D post (xS S x A (wrM m (rightP p b d ++ if p = 0 then [45] else []))) x → wp_X12_writesPaper_179 D post n (xS S x A m) x (iI p) (iI b) := by
  have e20 : (iI 2 = iI 0) = False := eq_false (by decide)
  intro n
  induction n with
  | zero => intro d b m hd; omega
  | succ n ih =>
    intro d b m hd hj h0 hw k
    unfold wp_X12_writesPaper_179
    simp (discharger := omega) only [nlit, iI_lit, iI_add, iI_sub, iI_mul, iI_neg, bI_z, bI_o, i10, i01, eq_self, bI_nar, nar_0, nar_1, bI_t, bI_f, Option.some.injEq, exists_eq_left', true_and, and_true, forall_eq, not_true_eq_false, not_false_eq_true, forall_const, false_implies, true_implies, Classical.not_not, if_true, if_false, Int.reduceEq, Int.reduceLT, Int.reduceLE, Int.reduceGT, Int.reduceGE, Int.reduceAdd, Int.reduceSub, Int.reduceMul, Int.reduceNeg, Int.reduceNe, Bool.true_and, Bool.and_true, Bool.false_and, Bool.and_false, BEq.rfl, Bool.true_eq_false, Bool.false_eq_true, iI_le, iI_eq, e20]
    cases d with
    | zero =>
      have c : 4 ≤ b := by omega
      unfold rightP at k
      simp (discharger := omega) only [nlit, iI_lit, iI_add, iI_sub, iI_mul, iI_neg, bI_z, bI_o, i10, i01, eq_self, bI_nar, nar_0, nar_1, bI_t, bI_f, Option.some.injEq, exists_eq_left', true_and, and_true, forall_eq, not_true_eq_false, not_false_eq_true, forall_const, false_implies, true_implies, Classical.not_not, if_true, if_false, Int.reduceEq, Int.reduceLT, Int.reduceLE, Int.reduceGT, Int.reduceGE, Int.reduceAdd, Int.reduceSub, Int.reduceMul, Int.reduceNeg, Int.reduceNe, Bool.true_and, Bool.and_true, Bool.false_and, Bool.and_false, BEq.rfl, Bool.true_eq_false, Bool.false_eq_true, c]
      by_cases cp : p = 0
      · rw [if_pos cp, List.nil_append] at k
        simp (discharger := omega) only [nlit, iI_lit, iI_add, iI_sub, iI_mul, iI_neg, bI_z, bI_o, i10, i01, eq_self, bI_nar, nar_0, nar_1, bI_t, bI_f, Option.some.injEq, exists_eq_left', true_and, and_true, forall_eq, not_true_eq_false, not_false_eq_true, forall_const, false_implies, true_implies, Classical.not_not, if_true, if_false, Int.reduceEq, Int.reduceLT, Int.reduceLE, Int.reduceGT, Int.reduceGE, Int.reduceAdd, Int.reduceSub, Int.reduceMul, Int.reduceNeg, Int.reduceNe, Bool.true_and, Bool.and_true, Bool.false_and, Bool.and_false, BEq.rfl, Bool.true_eq_false, Bool.false_eq_true, cp]
        exact q_writes h (by omega) k
      · rw [if_neg cp, List.append_nil, wrM_0] at k
        simp (discharger := omega) only [nlit, iI_lit, iI_add, iI_sub, iI_mul, iI_neg, bI_z, bI_o, i10, i01, eq_self, bI_nar, nar_0, nar_1, bI_t, bI_f, Option.some.injEq, exists_eq_left', true_and, and_true, forall_eq, not_true_eq_false, not_false_eq_true, forall_const, false_implies, true_implies, Classical.not_not, if_true, if_false, Int.reduceEq, Int.reduceLT, Int.reduceLE, Int.reduceGT, Int.reduceGE, Int.reduceAdd, Int.reduceSub, Int.reduceMul, Int.reduceNeg, Int.reduceNe, Bool.true_and, Bool.and_true, Bool.false_and, Bool.and_false, BEq.rfl, Bool.true_eq_false, Bool.false_eq_true, cp]
        exact k
    | succ d =>
      have c : ¬ 4 ≤ b := by omega
      have hd1 : ((d + 1 : Nat) : Int) = d + 1 := by omega
      rw [hd1] at hw
      simp (discharger := omega) only [nlit, iI_lit, iI_add, iI_sub, iI_mul, iI_neg, bI_z, bI_o, i10, i01, eq_self, bI_nar, nar_0, nar_1, bI_t, bI_f, Option.some.injEq, exists_eq_left', true_and, and_true, forall_eq, not_true_eq_false, not_false_eq_true, forall_const, false_implies, true_implies, Classical.not_not, if_true, if_false, Int.reduceEq, Int.reduceLT, Int.reduceLE, Int.reduceGT, Int.reduceGE, Int.reduceAdd, Int.reduceSub, Int.reduceMul, Int.reduceNeg, Int.reduceNe, Bool.true_and, Bool.and_true, Bool.false_and, Bool.and_false, BEq.rfl, Bool.true_eq_false, Bool.false_eq_true, c]
      have eb := iI_bit (a := p) (b := b) (by omega) (by omega) (by omega) (by omega)
      rw [eb]
      have hbit : 0 ≤ p / 2 ^ b.toNat % 2 ∧ p / 2 ^ b.toNat % 2 < 2 := ⟨Int.emod_nonneg _ (by decide), Int.emod_lt_of_pos _ (by decide)⟩
      rw [iI_eq (by omega) (by omega) (by decide) (by decide)]
      unfold rightP at k
      by_cases cb : p / 2 ^ b.toNat % 2 = 1
      · rw [if_pos cb] at k
        simp (discharger := omega) only [nlit, iI_lit, iI_add, iI_sub, iI_mul, iI_neg, bI_z, bI_o, i10, i01, eq_self, bI_nar, nar_0, nar_1, bI_t, bI_f, Option.some.injEq, exists_eq_left', true_and, and_true, forall_eq, not_true_eq_false, not_false_eq_true, forall_const, false_implies, true_implies, Classical.not_not, if_true, if_false, Int.reduceEq, Int.reduceLT, Int.reduceLE, Int.reduceGT, Int.reduceGE, Int.reduceAdd, Int.reduceSub, Int.reduceMul, Int.reduceNeg, Int.reduceNe, Bool.true_and, Bool.and_true, Bool.false_and, Bool.and_false, BEq.rfl, Bool.true_eq_false, Bool.false_eq_true, cb]
        rw [iI_rem (by omega) (by omega) (by omega) (by omega)]
        simp (discharger := omega) only [nlit, iI_lit, iI_add, iI_sub, iI_mul, iI_neg, bI_z, bI_o, i10, i01, eq_self, bI_nar, nar_0, nar_1, bI_t, bI_f, Option.some.injEq, exists_eq_left', true_and, and_true, forall_eq, not_true_eq_false, not_false_eq_true, forall_const, false_implies, true_implies, Classical.not_not, if_true, if_false, Int.reduceEq, Int.reduceLT, Int.reduceLE, Int.reduceGT, Int.reduceGE, Int.reduceAdd, Int.reduceSub, Int.reduceMul, Int.reduceNeg, Int.reduceNe, Bool.true_and, Bool.and_true, Bool.false_and, Bool.and_false, BEq.rfl, Bool.true_eq_false, Bool.false_eq_true, iI_eq]
        have k207 : ∀ y : Int, y = (if b % 2 = 0 then 75 else 81) → wp_X12_writesPaper_207 D post (wp_X12_writesPaper_179 D post n) (xS S x A m) x (iI p) (iI b) x (iI y) := by
          intro y hy
          simp (discharger := omega) only [nlit, iI_lit, iI_add, iI_sub, iI_mul, iI_neg, bI_z, bI_o, i10, i01, eq_self, bI_nar, nar_0, nar_1, bI_t, bI_f, Option.some.injEq, exists_eq_left', true_and, and_true, forall_eq, not_true_eq_false, not_false_eq_true, forall_const, false_implies, true_implies, Classical.not_not, if_true, if_false, Int.reduceEq, Int.reduceLT, Int.reduceLE, Int.reduceGT, Int.reduceGE, Int.reduceAdd, Int.reduceSub, Int.reduceMul, Int.reduceNeg, Int.reduceNe, Bool.true_and, Bool.and_true, Bool.false_and, Bool.and_false, BEq.rfl, Bool.true_eq_false, Bool.false_eq_true, wp_X12_writesPaper_207, iI_le]
          have k218 : ∀ z : Int, z = (if b < 2 then 0 else 32) → wp_X12_writesPaper_218 D post (wp_X12_writesPaper_179 D post n) (xS S x A m) x (iI p) (iI b) x (iI y) (iI z) := by
            intro z hz
            simp (discharger := omega) only [nlit, iI_lit, iI_add, iI_sub, iI_mul, iI_neg, bI_z, bI_o, i10, i01, eq_self, bI_nar, nar_0, nar_1, bI_t, bI_f, Option.some.injEq, exists_eq_left', true_and, and_true, forall_eq, not_true_eq_false, not_false_eq_true, forall_const, false_implies, true_implies, Classical.not_not, if_true, if_false, Int.reduceEq, Int.reduceLT, Int.reduceLE, Int.reduceGT, Int.reduceGE, Int.reduceAdd, Int.reduceSub, Int.reduceMul, Int.reduceNeg, Int.reduceNe, Bool.true_and, Bool.and_true, Bool.false_and, Bool.and_false, BEq.rfl, Bool.true_eq_false, Bool.false_eq_true, wp_X12_writesPaper_218]
            refine q_writes h (by omega) ?_
            simp (discharger := omega) only [nlit, iI_lit, iI_add, iI_sub, iI_mul, iI_neg, bI_z, bI_o, i10, i01, eq_self, bI_nar, nar_0, nar_1, bI_t, bI_f, Option.some.injEq, exists_eq_left', true_and, and_true, forall_eq, not_true_eq_false, not_false_eq_true, forall_const, false_implies, true_implies, Classical.not_not, if_true, if_false, Int.reduceEq, Int.reduceLT, Int.reduceLE, Int.reduceGT, Int.reduceGE, Int.reduceAdd, Int.reduceSub, Int.reduceMul, Int.reduceNeg, Int.reduceNe, Bool.true_and, Bool.and_true, Bool.false_and, Bool.and_false, BEq.rfl, Bool.true_eq_false, Bool.false_eq_true, wp_X12_writesPaper_222]
            refine ih d (b + 1) _ (by omega) (by omega) (by omega) (by rw [wrM_15]; simp; omega) ?_
            rw [wrM_app, hy, hz]
            simpa using k
          by_cases c2 : 2 ≤ b
          · simp (discharger := omega) only [nlit, iI_lit, iI_add, iI_sub, iI_mul, iI_neg, bI_z, bI_o, i10, i01, eq_self, bI_nar, nar_0, nar_1, bI_t, bI_f, Option.some.injEq, exists_eq_left', true_and, and_true, forall_eq, not_true_eq_false, not_false_eq_true, forall_const, false_implies, true_implies, Classical.not_not, if_true, if_false, Int.reduceEq, Int.reduceLT, Int.reduceLE, Int.reduceGT, Int.reduceGE, Int.reduceAdd, Int.reduceSub, Int.reduceMul, Int.reduceNeg, Int.reduceNe, Bool.true_and, Bool.and_true, Bool.false_and, Bool.and_false, BEq.rfl, Bool.true_eq_false, Bool.false_eq_true, c2]
            exact k218 32 (by rw [if_neg (by omega)])
          · simp (discharger := omega) only [nlit, iI_lit, iI_add, iI_sub, iI_mul, iI_neg, bI_z, bI_o, i10, i01, eq_self, bI_nar, nar_0, nar_1, bI_t, bI_f, Option.some.injEq, exists_eq_left', true_and, and_true, forall_eq, not_true_eq_false, not_false_eq_true, forall_const, false_implies, true_implies, Classical.not_not, if_true, if_false, Int.reduceEq, Int.reduceLT, Int.reduceLE, Int.reduceGT, Int.reduceGE, Int.reduceAdd, Int.reduceSub, Int.reduceMul, Int.reduceNeg, Int.reduceNe, Bool.true_and, Bool.and_true, Bool.false_and, Bool.and_false, BEq.rfl, Bool.true_eq_false, Bool.false_eq_true, c2]
            exact k218 0 (by rw [if_pos (by omega)])
        by_cases c1 : b % 2 = 0
        · simp (discharger := omega) only [nlit, iI_lit, iI_add, iI_sub, iI_mul, iI_neg, bI_z, bI_o, i10, i01, eq_self, bI_nar, nar_0, nar_1, bI_t, bI_f, Option.some.injEq, exists_eq_left', true_and, and_true, forall_eq, not_true_eq_false, not_false_eq_true, forall_const, false_implies, true_implies, Classical.not_not, if_true, if_false, Int.reduceEq, Int.reduceLT, Int.reduceLE, Int.reduceGT, Int.reduceGE, Int.reduceAdd, Int.reduceSub, Int.reduceMul, Int.reduceNeg, Int.reduceNe, Bool.true_and, Bool.and_true, Bool.false_and, Bool.and_false, BEq.rfl, Bool.true_eq_false, Bool.false_eq_true, c1]
          exact k207 75 (by rw [if_pos c1])
        · simp (discharger := omega) only [nlit, iI_lit, iI_add, iI_sub, iI_mul, iI_neg, bI_z, bI_o, i10, i01, eq_self, bI_nar, nar_0, nar_1, bI_t, bI_f, Option.some.injEq, exists_eq_left', true_and, and_true, forall_eq, not_true_eq_false, not_false_eq_true, forall_const, false_implies, true_implies, Classical.not_not, if_true, if_false, Int.reduceEq, Int.reduceLT, Int.reduceLE, Int.reduceGT, Int.reduceGE, Int.reduceAdd, Int.reduceSub, Int.reduceMul, Int.reduceNeg, Int.reduceNe, Bool.true_and, Bool.and_true, Bool.false_and, Bool.and_false, BEq.rfl, Bool.true_eq_false, Bool.false_eq_true, c1]
          exact k207 81 (by rw [if_neg c1])
      · rw [if_neg cb, List.nil_append] at k
        simp (discharger := omega) only [nlit, iI_lit, iI_add, iI_sub, iI_mul, iI_neg, bI_z, bI_o, i10, i01, eq_self, bI_nar, nar_0, nar_1, bI_t, bI_f, Option.some.injEq, exists_eq_left', true_and, and_true, forall_eq, not_true_eq_false, not_false_eq_true, forall_const, false_implies, true_implies, Classical.not_not, if_true, if_false, Int.reduceEq, Int.reduceLT, Int.reduceLE, Int.reduceGT, Int.reduceGE, Int.reduceAdd, Int.reduceSub, Int.reduceMul, Int.reduceNeg, Int.reduceNe, Bool.true_and, Bool.and_true, Bool.false_and, Bool.and_false, BEq.rfl, Bool.true_eq_false, Bool.false_eq_true, cb, wp_X12_writesPaper_222]
        exact ih d (b + 1) m (by omega) (by omega) (by omega) (by omega) k
end
