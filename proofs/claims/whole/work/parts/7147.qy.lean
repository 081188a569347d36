def lnB (F R : Int) (ix : Int → Int) : Int → (Int → Int) → List Mv → Prop
  | _, _, [] => True
  | k, v, t :: ts => (0 ≤ ix k ∧ ix k < (movesL F R v).length ∧ t = (movesL F R v).getD (ix k).toNat (0, 0, 0)) ∧ lnB F R ix (k + 1) (mkT F R v t) ts
def posL (F R : Int) (v : Int → Int) : List Mv → Int → Int
  | [] => v
  | t :: ts => posL F R (mkT F R v t) ts
theorem posL_snoc (F R : Int) (t : Mv) : ∀ (ts : List Mv) (v : Int → Int), posL F R v (ts ++ [t]) = mkT F R (posL F R v ts) t := by
  intro ts
  induction ts with
  | nil => intro v; rfl
  | cons u ts ih => intro v; exact ih (mkT F R v u)
theorem lnB_congr {F R : Int} {ix iy : Int → Int} : ∀ (ts : List Mv) (k : Int) (v : Int → Int), (∀ j, k ≤ j → j < k + ts.length → iy j = ix j) → lnB F R ix k v ts → lnB F R iy k v ts := by
  intro ts
  induction ts with
  | nil => intro k v _ _; exact trivial
  | cons t ts ih =>
    intro k v h q
    have hc : ((t :: ts).length : Int) = ts.length + 1 := by simp
    rw [hc] at h
    refine ⟨?_, ih (k + 1) _ (fun j a b => h j (by omega) (by omega)) q.2⟩
    rw [h k (by omega) (by omega)]; exact q.1
theorem lnB_snoc {F R : Int} {ix : Int → Int} {t : Mv} : ∀ (ts : List Mv) (k : Int) (v : Int → Int), lnB F R ix k v ts → (0 ≤ ix (k + ts.length) ∧ ix (k + ts.length) < (movesL F R (posL F R v ts)).length ∧ t = (movesL F R (posL F R v ts)).getD (ix (k + ts.length)).toNat (0, 0, 0)) → lnB F R ix k v (ts ++ [t]) := by
  intro ts
  induction ts with
  | nil =>
    intro k v _ h
    simp only [List.length_nil, Int.natCast_zero, Int.add_zero] at h
    exact ⟨h, trivial⟩
  | cons u ts ih =>
    intro k v q h
    have hc : ((u :: ts).length : Int) = ts.length + 1 := by simp
    rw [hc] at h
    refine ⟨q.1, ih (k + 1) _ q.2 ?_⟩
    rw [show k + 1 + (ts.length : Int) = k + (ts.length + 1) by omega]
    exact h
abbrev RSq (F R : Int) (GP : (Int → Int) → Prop) (v0 : Int → Int) (m0 m : xM) (a : Int) (s : RD) : Prop :=
  (SIM m0 m ∧ m 50 0 = m0 50 0) ∧ (m 50 27 = s.1 ∧ 0 ≤ s.1 ∧ s.1 ≤ 4) ∧ (m 50 26 = s.2.2.2.2.2.1 ∧ m 50 28 = bI s.2.2.2.2.2.2.1 ∧ m 50 29 = bI s.2.2.2.2.2.2.2) ∧
  (∀ l, 0 ≤ l → l ≤ s.1 → vec m 20 (67 * l) = s.2.1 l ∧ GP (s.2.1 l) ∧ m 22 l = s.2.2.2.1 l ∧ (0 ≤ s.2.2.2.1 l ∧ s.2.2.2.1 l ≤ a) ∧ (s.2.2.2.1 l ≠ 0 → vec m 21 (67 * l) = s.2.2.1 l ∧ GP (s.2.2.1 l))) ∧
  lnB F R (m 23) 0 v0 s.2.2.2.2.1 ∧ s.2.2.2.1 0 = s.2.2.2.2.1.length ∧ m0 50 11 + s.2.2.2.2.1.length ≤ 80 ∧ s.2.1 0 = posL F R v0 s.2.2.2.2.1
abbrev GPc (F R : Int) (GP : (Int → Int) → Prop) : Prop := ∀ v, GP v → okV F R v ∧ clV v ∧ mvOK F R v ∧ ∀ t ∈ movesL F R v, stOK F R (mkT F R v t) ∧ GP (mkT F R v t)
/-- what a reading of a token may change aside from what it is -/
def rdX (m m' : xM) : Prop := ∀ r j, (r == 3 || r == 4 || r == 5 || r == 6 || r == 7 || r == 17 || r == 18) = false → m' r j = m r j
theorem rdX.row {m m' : xM} (h : rdX m m') {r : Nat} (hr : (r == 3 || r == 4 || r == 5 || r == 6 || r == 7 || r == 17 || r == 18) = false) : m' r = m r := funext fun j => h r j hr
theorem rdX.kp {r : Nat} {j : Int} (hk : kpB r j = true) : (r == 3 || r == 4 || r == 5 || r == 6 || r == 7 || r == 17 || r == 18) = false := by
  cases e : (r == 3 || r == 4 || r == 5 || r == 6 || r == 7 || r == 17 || r == 18) with
  | false => rfl
  | true =>
    simp at e
    rcases e with ((((((e | e) | e) | e) | e) | e) | e) <;> (subst e; cases hk)
theorem RSq.x {F R : Int} {GP : (Int → Int) → Prop} {v0 : Int → Int} {m0 m m' : xM} {a : Int} {s : RD} (h : RSq F R GP v0 m0 m a s) (q : rdX m m') : RSq F R GP v0 m0 m' a s := by
  refine ⟨⟨fun r j hk => (q r j (rdX.kp hk)).trans (h.1.1 r j hk), ?_⟩, ?_, ?_, ?_, ?_, h.2.2.2.2.2⟩
  · rw [q.row rfl]; exact h.1.2
  · rw [q.row rfl]; exact h.2.1
  · rw [q.row rfl]; exact h.2.2.1
  · intro l a b
    rw [vec_row (q.row (r := 20) rfl), vec_row (q.row (r := 21) rfl), q.row (r := 22) rfl]
    exact h.2.2.2.1 l a b
  · rw [q.row rfl]; exact h.2.2.2.2.1
section
variable {D : wD} {S : wS} {x : Nat} {A : Nat → Nat} {m m0 : xM} {F R : Int} {post : Int32 → wS → Prop} {GP : (Int → Int) → Prop} {v0 : Int → Int}
theorem q_sW_169 (h : XC D S x A) (hG : GPc F R GP) (hB : XB m F R) {d : Int} (hd : m 50 27 = d) (hdr : 0 ≤ d ∧ d ≤ 4) {v : Int → Int} (hP : GP v) (hlv : lv m 0 = v) (hL : Ls m (movesL F R v)) {i : Int} (hi : 0 ≤ i ∧ i < (movesL F R v).length)
    (k : ∀ m', (∀ r j, (r == 3 || r == 4 || r == 5 || r == 6 || r == 7 || r == 17 || r == 18) = false → (r == 20 || r == 21) = false → ¬ (r = 22 ∧ j = d) → ¬ (r = 50 ∧ j = 28) → m' r j = m r j) → m' 22 d = m 22 d + 1 → m' 50 28 = 0 →
      (∀ l, vec m' 20 (67 * l) = if l = d then mkT F R v ((movesL F R v).getD i.toNat (0, 0, 0)) else vec m 20 (67 * l)) → (∀ l, vec m' 21 (67 * l) = if l = d then v else vec m 21 (67 * l)) → post (iI 1) (xS S x A m')) :
    wp_X12_standsWord_169 D post (xS S x A m) x (iI i) := by
  have g := hG v hP
  have hLn := g.2.2.1.2
  have id : vp_in (iI d) 10 := iI_in (by omega) (by omega) (by omega)
  unfold wp_X12_standsWord_169
  simp (discharger := first | decide | omega) only [x_own h, x_kd h, x_r h, x_m h, x_l h, x_k h, x_n h, x_i0, x_i h, x_u0 h, x_u h, xLen, xKd, nlit, iI_lit, iI_add, iI_sub, iI_mul, iI_neg, bI_z, bI_o, i10, i01, eq_self, bI_nar, nar_0, nar_1, up_at, up_f, Option.some.injEq, exists_eq_left', true_and, and_true, forall_eq, not_true_eq_false, not_false_eq_true, forall_const, false_implies, true_implies, Classical.not_not, if_true, if_false, Int.reduceEq, Int.reduceLT, Int.reduceLE, Int.reduceGT, Int.reduceGE, Int.reduceAdd, Int.reduceSub, Int.reduceMul, Int.reduceNeg, Int.reduceNe]
  rw [show m 50 27 = d from hd]
  try simp (discharger := omega) only [nlit, iI_lit, iI_add, iI_sub, iI_mul, iI_neg, bI_z, bI_o, i10, i01, eq_self, bI_nar, nar_0, nar_1, bI_t, bI_f, Option.some.injEq, exists_eq_left', true_and, and_true, forall_eq, not_true_eq_false, not_false_eq_true, forall_const, false_implies, true_implies, Classical.not_not, if_true, if_false, Int.reduceEq, Int.reduceLT, Int.reduceLE, Int.reduceGT, Int.reduceGE, Int.reduceAdd, Int.reduceSub, Int.reduceMul, Int.reduceNeg, Int.reduceNe, Bool.true_and, Bool.and_true, Bool.false_and, Bool.and_false, BEq.rfl, Bool.true_eq_false, Bool.false_eq_true]
  refine q_copies (f := 3) (g := 21) h (by decide) (by decide) (by omega) (by omega) (by omega) (by simp only [xLen]; omega) (by simp only [xLen]; omega) (fun e => by cases e) ?_
  generalize hm1 : cpy m 3 0 21 (67 * d) 67 = m1
  have e1 : ∀ r, (r == 21) = false → m1 r = m r := fun r e => by rw [← hm1]; exact cpy_r m e
  have hB1 : XB m1 F R := ⟨by rw [e1 50 rfl]; exact hB.1, by rw [e1 50 rfl]; exact hB.2.1, hB.2.2⟩
  have hlv1 : lv m1 0 = v := by rw [← hlv]; exact vec_row (e1 3 rfl) _
  have hL1 : Ls m1 (movesL F R v) := ⟨by rw [e1 7 rfl]; exact hL.1, fun k a b r hr => by rw [e1 r (by rcases hr with rfl | rfl | rfl <;> rfl)]; exact hL.2 k a b r hr⟩
  have hA1 : AtL 0 v (movesL F R v) m1 := ⟨hlv1, hL1.1, fun k a b r hr => by rw [Int.mul_zero, Int.zero_add]; exact hL1.2 k a b r hr⟩
  try simp (discharger := omega) only [nlit, iI_lit, iI_add, iI_sub, iI_mul, iI_neg, bI_z, bI_o, i10, i01, eq_self, bI_nar, nar_0, nar_1, bI_t, bI_f, Option.some.injEq, exists_eq_left', true_and, and_true, forall_eq, not_true_eq_false, not_false_eq_true, forall_const, false_implies, true_implies, Classical.not_not, if_true, if_false, Int.reduceEq, Int.reduceLT, Int.reduceLE, Int.reduceGT, Int.reduceGE, Int.reduceAdd, Int.reduceSub, Int.reduceMul, Int.reduceNeg, Int.reduceNe, Bool.true_and, Bool.and_true, Bool.false_and, Bool.and_false, BEq.rfl, Bool.true_eq_false, Bool.false_eq_true]
  refine q_mkL h hB1 (l := 0) (by decide) hA1 g.1 g.2.1 hLn hi (fun m2 t ht hmem s2 el hcl => ?_)
  rw [← ht] at k
  have e2 : ∀ r, (r == 3 || r == 4 || r == 5 || r == 6 || r == 7) = false → m2 r = m1 r := fun r e => by
    simp at e
    funext j
    exact s2 r j (by omega) (by omega) (by omega)
  have d2 : m2 50 27 = d := by rw [e2 50 rfl, e1 50 rfl]; exact hd
  simp (discharger := first | decide | omega) only [x_own h, x_kd h, x_r h, x_m h, x_l h, x_k h, x_n h, x_i0, x_i h, x_u0 h, x_u h, xLen, xKd, nlit, iI_lit, iI_add, iI_sub, iI_mul, iI_neg, bI_z, bI_o, i10, i01, eq_self, bI_nar, nar_0, nar_1, up_at, up_f, Option.some.injEq, exists_eq_left', true_and, and_true, forall_eq, not_true_eq_false, not_false_eq_true, forall_const, false_implies, true_implies, Classical.not_not, if_true, if_false, Int.reduceEq, Int.reduceLT, Int.reduceLE, Int.reduceGT, Int.reduceGE, Int.reduceAdd, Int.reduceSub, Int.reduceMul, Int.reduceNeg, Int.reduceNe]
  rw [show m2 50 27 = d from d2]
  try simp (discharger := omega) only [nlit, iI_lit, iI_add, iI_sub, iI_mul, iI_neg, bI_z, bI_o, i10, i01, eq_self, bI_nar, nar_0, nar_1, bI_t, bI_f, Option.some.injEq, exists_eq_left', true_and, and_true, forall_eq, not_true_eq_false, not_false_eq_true, forall_const, false_implies, true_implies, Classical.not_not, if_true, if_false, Int.reduceEq, Int.reduceLT, Int.reduceLE, Int.reduceGT, Int.reduceGE, Int.reduceAdd, Int.reduceSub, Int.reduceMul, Int.reduceNeg, Int.reduceNe, Bool.true_and, Bool.and_true, Bool.false_and, Bool.and_false, BEq.rfl, Bool.true_eq_false, Bool.false_eq_true]
  refine q_copies (f := 3) (g := 20) h (by decide) (by decide) (by omega) (by omega) (by omega) (by simp only [xLen]; omega) (by simp only [xLen]; omega) (fun e => by cases e) ?_
  generalize hm3 : cpy m2 3 67 20 (67 * d) 67 = m3
  have e3 : ∀ r, (r == 20) = false → m3 r = m2 r := fun r e => by rw [← hm3]; exact cpy_r m2 e
  have d3 : m3 50 27 = d := by rw [e3 50 rfl]; exact d2
  simp (discharger := first | decide | omega) only [x_own h, x_kd h, x_r h, x_m h, x_l h, x_k h, x_n h, x_i0, x_i h, x_u0 h, x_u h, xLen, xKd, nlit, iI_lit, iI_add, iI_sub, iI_mul, iI_neg, bI_z, bI_o, i10, i01, eq_self, bI_nar, nar_0, nar_1, up_at, up_f, Option.some.injEq, exists_eq_left', true_and, and_true, forall_eq, not_true_eq_false, not_false_eq_true, forall_const, false_implies, true_implies, Classical.not_not, if_true, if_false, Int.reduceEq, Int.reduceLT, Int.reduceLE, Int.reduceGT, Int.reduceGE, Int.reduceAdd, Int.reduceSub, Int.reduceMul, Int.reduceNeg, Int.reduceNe]
  rw [show m3 50 27 = d from d3]
  simp (discharger := first | decide | omega) only [x_own h, x_kd h, x_r h, x_m h, x_l h, x_k h, x_n h, x_i0, x_i h, x_u0 h, x_u h, xLen, xKd, nlit, iI_lit, iI_add, iI_sub, iI_mul, iI_neg, bI_z, bI_o, i10, i01, eq_self, bI_nar, nar_0, nar_1, up_at, up_f, Option.some.injEq, exists_eq_left', true_and, and_true, forall_eq, not_true_eq_false, not_false_eq_true, forall_const, false_implies, true_implies, Classical.not_not, if_true, if_false, Int.reduceEq, Int.reduceLT, Int.reduceLE, Int.reduceGT, Int.reduceGE, Int.reduceAdd, Int.reduceSub, Int.reduceMul, Int.reduceNeg, Int.reduceNe, eq_true id]
  have f0 : fits .boolean (.int (iI 0)) = true := by decide
  rw [eq_true f0]
  try simp (discharger := omega) only [nlit, iI_lit, iI_add, iI_sub, iI_mul, iI_neg, bI_z, bI_o, i10, i01, eq_self, bI_nar, nar_0, nar_1, bI_t, bI_f, Option.some.injEq, exists_eq_left', true_and, and_true, forall_eq, not_true_eq_false, not_false_eq_true, forall_const, false_implies, true_implies, Classical.not_not, if_true, if_false, Int.reduceEq, Int.reduceLT, Int.reduceLE, Int.reduceGT, Int.reduceGE, Int.reduceAdd, Int.reduceSub, Int.reduceMul, Int.reduceNeg, Int.reduceNe, Bool.true_and, Bool.and_true, Bool.false_and, Bool.and_false, BEq.rfl, Bool.true_eq_false, Bool.false_eq_true]
  have v20 : ∀ l, vec m3 20 (67 * l) = if l = d then mkT F R v t else vec m 20 (67 * l) := fun l => by
    by_cases c : l = d
    · rw [if_pos c, c, ← el]
      funext j
      unfold lv vec
      by_cases q : 0 ≤ j ∧ j < 67
      · rw [if_pos q, if_pos q, ← hm3, cpy_at _ (by omega) (by omega)]; congr 1; omega
      · rw [if_neg q, if_neg q]
    · rw [if_neg c]
      funext j
      unfold vec
      by_cases q : 0 ≤ j ∧ j < 67
      · rw [if_pos q, if_pos q, ← hm3, cpy_out _ (by omega), e2 20 rfl, e1 20 rfl]
      · rw [if_neg q, if_neg q]
  have v21 : ∀ l, vec m3 21 (67 * l) = if l = d then v else vec m 21 (67 * l) := fun l => by
    by_cases c : l = d
    · rw [if_pos c, c, ← hlv]
      funext j
      unfold lv vec
      by_cases q : 0 ≤ j ∧ j < 67
      · rw [if_pos q, if_pos q, e3 21 rfl, e2 21 rfl, ← hm1, cpy_at _ (by omega) (by omega)]; congr 1; omega
      · rw [if_neg q, if_neg q]
    · rw [if_neg c]
      funext j
      unfold vec
      by_cases q : 0 ≤ j ∧ j < 67
      · rw [if_pos q, if_pos q, e3 21 rfl, e2 21 rfl, ← hm1, cpy_out _ (by omega)]
      · rw [if_neg q, if_neg q]
  have e22 : m3 22 = m 22 := by rw [e3 22 rfl, e2 22 rfl, e1 22 rfl]
  refine k _ (fun r j a b c e => ?_) ?_ (up_at _ _ _ _) (fun l => ?_) (fun l => ?_)
  · simp at a b
    rw [up_ne _ (by omega), up_ne _ (by omega), e3 r (by simp; omega), e2 r (by simp; omega), e1 r (by simp; omega)]
  · rw [up_f _ _ _ _ rfl, up_at, e22]
  · rw [vec_row (up_r _ _ _ rfl), vec_row (up_r _ _ _ rfl)]; exact v20 l
  · rw [vec_row (up_r _ _ _ rfl), vec_row (up_r _ _ _ rfl)]; exact v21 l
end
