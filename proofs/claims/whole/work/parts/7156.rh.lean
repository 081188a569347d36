/-! endings: the rounds -/
def runL {T : Type} (f : Int → T → T) (k : Int) : Nat → T → T
  | 0, t => t
  | d + 1, t => runL f (k + 1) d (f k t)
def upE (E : Int → Int) (i v : Int) : Int → Int := fun j => if j = i then v else E j
def put41 (m : xM) (E : Int → Int) : xM := fun r j => if r = 41 then E j else m r j
theorem put41_at (m : xM) (E : Int → Int) : put41 m E 41 = E := by funext j; unfold put41; rw [if_pos rfl]
theorem put41_r (m : xM) (E : Int → Int) {r : Nat} (h : (r == 41) = false) : put41 m E r = m r := by funext j; unfold put41; rw [if_neg (by simpa using h)]
theorem put41_up (m : xM) (E : Int → Int) (i v : Int) : up (put41 m E) 41 i v = put41 m (upE E i v) := by
  funext r j
  unfold up put41 upE
  by_cases c : r = 41
  · by_cases d : j = i
    · rw [if_pos ⟨c, d⟩, if_pos c, if_pos d]
    · rw [if_neg (by omega), if_pos c, if_pos c, if_neg d]
  · rw [if_neg (by omega), if_neg c, if_neg c]
theorem put41_self (m : xM) : put41 m (m 41) = m := by
  funext r j
  unfold put41
  split
  · next h => rw [h]
  · rfl
theorem put41_put (m : xM) (E E' : Int → Int) : put41 (put41 m E) E' = put41 m E' := by
  funext r j
  unfold put41
  split <;> rfl
def clP (F kd w b p its : Int) (E : Int → Int) : Int → Int := if ofEnd F kd its w b p then upE E (vlIx kd its w b p) (-1) else E
def cl0 (kd n : Int) (E : Int → Int) : Int → Int := fun i => if 31250 * (kd - 2) ≤ i ∧ i < 31250 * (kd - 2) + n then -2 else E i
def clrE (F N kd : Int) (E : Int → Int) : Int → Int :=
  runL (fun w => runL (fun b => runL (fun p => runL (clP F kd w b p) 0 2) 0 N.toNat) 0 N.toNat) 0 N.toNat (cl0 kd 31250 E)
def fnP (F N kd n its w b p : Int) (t : (Int → Int) × Bool) : (Int → Int) × Bool :=
  if t.1 (vlIx kd its w b p) = -1 ∧ (if its = 0 then rchB F N kd w b p (n - 1) t.1 else decide (lstB F N kd w b p t.1 = n)) = true then (upE t.1 (vlIx kd its w b p) n, true) else t
def fndE (F N kd n : Int) (E : Int → Int) : (Int → Int) × Bool :=
  runL (fun w => runL (fun b => runL (fun p => fnP F N kd n (if n % 2 = 0 then 1 else 0) w b p) 0 N.toNat) 0 N.toNat) 0 N.toNat (E, false)
abbrev EO (E : Int → Int) : Prop := ∀ i, 0 ≤ i → i < 125000 → -2 ≤ E i ∧ E i ≤ 40000
theorem EO.up {E : Int → Int} (h : EO E) {i v : Int} (hv : -2 ≤ v ∧ v ≤ 40000) : EO (upE E i v) := fun j a b => by unfold upE; split; exact hv; exact h j a b
theorem runL_inv {T : Type} (P : T → Prop) (f : Int → T → T) (h : ∀ k t, P t → P (f k t)) : ∀ (d : Nat) (k : Int) (t : T), P t → P (runL f k d t) := by
  intro d
  induction d with
  | zero => intro k t ht; exact ht
  | succ d ih => intro k t ht; exact ih (k + 1) _ (h k t ht)
theorem EO.fn {F N kd n its w b p : Int} {t : (Int → Int) × Bool} (h : EO t.1) (hn : -2 ≤ n ∧ n ≤ 40000) : EO (fnP F N kd n its w b p t).1 := by
  unfold fnP
  generalize (if its = 0 then rchB F N kd w b p (n - 1) t.1 else decide (lstB F N kd w b p t.1 = n)) = q
  split
  · exact h.up hn
  · exact h
theorem EO.fnd {F N kd n : Int} {E : Int → Int} (h : EO E) (hn : -2 ≤ n ∧ n ≤ 40000) : EO (fndE F N kd n E).1 :=
  runL_inv (fun t : (Int → Int) × Bool => EO t.1) _ (fun w t ht => runL_inv (fun t : (Int → Int) × Bool => EO t.1) _ (fun b t ht => runL_inv (fun t : (Int → Int) × Bool => EO t.1) _ (fun p t ht => EO.fn ht hn) _ _ _ ht) _ _ _ ht) _ _ _ h
section
variable {D : wD} {S : wS} {x : Nat} {A : Nat → Nat} {m : xM} {F R : Int}
theorem XB.p41 (h : XB m F R) (E : Int → Int) : XB (put41 m E) F R := ⟨by rw [put41_r _ _ rfl]; exact h.1, by rw [put41_r _ _ rfl]; exact h.2.1, h.2.2⟩
theorem q_cl_66 {post : wS → Prop} (h : XC D S x A) (hB : XB m F R) (h25 : F * R ≤ 25) {k33 : wS → Nat → Int32 → Int32 → Prop} {k43 : wS → Nat → Int32 → Int32 → Int32 → Prop} {k54 : wS → Nat → Int32 → Int32 → Int32 → Int32 → Prop} {kd w b p : Int} (hkd : 2 ≤ kd ∧ kd ≤ 5) (hw : 0 ≤ w ∧ w < F * R) (hb : 0 ≤ b ∧ b < F * R) (hp : 0 ≤ p ∧ p < F * R) :
    ∀ (n d : Nat) (i : Int) (E : Int → Int), d < n → i + d = 2 → 0 ≤ i → k54 (xS S x A (put41 m (runL (clP F kd w b p) i d E))) x (iI kd) (iI w) (iI b) (iI (p + 1)) →
    wp_X12_clears_66 D post k33 k43 k54 n (xS S x A (put41 m E)) x (iI kd) (iI w) (iI b) (iI p) (iI i) := by
  intro n
  induction n with
  | zero => intro d i E hd; omega
  | succ n ih =>
    intro d i E hd hj h0 k
    unfold wp_X12_clears_66
    simp (discharger := omega) only [nlit, iI_lit, iI_add, iI_sub, iI_mul, iI_neg, bI_z, bI_o, i10, i01, eq_self, bI_nar, nar_0, nar_1, bI_t, bI_f, Option.some.injEq, exists_eq_left', true_and, and_true, forall_eq, not_true_eq_false, not_false_eq_true, forall_const, false_implies, true_implies, Classical.not_not, if_true, if_false, Int.reduceEq, Int.reduceLT, Int.reduceLE, Int.reduceGT, Int.reduceGE, Int.reduceAdd, Int.reduceSub, Int.reduceMul, Int.reduceNeg, Int.reduceNe, Bool.true_and, Bool.and_true, Bool.false_and, Bool.and_false, BEq.rfl, Bool.true_eq_false, Bool.false_eq_true, iI_le]
    cases d with
    | zero =>
      have c : 2 ≤ i := by omega
      simp (discharger := omega) only [nlit, iI_lit, iI_add, iI_sub, iI_mul, iI_neg, bI_z, bI_o, i10, i01, eq_self, bI_nar, nar_0, nar_1, bI_t, bI_f, Option.some.injEq, exists_eq_left', true_and, and_true, forall_eq, not_true_eq_false, not_false_eq_true, forall_const, false_implies, true_implies, Classical.not_not, if_true, if_false, Int.reduceEq, Int.reduceLT, Int.reduceLE, Int.reduceGT, Int.reduceGE, Int.reduceAdd, Int.reduceSub, Int.reduceMul, Int.reduceNeg, Int.reduceNe, Bool.true_and, Bool.and_true, Bool.false_and, Bool.and_false, BEq.rfl, Bool.true_eq_false, Bool.false_eq_true, c]
      exact k
    | succ d =>
      have c : ¬ 2 ≤ i := by omega
      have v : 0 ≤ vlIx kd i w b p ∧ vlIx kd i w b p < 125000 := by unfold vlIx; omega
      have iv : vp_in (iI (vlIx kd i w b p)) 125000 := iI_in (by omega) (by omega) (by omega)
      simp (discharger := omega) only [nlit, iI_lit, iI_add, iI_sub, iI_mul, iI_neg, bI_z, bI_o, i10, i01, eq_self, bI_nar, nar_0, nar_1, bI_t, bI_f, Option.some.injEq, exists_eq_left', true_and, and_true, forall_eq, not_true_eq_false, not_false_eq_true, forall_const, false_implies, true_implies, Classical.not_not, if_true, if_false, Int.reduceEq, Int.reduceLT, Int.reduceLE, Int.reduceGT, Int.reduceGE, Int.reduceAdd, Int.reduceSub, Int.reduceMul, Int.reduceNeg, Int.reduceNe, Bool.true_and, Bool.and_true, Bool.false_and, Bool.and_false, BEq.rfl, Bool.true_eq_false, Bool.false_eq_true, c]
      refine q_isOfEnding h (hB.p41 E) hkd (by omega) (by omega) (by omega) (by omega) ?_
      unfold runL clP at k
      cases z : ofEnd F kd i w b p
      · rw [z, if_neg (by decide)] at k
        simp (discharger := omega) only [nlit, iI_lit, iI_add, iI_sub, iI_mul, iI_neg, bI_z, bI_o, i10, i01, eq_self, bI_nar, nar_0, nar_1, bI_t, bI_f, Option.some.injEq, exists_eq_left', true_and, and_true, forall_eq, not_true_eq_false, not_false_eq_true, forall_const, false_implies, true_implies, Classical.not_not, if_true, if_false, Int.reduceEq, Int.reduceLT, Int.reduceLE, Int.reduceGT, Int.reduceGE, Int.reduceAdd, Int.reduceSub, Int.reduceMul, Int.reduceNeg, Int.reduceNe, Bool.true_and, Bool.and_true, Bool.false_and, Bool.and_false, BEq.rfl, Bool.true_eq_false, Bool.false_eq_true, wp_X12_clears_102]
        exact ih d (i + 1) E (by omega) (by omega) (by omega) k
      · rw [z, if_pos rfl] at k
        try simp (discharger := omega) only [nlit, iI_lit, iI_add, iI_sub, iI_mul, iI_neg, bI_z, bI_o, i10, i01, eq_self, bI_nar, nar_0, nar_1, bI_t, bI_f, Option.some.injEq, exists_eq_left', true_and, and_true, forall_eq, not_true_eq_false, not_false_eq_true, forall_const, false_implies, true_implies, Classical.not_not, if_true, if_false, Int.reduceEq, Int.reduceLT, Int.reduceLE, Int.reduceGT, Int.reduceGE, Int.reduceAdd, Int.reduceSub, Int.reduceMul, Int.reduceNeg, Int.reduceNe, Bool.true_and, Bool.and_true, Bool.false_and, Bool.and_false, BEq.rfl, Bool.true_eq_false, Bool.false_eq_true]
        simp (discharger := first | decide | omega) only [x_own h, x_kd h, x_r h, x_m h, x_l h, x_k h, x_n h, x_i0, x_i h, x_u0 h, x_u h, xLen, xKd, nlit, iI_lit, iI_add, iI_sub, iI_mul, iI_neg, bI_z, bI_o, i10, i01, eq_self, bI_nar, nar_0, nar_1, up_at, up_f, Option.some.injEq, exists_eq_left', true_and, and_true, forall_eq, not_true_eq_false, not_false_eq_true, forall_const, false_implies, true_implies, Classical.not_not, if_true, if_false, Int.reduceEq, Int.reduceLT, Int.reduceLE, Int.reduceGT, Int.reduceGE, Int.reduceAdd, Int.reduceSub, Int.reduceMul, Int.reduceNeg, Int.reduceNe]
        rw [q_valueAt]
        simp (discharger := first | decide | omega) only [x_own h, x_kd h, x_r h, x_m h, x_l h, x_k h, x_n h, x_i0, x_i h, x_u0 h, x_u h, xLen, xKd, nlit, iI_lit, iI_add, iI_sub, iI_mul, iI_neg, bI_z, bI_o, i10, i01, eq_self, bI_nar, nar_0, nar_1, up_at, up_f, Option.some.injEq, exists_eq_left', true_and, and_true, forall_eq, not_true_eq_false, not_false_eq_true, forall_const, false_implies, true_implies, Classical.not_not, if_true, if_false, Int.reduceEq, Int.reduceLT, Int.reduceLE, Int.reduceGT, Int.reduceGE, Int.reduceAdd, Int.reduceSub, Int.reduceMul, Int.reduceNeg, Int.reduceNe, eq_true iv]
        rw [put41_up]
        simp (discharger := omega) only [nlit, iI_lit, iI_add, iI_sub, iI_mul, iI_neg, bI_z, bI_o, i10, i01, eq_self, bI_nar, nar_0, nar_1, bI_t, bI_f, Option.some.injEq, exists_eq_left', true_and, and_true, forall_eq, not_true_eq_false, not_false_eq_true, forall_const, false_implies, true_implies, Classical.not_not, if_true, if_false, Int.reduceEq, Int.reduceLT, Int.reduceLE, Int.reduceGT, Int.reduceGE, Int.reduceAdd, Int.reduceSub, Int.reduceMul, Int.reduceNeg, Int.reduceNe, Bool.true_and, Bool.and_true, Bool.false_and, Bool.and_false, BEq.rfl, Bool.true_eq_false, Bool.false_eq_true, wp_X12_clears_102]
        exact ih d (i + 1) _ (by omega) (by omega) (by omega) k
theorem q_cl_54 {post : wS → Prop} (h : XC D S x A) (hB : XB m F R) (h25 : F * R ≤ 25) {k33 : wS → Nat → Int32 → Int32 → Prop} {k43 : wS → Nat → Int32 → Int32 → Int32 → Prop} {kd w b : Int} (hkd : 2 ≤ kd ∧ kd ≤ 5) (hw : 0 ≤ w ∧ w < F * R) (hb : 0 ≤ b ∧ b < F * R) :
    ∀ (n d : Nat) (p : Int) (E : Int → Int), d < n → p + d = F * R → 0 ≤ p → k43 (xS S x A (put41 m (runL (fun p => runL (clP F kd w b p) 0 2) p d E))) x (iI kd) (iI w) (iI (b + 1)) →
    wp_X12_clears_54 D post k33 k43 n (xS S x A (put41 m E)) x (iI kd) (iI w) (iI b) (iI p) := by
  intro n
  induction n with
  | zero => intro d p E hd; omega
  | succ n ih =>
    intro d p E hd hj h0 k
    have hn := hB.n
    unfold wp_X12_clears_54
    rw [q_squares (hB.p41 E)]
    simp (discharger := omega) only [nlit, iI_lit, iI_add, iI_sub, iI_mul, iI_neg, bI_z, bI_o, i10, i01, eq_self, bI_nar, nar_0, nar_1, bI_t, bI_f, Option.some.injEq, exists_eq_left', true_and, and_true, forall_eq, not_true_eq_false, not_false_eq_true, forall_const, false_implies, true_implies, Classical.not_not, if_true, if_false, Int.reduceEq, Int.reduceLT, Int.reduceLE, Int.reduceGT, Int.reduceGE, Int.reduceAdd, Int.reduceSub, Int.reduceMul, Int.reduceNeg, Int.reduceNe, Bool.true_and, Bool.and_true, Bool.false_and, Bool.and_false, BEq.rfl, Bool.true_eq_false, Bool.false_eq_true, iI_le]
    cases d with
    | zero =>
      have c : F * R ≤ p := by omega
      simp (discharger := omega) only [nlit, iI_lit, iI_add, iI_sub, iI_mul, iI_neg, bI_z, bI_o, i10, i01, eq_self, bI_nar, nar_0, nar_1, bI_t, bI_f, Option.some.injEq, exists_eq_left', true_and, and_true, forall_eq, not_true_eq_false, not_false_eq_true, forall_const, false_implies, true_implies, Classical.not_not, if_true, if_false, Int.reduceEq, Int.reduceLT, Int.reduceLE, Int.reduceGT, Int.reduceGE, Int.reduceAdd, Int.reduceSub, Int.reduceMul, Int.reduceNeg, Int.reduceNe, Bool.true_and, Bool.and_true, Bool.false_and, Bool.and_false, BEq.rfl, Bool.true_eq_false, Bool.false_eq_true, c]
      exact k
    | succ d =>
      have c : ¬ F * R ≤ p := by omega
      simp (discharger := omega) only [nlit, iI_lit, iI_add, iI_sub, iI_mul, iI_neg, bI_z, bI_o, i10, i01, eq_self, bI_nar, nar_0, nar_1, bI_t, bI_f, Option.some.injEq, exists_eq_left', true_and, and_true, forall_eq, not_true_eq_false, not_false_eq_true, forall_const, false_implies, true_implies, Classical.not_not, if_true, if_false, Int.reduceEq, Int.reduceLT, Int.reduceLE, Int.reduceGT, Int.reduceGE, Int.reduceAdd, Int.reduceSub, Int.reduceMul, Int.reduceNeg, Int.reduceNe, Bool.true_and, Bool.and_true, Bool.false_and, Bool.and_false, BEq.rfl, Bool.true_eq_false, Bool.false_eq_true, c]
      exact ⟨3, q_cl_66 h hB h25 hkd hw hb ⟨h0, by omega⟩ 3 2 0 E (by decide) (by decide) (by decide) (ih d (p + 1) _ (by omega) (by omega) (by omega) k)⟩
theorem q_cl_43 {post : wS → Prop} (h : XC D S x A) (hB : XB m F R) (h25 : F * R ≤ 25) {k33 : wS → Nat → Int32 → Int32 → Prop} {kd w : Int} (hkd : 2 ≤ kd ∧ kd ≤ 5) (hw : 0 ≤ w ∧ w < F * R) :
    ∀ (n d : Nat) (b : Int) (E : Int → Int), d < n → b + d = F * R → 0 ≤ b → k33 (xS S x A (put41 m (runL (fun b => runL (fun p => runL (clP F kd w b p) 0 2) 0 (F * R).toNat) b d E))) x (iI kd) (iI (w + 1)) →
    wp_X12_clears_43 D post k33 n (xS S x A (put41 m E)) x (iI kd) (iI w) (iI b) := by
  intro n
  induction n with
  | zero => intro d b E hd; omega
  | succ n ih =>
    intro d b E hd hj h0 k
    have hn := hB.n
    unfold wp_X12_clears_43
    rw [q_squares (hB.p41 E)]
    simp (discharger := omega) only [nlit, iI_lit, iI_add, iI_sub, iI_mul, iI_neg, bI_z, bI_o, i10, i01, eq_self, bI_nar, nar_0, nar_1, bI_t, bI_f, Option.some.injEq, exists_eq_left', true_and, and_true, forall_eq, not_true_eq_false, not_false_eq_true, forall_const, false_implies, true_implies, Classical.not_not, if_true, if_false, Int.reduceEq, Int.reduceLT, Int.reduceLE, Int.reduceGT, Int.reduceGE, Int.reduceAdd, Int.reduceSub, Int.reduceMul, Int.reduceNeg, Int.reduceNe, Bool.true_and, Bool.and_true, Bool.false_and, Bool.and_false, BEq.rfl, Bool.true_eq_false, Bool.false_eq_true, iI_le]
    cases d with
    | zero =>
      have c : F * R ≤ b := by omega
      simp (discharger := omega) only [nlit, iI_lit, iI_add, iI_sub, iI_mul, iI_neg, bI_z, bI_o, i10, i01, eq_self, bI_nar, nar_0, nar_1, bI_t, bI_f, Option.some.injEq, exists_eq_left', true_and, and_true, forall_eq, not_true_eq_false, not_false_eq_true, forall_const, false_implies, true_implies, Classical.not_not, if_true, if_false, Int.reduceEq, Int.reduceLT, Int.reduceLE, Int.reduceGT, Int.reduceGE, Int.reduceAdd, Int.reduceSub, Int.reduceMul, Int.reduceNeg, Int.reduceNe, Bool.true_and, Bool.and_true, Bool.false_and, Bool.and_false, BEq.rfl, Bool.true_eq_false, Bool.false_eq_true, c]
      exact k
    | succ d =>
      have c : ¬ F * R ≤ b := by omega
      simp (discharger := omega) only [nlit, iI_lit, iI_add, iI_sub, iI_mul, iI_neg, bI_z, bI_o, i10, i01, eq_self, bI_nar, nar_0, nar_1, bI_t, bI_f, Option.some.injEq, exists_eq_left', true_and, and_true, forall_eq, not_true_eq_false, not_false_eq_true, forall_const, false_implies, true_implies, Classical.not_not, if_true, if_false, Int.reduceEq, Int.reduceLT, Int.reduceLE, Int.reduceGT, Int.reduceGE, Int.reduceAdd, Int.reduceSub, Int.reduceMul, Int.reduceNeg, Int.reduceNe, Bool.true_and, Bool.and_true, Bool.false_and, Bool.and_false, BEq.rfl, Bool.true_eq_false, Bool.false_eq_true, c]
      exact ⟨66, q_cl_54 h hB h25 hkd hw ⟨h0, by omega⟩ 66 (F * R).toNat 0 E (by omega) (by omega) (by decide) (ih d (b + 1) _ (by omega) (by omega) (by omega) k)⟩
theorem q_cl_33 {post : wS → Prop} (h : XC D S x A) (hB : XB m F R) (h25 : F * R ≤ 25) {kd : Int} (hkd : 2 ≤ kd ∧ kd ≤ 5) :
    ∀ (n d : Nat) (w : Int) (E : Int → Int), d < n → w + d = F * R → 0 ≤ w → post (xS S x A (put41 m (runL (fun w => runL (fun b => runL (fun p => runL (clP F kd w b p) 0 2) 0 (F * R).toNat) 0 (F * R).toNat) w d E))) →
    wp_X12_clears_33 D post n (xS S x A (put41 m E)) x (iI kd) (iI w) := by
  intro n
  induction n with
  | zero => intro d w E hd; omega
  | succ n ih =>
    intro d w E hd hj h0 k
    have hn := hB.n
    unfold wp_X12_clears_33
    rw [q_squares (hB.p41 E)]
    simp (discharger := omega) only [nlit, iI_lit, iI_add, iI_sub, iI_mul, iI_neg, bI_z, bI_o, i10, i01, eq_self, bI_nar, nar_0, nar_1, bI_t, bI_f, Option.some.injEq, exists_eq_left', true_and, and_true, forall_eq, not_true_eq_false, not_false_eq_true, forall_const, false_implies, true_implies, Classical.not_not, if_true, if_false, Int.reduceEq, Int.reduceLT, Int.reduceLE, Int.reduceGT, Int.reduceGE, Int.reduceAdd, Int.reduceSub, Int.reduceMul, Int.reduceNeg, Int.reduceNe, Bool.true_and, Bool.and_true, Bool.false_and, Bool.and_false, BEq.rfl, Bool.true_eq_false, Bool.false_eq_true, iI_le]
    cases d with
    | zero =>
      have c : F * R ≤ w := by omega
      simp (discharger := omega) only [nlit, iI_lit, iI_add, iI_sub, iI_mul, iI_neg, bI_z, bI_o, i10, i01, eq_self, bI_nar, nar_0, nar_1, bI_t, bI_f, Option.some.injEq, exists_eq_left', true_and, and_true, forall_eq, not_true_eq_false, not_false_eq_true, forall_const, false_implies, true_implies, Classical.not_not, if_true, if_false, Int.reduceEq, Int.reduceLT, Int.reduceLE, Int.reduceGT, Int.reduceGE, Int.reduceAdd, Int.reduceSub, Int.reduceMul, Int.reduceNeg, Int.reduceNe, Bool.true_and, Bool.and_true, Bool.false_and, Bool.and_false, BEq.rfl, Bool.true_eq_false, Bool.false_eq_true, c]
      exact k
    | succ d =>
      have c : ¬ F * R ≤ w := by omega
      simp (discharger := omega) only [nlit, iI_lit, iI_add, iI_sub, iI_mul, iI_neg, bI_z, bI_o, i10, i01, eq_self, bI_nar, nar_0, nar_1, bI_t, bI_f, Option.some.injEq, exists_eq_left', true_and, and_true, forall_eq, not_true_eq_false, not_false_eq_true, forall_const, false_implies, true_implies, Classical.not_not, if_true, if_false, Int.reduceEq, Int.reduceLT, Int.reduceLE, Int.reduceGT, Int.reduceGE, Int.reduceAdd, Int.reduceSub, Int.reduceMul, Int.reduceNeg, Int.reduceNe, Bool.true_and, Bool.and_true, Bool.false_and, Bool.and_false, BEq.rfl, Bool.true_eq_false, Bool.false_eq_true, c]
      exact ⟨66, q_cl_43 h hB h25 hkd ⟨h0, by omega⟩ 66 (F * R).toNat 0 E (by omega) (by omega) (by decide) (ih d (w + 1) _ (by omega) (by omega) (by omega) k)⟩
theorem cl0_s (kd : Int) (E : Int → Int) {n : Int} (hn : 0 ≤ n) : upE (cl0 kd n E) (31250 * (kd - 2) + n) (-2) = cl0 kd (n + 1) E := by
  funext j
  unfold upE cl0
  by_cases c : j = 31250 * (kd - 2) + n
  · rw [if_pos c, if_pos (by omega)]
  · rw [if_neg c]
    by_cases d : 31250 * (kd - 2) ≤ j ∧ j < 31250 * (kd - 2) + n
    · rw [if_pos d, if_pos (by omega)]
    · rw [if_neg d, if_neg (by omega)]
theorem q_cl_2 {post : wS → Prop} (h : XC D S x A) (hB : XB m F R) (h25 : F * R ≤ 25) {kd : Int} (hkd : 2 ≤ kd ∧ kd ≤ 5) (E : Int → Int) (k : post (xS S x A (put41 m (clrE F (F * R) kd E)))) :
    ∀ (n d : Nat) (j : Int), d < n → j + d = 31250 → 0 ≤ j → wp_X12_clears_2 D post n (xS S x A (put41 m (cl0 kd j E))) x (iI kd) (iI j) := by
  have hn := hB.n
  intro n
  induction n with
  | zero => intro d j hd; omega
  | succ n ih =>
    intro d j hd hj h0
    unfold wp_X12_clears_2
    simp (discharger := omega) only [nlit, iI_lit, iI_add, iI_sub, iI_mul, iI_neg, bI_z, bI_o, i10, i01, eq_self, bI_nar, nar_0, nar_1, bI_t, bI_f, Option.some.injEq, exists_eq_left', true_and, and_true, forall_eq, not_true_eq_false, not_false_eq_true, forall_const, false_implies, true_implies, Classical.not_not, if_true, if_false, Int.reduceEq, Int.reduceLT, Int.reduceLE, Int.reduceGT, Int.reduceGE, Int.reduceAdd, Int.reduceSub, Int.reduceMul, Int.reduceNeg, Int.reduceNe, Bool.true_and, Bool.and_true, Bool.false_and, Bool.and_false, BEq.rfl, Bool.true_eq_false, Bool.false_eq_true, iI_le]
    cases d with
    | zero =>
      have c : 31250 ≤ j := by omega
      have ej : j = 31250 := by omega
      simp (discharger := omega) only [nlit, iI_lit, iI_add, iI_sub, iI_mul, iI_neg, bI_z, bI_o, i10, i01, eq_self, bI_nar, nar_0, nar_1, bI_t, bI_f, Option.some.injEq, exists_eq_left', true_and, and_true, forall_eq, not_true_eq_false, not_false_eq_true, forall_const, false_implies, true_implies, Classical.not_not, if_true, if_false, Int.reduceEq, Int.reduceLT, Int.reduceLE, Int.reduceGT, Int.reduceGE, Int.reduceAdd, Int.reduceSub, Int.reduceMul, Int.reduceNeg, Int.reduceNe, Bool.true_and, Bool.and_true, Bool.false_and, Bool.and_false, BEq.rfl, Bool.true_eq_false, Bool.false_eq_true, c]
      refine ⟨66, q_cl_33 h hB h25 hkd 66 (F * R).toNat 0 _ (by omega) (by omega) (by decide) ?_⟩
      rw [ej]; exact k
    | succ d =>
      have c : ¬ 31250 ≤ j := by omega
      have iv : vp_in (iI (31250 * (kd - 2) + j)) 125000 := iI_in (by omega) (by omega) (by omega)
      simp (discharger := omega) only [nlit, iI_lit, iI_add, iI_sub, iI_mul, iI_neg, bI_z, bI_o, i10, i01, eq_self, bI_nar, nar_0, nar_1, bI_t, bI_f, Option.some.injEq, exists_eq_left', true_and, and_true, forall_eq, not_true_eq_false, not_false_eq_true, forall_const, false_implies, true_implies, Classical.not_not, if_true, if_false, Int.reduceEq, Int.reduceLT, Int.reduceLE, Int.reduceGT, Int.reduceGE, Int.reduceAdd, Int.reduceSub, Int.reduceMul, Int.reduceNeg, Int.reduceNe, Bool.true_and, Bool.and_true, Bool.false_and, Bool.and_false, BEq.rfl, Bool.true_eq_false, Bool.false_eq_true, c]
      simp (discharger := first | decide | omega) only [x_own h, x_kd h, x_r h, x_m h, x_l h, x_k h, x_n h, x_i0, x_i h, x_u0 h, x_u h, xLen, xKd, nlit, iI_lit, iI_add, iI_sub, iI_mul, iI_neg, bI_z, bI_o, i10, i01, eq_self, bI_nar, nar_0, nar_1, up_at, up_f, Option.some.injEq, exists_eq_left', true_and, and_true, forall_eq, not_true_eq_false, not_false_eq_true, forall_const, false_implies, true_implies, Classical.not_not, if_true, if_false, Int.reduceEq, Int.reduceLT, Int.reduceLE, Int.reduceGT, Int.reduceGE, Int.reduceAdd, Int.reduceSub, Int.reduceMul, Int.reduceNeg, Int.reduceNe, eq_true iv]
      rw [put41_up, cl0_s _ _ h0]
      exact ih d (j + 1) (by omega) (by omega) (by omega)
theorem q_clears {post : wS → Prop} (h : XC D S x A) (hB : XB m F R) (h25 : F * R ≤ 25) {kd : Int} (hkd : 2 ≤ kd ∧ kd ≤ 5) (k : post (xS S x A (put41 m (clrE F (F * R) kd (m 41))))) : wp_X12_clears D post (xS S x A m) x (iI kd) := by
  simp (discharger := omega) only [nlit, iI_lit, iI_add, iI_sub, iI_mul, iI_neg, bI_z, bI_o, i10, i01, eq_self, bI_nar, nar_0, nar_1, bI_t, bI_f, Option.some.injEq, exists_eq_left', true_and, and_true, forall_eq, not_true_eq_false, not_false_eq_true, forall_const, false_implies, true_implies, Classical.not_not, if_true, if_false, Int.reduceEq, Int.reduceLT, Int.reduceLE, Int.reduceGT, Int.reduceGE, Int.reduceAdd, Int.reduceSub, Int.reduceMul, Int.reduceNeg, Int.reduceNe, Bool.true_and, Bool.and_true, Bool.false_and, Bool.and_false, BEq.rfl, Bool.true_eq_false, Bool.false_eq_true, wp_X12_clears, wp_X12_clears_0]
  have e : put41 m (cl0 kd 0 (m 41)) = m := by
    rw [show cl0 kd 0 (m 41) = m 41 from by funext j; unfold cl0; rw [if_neg (by omega)], put41_self]
  have := q_cl_2 (post := post) h hB h25 hkd (m 41) k 31251 31250 0 (by omega) (by decide) (by decide)
  rw [e] at this
  exact ⟨31251, this⟩
end
