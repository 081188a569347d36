def slvE (F N kd : Int) : Nat → Int → (Int → Int) × Bool → Int → Int
  | 0, _, t => t.1
  | f + 1, n, t => if t.2 then slvE F N kd f (n + 1) (fndE F N kd (n + 1) t.1) else t.1
/-- the table of a solved ending -/
def tabE (F N kd : Int) (E : Int → Int) : Int → Int := slvE F N kd 31252 0 (fndE F N kd 0 (clrE F N kd E))
def openN (kd : Int) (E : Int → Int) : Int := sumL (fun i => if E (31250 * (kd - 2) + i) = -1 then 1 else 0) 0 31250
def wonN (kd : Int) (E : Int → Int) : Int := sumL (fun i => if 0 ≤ E (31250 * (kd - 2) + i) then 1 else 0) 0 31250
def lngL (kd : Int) (E : Int → Int) (most i : Int) : Nat → Int
  | 0 => most
  | d + 1 => lngL kd E (if E (31250 * (kd - 2) + i) ≤ most then most else E (31250 * (kd - 2) + i)) (i + 1) d
theorem sum_le {f g : Int → Int} : ∀ (d : Nat) (k : Int), (∀ j, k ≤ j → j < k + d → f j ≤ g j) → sumL f k d ≤ sumL g k d := by
  intro d
  induction d with
  | zero => intro k _; simp [sumL]
  | succ d ih =>
    intro k h
    have h1 := ih (k + 1) (fun j a b => h j (by omega) (by omega))
    have h2 := h k (by omega) (by omega)
    show f k + sumL f (k + 1) d ≤ g k + sumL g (k + 1) d
    omega
theorem sum_lt {f g : Int → Int} {q : Int} (hq : f q + 1 ≤ g q) : ∀ (d : Nat) (k : Int), (∀ j, k ≤ j → j < k + d → f j ≤ g j) → k ≤ q → q < k + d → sumL f k d + 1 ≤ sumL g k d := by
  intro d
  induction d with
  | zero => intro k _ a b; omega
  | succ d ih =>
    intro k h a b
    show f k + sumL f (k + 1) d + 1 ≤ g k + sumL g (k + 1) d
    have h2 := h k (by omega) (by omega)
    by_cases c : k = q
    · have h1 := sum_le d (k + 1) (fun j a b => h j (by omega) (by omega))
      rw [c] at h1 h2 ⊢
      omega
    · have h1 := ih (k + 1) (fun j a b => h j (by omega) (by omega)) (by omega) (by omega)
      omega
/-- a round tells nothing twice -/
abbrev LessE (kd : Int) (E E' : Int → Int) : Prop := ∀ i, 31250 * (kd - 2) ≤ i → i < 31250 * (kd - 2) + 31250 → E' i = -1 → E i = -1
theorem openN_r (kd : Int) (E : Int → Int) : 0 ≤ openN kd E ∧ openN kd E ≤ 31250 := by
  have := sum_rr (f := fun i => if E (31250 * (kd - 2) + i) = -1 then 1 else 0) (c := 1) 31250 0 (fun j _ _ => by split <;> decide)
  unfold openN
  omega
theorem fnP_less {F N kd n its w b p : Int} (hn : 0 ≤ n) (hi : its = 0 ∨ its = 1) (hN : N ≤ 25) (hw : 0 ≤ w ∧ w < N) (hb : 0 ≤ b ∧ b < N) (hp : 0 ≤ p ∧ p < N) (E0 : Int → Int) (t : (Int → Int) × Bool) (h : LessE kd E0 t.1 ∧ (t.2 = true → ∃ i, 31250 * (kd - 2) ≤ i ∧ i < 31250 * (kd - 2) + 31250 ∧ E0 i = -1 ∧ t.1 i ≠ -1)) :
    LessE kd E0 (fnP F N kd n its w b p t).1 ∧ ((fnP F N kd n its w b p t).2 = true → ∃ i, 31250 * (kd - 2) ≤ i ∧ i < 31250 * (kd - 2) + 31250 ∧ E0 i = -1 ∧ (fnP F N kd n its w b p t).1 i ≠ -1) := by
  unfold fnP
  generalize (if its = 0 then rchB F N kd w b p (n - 1) t.1 else decide (lstB F N kd w b p t.1 = n)) = q
  have v : 31250 * (kd - 2) ≤ vlIx kd its w b p ∧ vlIx kd its w b p < 31250 * (kd - 2) + 31250 := by unfold vlIx; omega
  split
  · next c =>
    refine ⟨fun i a b e => ?_, fun _ => ⟨vlIx kd its w b p, v.1, v.2, h.1 _ v.1 v.2 c.1, ?_⟩⟩
    · unfold upE at e
      dsimp only at e
      split at e
      · omega
      · exact h.1 i a b e
    · unfold upE
      dsimp only
      rw [if_pos rfl]; omega
  · exact h
theorem runL_inv2 {T : Type} (P : T → Prop) (f : Int → T → T) : ∀ (d : Nat) (k : Int) (t : T), (∀ j t, k ≤ j → j < k + d → P t → P (f j t)) → P t → P (runL f k d t) := by
  intro d
  induction d with
  | zero => intro k t _ ht; exact ht
  | succ d ih => intro k t h ht; exact ih (k + 1) _ (fun j t a b => h j t (by omega) (by omega)) (h k t (by omega) (by omega) ht)
theorem fndE_less {F N kd n : Int} (hn : 0 ≤ n) (hN : 0 ≤ N ∧ N ≤ 25) (E : Int → Int) : LessE kd E (fndE F N kd n E).1 ∧ ((fndE F N kd n E).2 = true → ∃ i, 31250 * (kd - 2) ≤ i ∧ i < 31250 * (kd - 2) + 31250 ∧ E i = -1 ∧ (fndE F N kd n E).1 i ≠ -1) := by
  unfold fndE
  refine runL_inv2 (fun t : (Int → Int) × Bool => LessE kd E t.1 ∧ (t.2 = true → ∃ i, 31250 * (kd - 2) ≤ i ∧ i < 31250 * (kd - 2) + 31250 ∧ E i = -1 ∧ t.1 i ≠ -1)) _ _ _ _ (fun w t a b ht => ?_) ⟨fun i _ _ e => e, fun q => by cases q⟩
  refine runL_inv2 (fun t : (Int → Int) × Bool => LessE kd E t.1 ∧ (t.2 = true → ∃ i, 31250 * (kd - 2) ≤ i ∧ i < 31250 * (kd - 2) + 31250 ∧ E i = -1 ∧ t.1 i ≠ -1)) _ _ _ _ (fun b' t a' b'' ht => ?_) ht
  refine runL_inv2 (fun t : (Int → Int) × Bool => LessE kd E t.1 ∧ (t.2 = true → ∃ i, 31250 * (kd - 2) ≤ i ∧ i < 31250 * (kd - 2) + 31250 ∧ E i = -1 ∧ t.1 i ≠ -1)) _ _ _ _ (fun p t a3 b3 ht => ?_) ht
  exact fnP_less hn (by split <;> simp) hN.2 (by omega) (by omega) (by omega) E t ht
theorem openN_less {F N kd n : Int} (hn : 0 ≤ n) (hN : 0 ≤ N ∧ N ≤ 25) (E : Int → Int) (h : (fndE F N kd n E).2 = true) : openN kd (fndE F N kd n E).1 + 1 ≤ openN kd E := by
  obtain ⟨h1, h2⟩ := fndE_less (F := F) (kd := kd) hn hN E
  obtain ⟨i, a, b, c, d⟩ := h2 h
  refine sum_lt (q := i - 31250 * (kd - 2)) ?_ 31250 0 (fun j x y => ?_) (by omega) (by omega)
  · rw [show 31250 * (kd - 2) + (i - 31250 * (kd - 2)) = i by omega, if_neg d, if_pos c]; decide
  · by_cases z : (fndE F N kd n E).1 (31250 * (kd - 2) + j) = -1
    · rw [if_pos z, if_pos (h1 _ (by omega) (by omega) z)]; decide
    · rw [if_neg z]; split <;> decide
theorem EO.clr {F N kd : Int} {E : Int → Int} (h : EO E) : EO (clrE F N kd E) := by
  unfold clrE
  have h0 : EO (cl0 kd 31250 E) := fun i a b => by unfold cl0; split; decide; exact h i a b
  refine runL_inv (fun E : Int → Int => EO E) _ (fun w t ht => runL_inv (fun E : Int → Int => EO E) _ (fun b t ht => runL_inv (fun E : Int → Int => EO E) _ (fun p t ht => runL_inv (fun E : Int → Int => EO E) _ (fun its t ht => ?_) _ _ _ ht) _ _ _ ht) _ _ _ ht) _ _ _ h0
  unfold clP; split
  · exact ht.up (by decide)
  · exact ht
section
variable {D : wD} {S : wS} {x : Nat} {A : Nat → Nat} {m : xM} {F R : Int} {post : Int32 → wS → Prop}
theorem q_won_4 (h : XC D S x A) {kd : Int} (hkd : 2 ≤ kd ∧ kd ≤ 5) (hE : EN m) : ∀ (n d : Nat) (e j : Int), d < n → j + d = 31250 → 0 ≤ j → 0 ≤ e ∧ e ≤ j →
    post (iI (e + sumL (fun i => if 0 ≤ m 41 (31250 * (kd - 2) + i) then 1 else 0) j d)) (xS S x A m) → wp_X12_won_4 D post n (xS S x A m) x (iI kd) (iI e) (iI j) := by
  intro n
  induction n with
  | zero => intro d e j hd; omega
  | succ n ih =>
    intro d e j hd hj h0 he k
    unfold wp_X12_won_4
    simp (discharger := omega) only [nlit, iI_lit, iI_add, iI_sub, iI_mul, iI_neg, bI_z, bI_o, i10, i01, eq_self, bI_nar, nar_0, nar_1, bI_t, bI_f, Option.some.injEq, exists_eq_left', true_and, and_true, forall_eq, not_true_eq_false, not_false_eq_true, forall_const, false_implies, true_implies, Classical.not_not, if_true, if_false, Int.reduceEq, Int.reduceLT, Int.reduceLE, Int.reduceGT, Int.reduceGE, Int.reduceAdd, Int.reduceSub, Int.reduceMul, Int.reduceNeg, Int.reduceNe, Bool.true_and, Bool.and_true, Bool.false_and, Bool.and_false, BEq.rfl, Bool.true_eq_false, Bool.false_eq_true, iI_le]
    cases d with
    | zero =>
      have c : 31250 ≤ j := by omega
      simp only [iI_lit, bI_z, bI_o, i10, i01, eq_self, bI_nar, nar_0, nar_1, bI_t, bI_f, true_and, and_true, forall_eq, not_true_eq_false, not_false_eq_true, forall_const, false_implies, true_implies, Classical.not_not, if_true, if_false, Int.reduceEq, Int.reduceLT, Int.reduceLE, Int.reduceGT, Int.reduceGE, Int.reduceAdd, Int.reduceSub, Int.reduceMul, Int.reduceNeg, Int.reduceNe, Bool.true_and, Bool.and_true, Bool.false_and, Bool.and_false, Bool.true_or, Bool.or_true, Bool.false_or, Bool.or_false, BEq.rfl, decide_true, decide_false, decide_eq_true_eq, Bool.false_eq_true, Bool.true_eq_false, Bool.not_true, Bool.not_false, sumL, Int.add_zero, c] at k ⊢
      exact k
    | succ d =>
      have c : ¬ 31250 ≤ j := by omega
      have iv : vp_in (iI (31250 * (kd - 2) + j)) 125000 := iI_in (by omega) (by omega) (by omega)
      have Ev := hE (31250 * (kd - 2) + j) (by omega) (by omega)
      simp (discharger := omega) only [nlit, iI_lit, iI_add, iI_sub, iI_mul, iI_neg, bI_z, bI_o, i10, i01, eq_self, bI_nar, nar_0, nar_1, bI_t, bI_f, Option.some.injEq, exists_eq_left', true_and, and_true, forall_eq, not_true_eq_false, not_false_eq_true, forall_const, false_implies, true_implies, Classical.not_not, if_true, if_false, Int.reduceEq, Int.reduceLT, Int.reduceLE, Int.reduceGT, Int.reduceGE, Int.reduceAdd, Int.reduceSub, Int.reduceMul, Int.reduceNeg, Int.reduceNe, Bool.true_and, Bool.and_true, Bool.false_and, Bool.and_false, BEq.rfl, Bool.true_eq_false, Bool.false_eq_true, c]
      simp (discharger := first | decide | omega) only [x_own h, x_kd h, x_r h, x_m h, x_l h, x_k h, x_n h, x_i0, x_i h, x_u0 h, x_u h, xLen, xKd, nlit, iI_lit, iI_add, iI_sub, iI_mul, iI_neg, bI_z, bI_o, i10, i01, eq_self, bI_nar, nar_0, nar_1, up_at, up_f, Option.some.injEq, exists_eq_left', true_and, and_true, forall_eq, not_true_eq_false, not_false_eq_true, forall_const, false_implies, true_implies, Classical.not_not, if_true, if_false, Int.reduceEq, Int.reduceLT, Int.reduceLE, Int.reduceGT, Int.reduceGE, Int.reduceAdd, Int.reduceSub, Int.reduceMul, Int.reduceNeg, Int.reduceNe, eq_true iv]
      rw [iI_lt (by omega) (by omega) (by decide) (by decide)]
      unfold sumL at k
      by_cases z : m 41 (31250 * (kd - 2) + j) < 0
      · rw [if_neg (by omega), Int.zero_add] at k
        simp (discharger := omega) only [nlit, iI_lit, iI_add, iI_sub, iI_mul, iI_neg, bI_z, bI_o, i10, i01, eq_self, bI_nar, nar_0, nar_1, bI_t, bI_f, Option.some.injEq, exists_eq_left', true_and, and_true, forall_eq, not_true_eq_false, not_false_eq_true, forall_const, false_implies, true_implies, Classical.not_not, if_true, if_false, Int.reduceEq, Int.reduceLT, Int.reduceLE, Int.reduceGT, Int.reduceGE, Int.reduceAdd, Int.reduceSub, Int.reduceMul, Int.reduceNeg, Int.reduceNe, Bool.true_and, Bool.and_true, Bool.false_and, Bool.and_false, BEq.rfl, Bool.true_eq_false, Bool.false_eq_true, z, wp_X12_won_34]
        rw [Int.add_zero]
        exact ih d e (j + 1) (by omega) (by omega) (by omega) (by omega) k
      · rw [if_pos (by omega)] at k
        simp (discharger := omega) only [nlit, iI_lit, iI_add, iI_sub, iI_mul, iI_neg, bI_z, bI_o, i10, i01, eq_self, bI_nar, nar_0, nar_1, bI_t, bI_f, Option.some.injEq, exists_eq_left', true_and, and_true, forall_eq, not_true_eq_false, not_false_eq_true, forall_const, false_implies, true_implies, Classical.not_not, if_true, if_false, Int.reduceEq, Int.reduceLT, Int.reduceLE, Int.reduceGT, Int.reduceGE, Int.reduceAdd, Int.reduceSub, Int.reduceMul, Int.reduceNeg, Int.reduceNe, Bool.true_and, Bool.and_true, Bool.false_and, Bool.and_false, BEq.rfl, Bool.true_eq_false, Bool.false_eq_true, z, wp_X12_won_34]
        refine ih d (e + 1) (j + 1) (by omega) (by omega) (by omega) (by omega) ?_
        rw [Int.add_assoc]; exact k
theorem q_won (h : XC D S x A) {kd : Int} (hkd : 2 ≤ kd ∧ kd ≤ 5) (hE : EN m) (k : post (iI (wonN kd (m 41))) (xS S x A m)) : wp_X12_won D post (xS S x A m) x (iI kd) := by
  simp (discharger := omega) only [nlit, iI_lit, iI_add, iI_sub, iI_mul, iI_neg, bI_z, bI_o, i10, i01, eq_self, bI_nar, nar_0, nar_1, bI_t, bI_f, Option.some.injEq, exists_eq_left', true_and, and_true, forall_eq, not_true_eq_false, not_false_eq_true, forall_const, false_implies, true_implies, Classical.not_not, if_true, if_false, Int.reduceEq, Int.reduceLT, Int.reduceLE, Int.reduceGT, Int.reduceGE, Int.reduceAdd, Int.reduceSub, Int.reduceMul, Int.reduceNeg, Int.reduceNe, Bool.true_and, Bool.and_true, Bool.false_and, Bool.and_false, BEq.rfl, Bool.true_eq_false, Bool.false_eq_true, wp_X12_won, wp_X12_won_0]
  refine ⟨31251, q_won_4 h hkd hE 31251 31250 0 0 (by omega) (by decide) (by decide) (by decide) ?_⟩
  rw [Int.zero_add]; exact k
theorem q_slv_50 (h : XC D S x A) (hB : XB m F R) (h25 : F * R ≤ 25) {kd : Int} (hkd : 2 ≤ kd ∧ kd ≤ 5) : ∀ (f : Nat) (n : Int) (t : (Int → Int) × Bool), EO t.1 → (t.2 = true → openN kd t.1 + 1 < f) → (t.2 = false → 0 < f) → 0 ≤ n → n + f ≤ 31260 →
    (∀ E, E = slvE F (F * R) kd f n t → EO E → post (iI (wonN kd E)) (xS S x A (up (put41 m E) 42 kd 1))) → wp_X12_solve_50 D post f (xS S x A (put41 m t.1)) x (iI kd) (iI n) (iI (bI t.2)) := by
  have hn := hB.n
  intro f
  induction f with
  | zero =>
    intro n t _ hf hf2
    have := openN_r kd t.1
    cases z : t.2
    · have := hf2 z; omega
    · have := hf z; omega
  | succ f ih =>
    intro n t hE hf hf2 h0 hnf k
    unfold wp_X12_solve_50
    unfold slvE at k
    have op := openN_r kd t.1
    cases z : t.2
    · rw [z, if_neg (by decide)] at k
      have k := k _ rfl hE
      have ik : vp_in (iI kd) 6 := iI_in (by omega) (by omega) (by omega)
      have en : vp_nar .boolean (iI 1) = iI 1 := rfl
      try simp (discharger := omega) only [nlit, iI_lit, iI_add, iI_sub, iI_mul, iI_neg, bI_z, bI_o, i10, i01, eq_self, bI_nar, nar_0, nar_1, bI_t, bI_f, Option.some.injEq, exists_eq_left', true_and, and_true, forall_eq, not_true_eq_false, not_false_eq_true, forall_const, false_implies, true_implies, Classical.not_not, if_true, if_false, Int.reduceEq, Int.reduceLT, Int.reduceLE, Int.reduceGT, Int.reduceGE, Int.reduceAdd, Int.reduceSub, Int.reduceMul, Int.reduceNeg, Int.reduceNe, Bool.true_and, Bool.and_true, Bool.false_and, Bool.and_false, BEq.rfl, Bool.true_eq_false, Bool.false_eq_true]
      simp (discharger := first | decide | omega) only [x_own h, x_kd h, x_r h, x_m h, x_l h, x_k h, x_n h, x_i0, x_i h, x_u0 h, x_u h, xLen, xKd, nlit, iI_lit, iI_add, iI_sub, iI_mul, iI_neg, bI_z, bI_o, i10, i01, eq_self, bI_nar, nar_0, nar_1, up_at, up_f, Option.some.injEq, exists_eq_left', true_and, and_true, forall_eq, not_true_eq_false, not_false_eq_true, forall_const, false_implies, true_implies, Classical.not_not, if_true, if_false, Int.reduceEq, Int.reduceLT, Int.reduceLE, Int.reduceGT, Int.reduceGE, Int.reduceAdd, Int.reduceSub, Int.reduceMul, Int.reduceNeg, Int.reduceNe, eq_true ik, en]
      have hE2 : EN (up (put41 m t.1) 42 kd 1) := fun i a b => by rw [up_f _ _ _ _ rfl]; exact hE.en i a b
      refine q_won h hkd hE2 ?_
      rw [up_r _ _ _ (g := 41) rfl, put41_at]
      exact k
    · rw [z, if_pos rfl] at k
      simp (discharger := omega) only [nlit, iI_lit, iI_add, iI_sub, iI_mul, iI_neg, bI_z, bI_o, i10, i01, eq_self, bI_nar, nar_0, nar_1, bI_t, bI_f, Option.some.injEq, exists_eq_left', true_and, and_true, forall_eq, not_true_eq_false, not_false_eq_true, forall_const, false_implies, true_implies, Classical.not_not, if_true, if_false, Int.reduceEq, Int.reduceLT, Int.reduceLE, Int.reduceGT, Int.reduceGE, Int.reduceAdd, Int.reduceSub, Int.reduceMul, Int.reduceNeg, Int.reduceNe, Bool.true_and, Bool.and_true, Bool.false_and, Bool.and_false, BEq.rfl, Bool.true_eq_false, Bool.false_eq_true]
      refine q_finds h hB h25 hkd (by omega) t.1 hE (fun u hu hE' => ?_)
      rw [← hu] at k
      have ol := openN_less (F := F) (N := F * R) (kd := kd) (n := n + 1) (by omega) (by omega) t.1
      rw [← hu] at ol
      have hf := hf z
      have := ih (n + 1) u hE' (fun y => by have := ol y; omega) (fun _ => by omega) (by omega) (by omega) k
      exact this
theorem q_solve (h : XC D S x A) (hG : RG m F R) (hE : EO (m 41)) {kd : Int} (hi : i32 kd)
    (k0 : inB kd 2 5 = false → ∀ m', SIM m m' → m' 50 0 = 1 → post (iI 0) (xS S x A m'))
    (k1 : inB kd 2 5 = true → 25 < F * R → ∀ m', SIM m m' → m' 50 0 = 2 → post (iI 0) (xS S x A m'))
    (k2 : inB kd 2 5 = true → F * R ≤ 25 → EO (tabE F (F * R) kd (m 41)) → ∀ m', SIM (up (put41 m (tabE F (F * R) kd (m 41))) 42 kd 1) m' → m' 50 0 = 0 → post (iI (wonN kd (tabE F (F * R) kd (m 41)))) (xS S x A m')) : wp_X12_solve D post (xS S x A m) x (iI kd) := by
  have hn := hG.b.n
  unfold wp_X12_solve wp_X12_solve_0 wp_X12_isEndingKind wp_X12_isEndingKind_0
  try simp (discharger := omega) only [nlit, iI_lit, iI_add, iI_sub, iI_mul, iI_neg, bI_z, bI_o, i10, i01, eq_self, bI_nar, nar_0, nar_1, bI_t, bI_f, Option.some.injEq, exists_eq_left', true_and, and_true, forall_eq, not_true_eq_false, not_false_eq_true, forall_const, false_implies, true_implies, Classical.not_not, if_true, if_false, Int.reduceEq, Int.reduceLT, Int.reduceLE, Int.reduceGT, Int.reduceGE, Int.reduceAdd, Int.reduceSub, Int.reduceMul, Int.reduceNeg, Int.reduceNe, Bool.true_and, Bool.and_true, Bool.false_and, Bool.and_false, BEq.rfl, Bool.true_eq_false, Bool.false_eq_true]
  rw [q_in hi (by decide) (by decide)]
  try simp (discharger := omega) only [nlit, iI_lit, iI_add, iI_sub, iI_mul, iI_neg, bI_z, bI_o, i10, i01, eq_self, bI_nar, nar_0, nar_1, bI_t, bI_f, Option.some.injEq, exists_eq_left', true_and, and_true, forall_eq, not_true_eq_false, not_false_eq_true, forall_const, false_implies, true_implies, Classical.not_not, if_true, if_false, Int.reduceEq, Int.reduceLT, Int.reduceLE, Int.reduceGT, Int.reduceGE, Int.reduceAdd, Int.reduceSub, Int.reduceMul, Int.reduceNeg, Int.reduceNe, Bool.true_and, Bool.and_true, Bool.false_and, Bool.and_false, BEq.rfl, Bool.true_eq_false, Bool.false_eq_true]
  rw [q_can h]
  simp (discharger := omega) only [nlit, iI_lit, iI_add, iI_sub, iI_mul, iI_neg, bI_z, bI_o, i10, i01, eq_self, bI_nar, nar_0, nar_1, bI_t, bI_f, Option.some.injEq, exists_eq_left', true_and, and_true, forall_eq, not_true_eq_false, not_false_eq_true, forall_const, false_implies, true_implies, Classical.not_not, if_true, if_false, Int.reduceEq, Int.reduceLT, Int.reduceLE, Int.reduceGT, Int.reduceGE, Int.reduceAdd, Int.reduceSub, Int.reduceMul, Int.reduceNeg, Int.reduceNe, Bool.true_and, Bool.and_true, Bool.false_and, Bool.and_false, BEq.rfl, Bool.true_eq_false, Bool.false_eq_true, wp_X12_solve_34]
  cases c : inB kd 2 5
  · try simp (discharger := omega) only [nlit, iI_lit, iI_add, iI_sub, iI_mul, iI_neg, bI_z, bI_o, i10, i01, eq_self, bI_nar, nar_0, nar_1, bI_t, bI_f, Option.some.injEq, exists_eq_left', true_and, and_true, forall_eq, not_true_eq_false, not_false_eq_true, forall_const, false_implies, true_implies, Classical.not_not, if_true, if_false, Int.reduceEq, Int.reduceLT, Int.reduceLE, Int.reduceGT, Int.reduceGE, Int.reduceAdd, Int.reduceSub, Int.reduceMul, Int.reduceNeg, Int.reduceNe, Bool.true_and, Bool.and_true, Bool.false_and, Bool.and_false, BEq.rfl, Bool.true_eq_false, Bool.false_eq_true]
    exact k0 c _ (fun r j hk => up_ne _ (by by_cases e : r = 50 ∧ j = 0; rw [e.1, e.2] at hk; cases hk; omega)) (up_at _ _ _ _)
  · have k1 := k1 c
    have k2 := k2 c
    have hc := c
    unfold inB at hc
    simp at hc
    have hB0 : XB (up m 50 0 0) F R := (hG.up0 0).b
    rw [cn_true]
    try simp (discharger := omega) only [nlit, iI_lit, iI_add, iI_sub, iI_mul, iI_neg, bI_z, bI_o, i10, i01, eq_self, bI_nar, nar_0, nar_1, bI_t, bI_f, Option.some.injEq, exists_eq_left', true_and, and_true, forall_eq, not_true_eq_false, not_false_eq_true, forall_const, false_implies, true_implies, Classical.not_not, if_true, if_false, Int.reduceEq, Int.reduceLT, Int.reduceLE, Int.reduceGT, Int.reduceGE, Int.reduceAdd, Int.reduceSub, Int.reduceMul, Int.reduceNeg, Int.reduceNe, Bool.true_and, Bool.and_true, Bool.false_and, Bool.and_false, BEq.rfl, Bool.true_eq_false, Bool.false_eq_true]
    rw [q_squares hB0]
    simp (discharger := omega) only [nlit, iI_lit, iI_add, iI_sub, iI_mul, iI_neg, bI_z, bI_o, i10, i01, eq_self, bI_nar, nar_0, nar_1, bI_t, bI_f, Option.some.injEq, exists_eq_left', true_and, and_true, forall_eq, not_true_eq_false, not_false_eq_true, forall_const, false_implies, true_implies, Classical.not_not, if_true, if_false, Int.reduceEq, Int.reduceLT, Int.reduceLE, Int.reduceGT, Int.reduceGE, Int.reduceAdd, Int.reduceSub, Int.reduceMul, Int.reduceNeg, Int.reduceNe, Bool.true_and, Bool.and_true, Bool.false_and, Bool.and_false, BEq.rfl, Bool.true_eq_false, Bool.false_eq_true, iI_lt]
    have sm : ∀ z, SIM m (up (up m 50 0 0) 50 0 z) := fun z r j hk => by
      have e : ¬ (r = 50 ∧ j = 0) := fun e => by rw [e.1, e.2] at hk; cases hk
      rw [up_ne _ (by omega), up_ne _ (by omega)]
    by_cases c2 : 25 < F * R
    · simp (discharger := omega) only [nlit, iI_lit, iI_add, iI_sub, iI_mul, iI_neg, bI_z, bI_o, i10, i01, eq_self, bI_nar, nar_0, nar_1, bI_t, bI_f, Option.some.injEq, exists_eq_left', true_and, and_true, forall_eq, not_true_eq_false, not_false_eq_true, forall_const, false_implies, true_implies, Classical.not_not, if_true, if_false, Int.reduceEq, Int.reduceLT, Int.reduceLE, Int.reduceGT, Int.reduceGE, Int.reduceAdd, Int.reduceSub, Int.reduceMul, Int.reduceNeg, Int.reduceNe, Bool.true_and, Bool.and_true, Bool.false_and, Bool.and_false, BEq.rfl, Bool.true_eq_false, Bool.false_eq_true, c2, wp_X12_solve_27]
      rw [q_can0 h]
      simp (discharger := omega) only [nlit, iI_lit, iI_add, iI_sub, iI_mul, iI_neg, bI_z, bI_o, i10, i01, eq_self, bI_nar, nar_0, nar_1, bI_t, bI_f, Option.some.injEq, exists_eq_left', true_and, and_true, forall_eq, not_true_eq_false, not_false_eq_true, forall_const, false_implies, true_implies, Classical.not_not, if_true, if_false, Int.reduceEq, Int.reduceLT, Int.reduceLE, Int.reduceGT, Int.reduceGE, Int.reduceAdd, Int.reduceSub, Int.reduceMul, Int.reduceNeg, Int.reduceNe, Bool.true_and, Bool.and_true, Bool.false_and, Bool.and_false, BEq.rfl, Bool.true_eq_false, Bool.false_eq_true, wp_X12_solve_34]
      exact k1 c2 _ (sm 2) (up_at _ _ _ _)
    · simp (discharger := omega) only [nlit, iI_lit, iI_add, iI_sub, iI_mul, iI_neg, bI_z, bI_o, i10, i01, eq_self, bI_nar, nar_0, nar_1, bI_t, bI_f, Option.some.injEq, exists_eq_left', true_and, and_true, forall_eq, not_true_eq_false, not_false_eq_true, forall_const, false_implies, true_implies, Classical.not_not, if_true, if_false, Int.reduceEq, Int.reduceLT, Int.reduceLE, Int.reduceGT, Int.reduceGE, Int.reduceAdd, Int.reduceSub, Int.reduceMul, Int.reduceNeg, Int.reduceNe, Bool.true_and, Bool.and_true, Bool.false_and, Bool.and_false, BEq.rfl, Bool.true_eq_false, Bool.false_eq_true, c2, wp_X12_solve_27]
      rw [q_can1 h, up_up]
      try simp (discharger := omega) only [nlit, iI_lit, iI_add, iI_sub, iI_mul, iI_neg, bI_z, bI_o, i10, i01, eq_self, bI_nar, nar_0, nar_1, bI_t, bI_f, Option.some.injEq, exists_eq_left', true_and, and_true, forall_eq, not_true_eq_false, not_false_eq_true, forall_const, false_implies, true_implies, Classical.not_not, if_true, if_false, Int.reduceEq, Int.reduceLT, Int.reduceLE, Int.reduceGT, Int.reduceGE, Int.reduceAdd, Int.reduceSub, Int.reduceMul, Int.reduceNeg, Int.reduceNe, Bool.true_and, Bool.and_true, Bool.false_and, Bool.and_false, BEq.rfl, Bool.true_eq_false, Bool.false_eq_true]
      refine q_clears h hB0 (by omega) hc ?_
      rw [up_r m _ _ (g := 41) rfl]
      have hE1 : EO (clrE F (F * R) kd (m 41)) := EO.clr hE
      try simp (discharger := omega) only [nlit, iI_lit, iI_add, iI_sub, iI_mul, iI_neg, bI_z, bI_o, i10, i01, eq_self, bI_nar, nar_0, nar_1, bI_t, bI_f, Option.some.injEq, exists_eq_left', true_and, and_true, forall_eq, not_true_eq_false, not_false_eq_true, forall_const, false_implies, true_implies, Classical.not_not, if_true, if_false, Int.reduceEq, Int.reduceLT, Int.reduceLE, Int.reduceGT, Int.reduceGE, Int.reduceAdd, Int.reduceSub, Int.reduceMul, Int.reduceNeg, Int.reduceNe, Bool.true_and, Bool.and_true, Bool.false_and, Bool.and_false, BEq.rfl, Bool.true_eq_false, Bool.false_eq_true]
      refine q_finds h hB0 (by omega) hc (by decide) _ hE1 (fun u hu hE' => ?_)
      have op := openN_r kd u.1
      try simp (discharger := omega) only [nlit, iI_lit, iI_add, iI_sub, iI_mul, iI_neg, bI_z, bI_o, i10, i01, eq_self, bI_nar, nar_0, nar_1, bI_t, bI_f, Option.some.injEq, exists_eq_left', true_and, and_true, forall_eq, not_true_eq_false, not_false_eq_true, forall_const, false_implies, true_implies, Classical.not_not, if_true, if_false, Int.reduceEq, Int.reduceLT, Int.reduceLE, Int.reduceGT, Int.reduceGE, Int.reduceAdd, Int.reduceSub, Int.reduceMul, Int.reduceNeg, Int.reduceNe, Bool.true_and, Bool.and_true, Bool.false_and, Bool.and_false, BEq.rfl, Bool.true_eq_false, Bool.false_eq_true]
      refine ⟨31252, q_slv_50 h hB0 (by omega) hc 31252 0 u hE' (fun _ => by omega) (fun _ => by omega) (by decide) (by omega) (fun E e1 e2 => ?_)⟩
      have et : E = tabE F (F * R) kd (m 41) := by rw [e1, hu]; rfl
      rw [et] at e2 ⊢
      refine k2 (by omega) e2 _ (fun r j hk => ?_) ?_
      · have e : ¬ (r = 50 ∧ j = 0) := fun e => by rw [e.1, e.2] at hk; cases hk
        show (if r = 42 ∧ j = kd then (1 : Int) else if r = 41 then tabE F (F * R) kd (m 41) j else up m 50 0 0 r j) = (if r = 42 ∧ j = kd then (1 : Int) else if r = 41 then tabE F (F * R) kd (m 41) j else m r j)
        rw [up_ne m (by omega)]
      · rw [up_f _ _ _ _ rfl, put41_r _ _ rfl, up_at]
end
