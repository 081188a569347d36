/-- the marks of a game: which positions are fresh -/
abbrev FO (D : wD) (U : wS) (g y2 : Nat) (r n : Int) (fr : Int → Bool) : Prop := (sR U g 2 = some y2 ∧ wM D U y2 ∧ sK U y2 = 23 ∧ (sN U y2 : Int) = r + 1) ∧ (0 ≤ n ∧ n ≤ r ∧ r ≤ 80) ∧ sI U g 3 = iI n ∧ ∀ k : Int, 0 ≤ k → k ≤ n → sI U y2 (iI k).toNatClampNeg = iI (bI (fr k))
section
variable {D : wD} {U : wS} {a g y0 y1 y2 g' y0' y1' : Nat} {r n r' n' : Int} {w w' : Int → Int → Int} {mv mv' : Int → Mv} {v : Int → Int} {post : Int32 → wS → Prop} {fr : Int → Bool}
theorem q_isSameAt (hG : GO D U g y0 y1 r n w mv) (hG' : GO D U g' y0' y1' r' n' w' mv') {i i' : Int} (hi : 0 ≤ i ∧ i ≤ n) (hi' : 0 ≤ i' ∧ i' ≤ n') (k : post (iI (bI (sameB (w i) (w' i')))) U) : wp_X3_isSameAt D post U g (iI i) g' (iI i') := by
  have g6 := hG.2.2.2.2.1 i hi.1 hi.2
  have g7 := hG'.2.2.2.2.1 i' hi'.1 hi'.2
  have e := same_pl g6.2 g7.2
  have st : ∀ (j : Int) (f : Nat), 0 ≤ j → j < 5 → (gJ U y0 (i * 5 + j) ≠ gJ U y0' (i' * 5 + j) → sameB (w i) (w' i') = false) → (gJ U y0 (i * 5 + j) = gJ U y0' (i' * 5 + j) → wp_X3_isSameAt_3 D post f U g (iI i) g' (iI i') (iI (j + 1))) → wp_X3_isSameAt_3 D post (f + 1) U g (iI i) g' (iI i') (iI j) := by
    intro j f h0 h1 hf ht
    rw [wp_X3_isSameAt_3]
    rw [show (5 : Int32) = iI 5 from rfl, iI_le (by decide) (by decide) (by omega) (by omega)]
    refine ⟨fun q => absurd q (by omega), fun _ => ?_⟩
    refine q_planeAt hG hi (j := j) ⟨h0, h1⟩ ?_
    refine q_planeAt hG' hi' (j := j) ⟨h0, h1⟩ ?_
    simp only [lg_cmp_eq]
    refine ⟨fun q x7 e7 => ?_, fun q => ?_⟩
    · rw [e7, show (1 : Int32) = iI 1 from rfl, iI_add]
      exact ht q
    · rw [hf q] at k
      exact ⟨nr0, k⟩
  have ff : ∀ P : Prop, (sameB (w i) (w' i') = true → P) → ¬ P → sameB (w i) (w' i') = false := fun P h1 h2 => by
    cases z : sameB (w i) (w' i')
    · rfl
    · exact absurd (h1 z) h2
  have c0 : gJ U y0 (i * 5 + 0) = plW (w i) := by rw [Int.add_zero]; exact g6.1.1
  have c0' : gJ U y0' (i' * 5 + 0) = plW (w' i') := by rw [Int.add_zero]; exact g7.1.1
  refine ⟨6, st 0 5 (by decide) (by decide) (fun q => ff _ (fun z => ?_) q) fun q0 => st 1 4 (by decide) (by decide) (fun q => ff _ (fun z => ?_) q) fun q1 => st 2 3 (by decide) (by decide) (fun q => ff _ (fun z => ?_) q) fun q2 => st 3 2 (by decide) (by decide) (fun q => ff _ (fun z => ?_) q) fun q3 => st 4 1 (by decide) (by decide) (fun q => ff _ (fun z => ?_) q) fun q4 => ?_⟩
  · rw [c0, c0']; exact (e.mp z).1
  · rw [g6.1.2.1, g7.1.2.1]; exact (e.mp z).2.1
  · rw [g6.1.2.2.1, g7.1.2.2.1]; exact (e.mp z).2.2.1
  · rw [g6.1.2.2.2.1, g7.1.2.2.2.1]; exact (e.mp z).2.2.2.1
  · rw [g6.1.2.2.2.2, g7.1.2.2.2.2, (e.mp z).2.2.2.2]
  · rw [wp_X3_isSameAt_3]
    refine ⟨fun _ => ?_, fun q => absurd (by decide) q⟩
    rw [g6.1.2.2.2.2, g7.1.2.2.2.2, zI_inj (by have := restI_r g6.2; omega) (by have := restI_r g7.2; omega)] at q4
    rw [c0, c0'] at q0
    rw [e.mpr ⟨q0, g6.1.2.1.symm.trans (q1.trans g7.1.2.1), g6.1.2.2.1.symm.trans (q2.trans g7.1.2.2.1), g6.1.2.2.2.1.symm.trans (q3.trans g7.1.2.2.2.1), q4⟩] at k
    exact ⟨nr1, k⟩
theorem mcode_r {t : Mv} (h : mOK t) : 0 ≤ mcode t ∧ mcode t < 32768 := by unfold mcode; omega
theorem mcode_inj {t u : Mv} (ht : mOK t) (hu : mOK u) : mcode t = mcode u ↔ t = u := by
  obtain ⟨t1, t2, t3⟩ := t
  obtain ⟨u1, u2, u3⟩ := u
  dsimp only [mOK, mcode] at *
  constructor
  · intro h
    rw [show t1 = u1 by omega, show t2 = u2 by omega, show t3 = u3 by omega]
  · intro h
    injection h with a b; injection b with b c
    rw [a, b, c]
theorem q_isLike_25 (hG : GO D U g y0 y1 r n w mv) (hG' : GO D U g' y0' y1' r' n w' mv') : ∀ (f d : Nat) (j : Int), d < f → j + d = n → 0 ≤ j →
    post (iI (bI (allL (fun k => decide (mv k = mv' k)) j d))) U → wp_X3_isLike_25 D post f U g g' (iI j) := by
  have g4 := hG.2.2.1
  have g5 := hG.2.2.2.1
  intro f
  induction f with
  | zero => intro d j hd; omega
  | succ f ih =>
    intro d j hd hj h0 k
    unfold wp_X3_isLike_25
    rw [g5, iI_le (by omega) (by omega) (by omega) (by omega)]
    refine ⟨fun q => ?_, fun q => ?_⟩
    · rw [show d = 0 by omega] at k
      exact ⟨nr1, k⟩
    · obtain ⟨d', rfl⟩ : ∃ d', d = d' + 1 := ⟨d - 1, by omega⟩
      unfold allL at k
      refine q_moveAt hG (i := j) (by omega) ?_
      refine q_moveAt hG' (i := j) (by omega) ?_
      have m1 := (hG.2.2.2.2.2 j h0 (by omega)).2
      have m2 := (hG'.2.2.2.2.2 j h0 (by omega)).2
      have r1 := mcode_r m1; have r2 := mcode_r m2
      rw [iI_eq (by omega) (by omega) (by omega) (by omega), propext (mcode_inj m1 m2)]
      refine ⟨fun z x7 e7 => ?_, fun z => ?_⟩
      · rw [decide_eq_true z, Bool.true_and] at k
        rw [e7, show (1 : Int32) = iI 1 from rfl, iI_add]
        exact ih d' (j + 1) (by omega) (by omega) (by omega) k
      · rw [decide_eq_false z, Bool.false_and] at k
        exact ⟨nr0, k⟩
/-- the same first position and the same moves -/
def likeB (n n' : Int) (w w' : Int → Int → Int) (mv mv' : Int → Mv) : Bool := decide (n = n') && sameB (w 0) (w' 0) && allL (fun k => decide (mv k = mv' k)) 0 n.toNat
theorem q_isLikeG (hG : GO D U g y0 y1 r n w mv) (hG' : GO D U g' y0' y1' r' n' w' mv') (k : post (iI (bI (likeB n n' w w' mv mv'))) U) : wp_X3_isLike D post U g g' := by
  have g4 := hG.2.2.1; have g4' := hG'.2.2.1
  unfold wp_X3_isLike wp_X3_isLike_0 wp_X3_isLike_21
  rw [hG.2.2.2.1, hG'.2.2.2.1, iI_eq (by omega) (by omega) (by omega) (by omega)]
  unfold likeB at k
  refine ⟨fun q => ?_, fun q => ?_⟩
  · rw [decide_eq_false q] at k; exact ⟨nr0, k⟩
  · subst q
    rw [decide_eq_true rfl, Bool.true_and] at k
    refine q_isSameAt hG hG' (i := 0) (i' := 0) (by omega) (by omega) ?_
    rw [bI_0]
    refine ⟨fun z => ?_, fun z => ?_⟩
    · rw [show sameB (w 0) (w' 0) = true by simpa using z, Bool.true_and] at k
      exact ⟨82, q_isLike_25 hG hG' 82 n.toNat 0 (by omega) (by omega) (by decide) k⟩
    · rw [z] at k; exact ⟨nr0, k⟩
theorem q_isFreshAt (hF : FO D U g y2 r n fr) {i : Int} (hi : 0 ≤ i ∧ i ≤ n) (k : post (iI (bI (fr i))) U) : wp_X3_isFreshAt D post U g (iI i) := by
  obtain ⟨⟨g0, g1, g2, g3⟩, g4, g5, g6⟩ := id hF
  unfold wp_X3_isFreshAt wp_X3_isFreshAt_0 wp_X3_isFreshAt_26 wp_X3_isFreshAt_27
  rw [show (0 : Int32) = iI 0 from rfl]
  refine ⟨fun q => absurd ((iI_lt (by omega) (by omega) (by decide) (by decide)).mp q) (by omega), fun _ => ⟨y2, g0, g1, g2, ?_⟩⟩
  refine ⟨fun q => absurd ((iI_le (a := ((sN U y2 : Nat) : Int)) (by omega) (by omega) (by omega) (by omega)).mp q) (by omega), fun _ => ⟨y2, g0, g1, g2, iI_in (by omega) (by omega) (by omega), ?_⟩⟩
  rw [g6 i hi.1 hi.2, show (iI 0 : Int32) = 0 from rfl, bI_0]
  cases z : fr i
  · rw [z] at k; exact ⟨fun _ => ⟨nr0, k⟩, fun q => absurd rfl q⟩
  · rw [z] at k; exact ⟨fun q => absurd q (by decide), fun _ => ⟨nr1, k⟩⟩
theorem q_firstFresh_2 (hF : FO D U g y2 r n fr) : ∀ (f d : Nat) (j : Int), d < f → j + d = n + 1 → 0 ≤ j →
    post (iI (firstL fr j d)) U → wp_X3_firstFresh_2 D post f U g (iI j) := by
  obtain ⟨-, g4, g5, -⟩ := id hF
  intro f
  induction f with
  | zero => intro d j hd; omega
  | succ f ih =>
    intro d j hd hj h0 k
    unfold wp_X3_firstFresh_2
    rw [g5, iI_lt (by omega) (by omega) (by omega) (by omega)]
    refine ⟨fun q => ?_, fun q => ?_⟩
    · rw [show d = 0 by omega] at k
      exact k
    · obtain ⟨d', rfl⟩ : ∃ d', d = d' + 1 := ⟨d - 1, by omega⟩
      unfold firstL at k
      refine q_isFreshAt hF (i := j) (by omega) ?_
      rw [bI_0]
      refine ⟨fun z x5 e5 => ?_, fun z => ?_⟩
      · rw [e5, show (1 : Int32) = iI 1 from rfl, iI_add]
        rw [z] at k
        exact ih d' (j + 1) (by omega) (by omega) (by omega) k
      · rw [show fr j = true by simpa using z] at k
        exact k
theorem q_firstFresh (hF : FO D U g y2 r n fr) (k : post (iI (firstL fr 0 (n + 1).toNat)) U) : wp_X3_firstFresh D post U g := by
  have := hF.2.1
  exact ⟨82, q_firstFresh_2 hF 82 (n + 1).toNat 0 (by omega) (by omega) (by omega) k⟩
end
section
variable {D : wD} {S : wS} {o : Nat → Nat} {c : cM} {F R : Int} {p : Nat} {v : Int → Int}
/-- the present game -/
abbrev PG (c : cM) (n : Int) (w : Int → Int → Int) (mv : Int → Mv) : Prop := c.1 13 3 = n ∧ (0 ≤ n ∧ n ≤ 80) ∧ (∀ k : Int, 0 ≤ k → k ≤ n → RS c 14 k (w k) ∧ rgV (w k)) ∧ ∀ k : Int, 0 ≤ k → k < n → c.1 15 k = mcode (mv k) ∧ mOK (mv k)
theorem PG.go {n : Int} {w : Int → Int → Int} {mv : Int → Mv} (h : CC D S o) (hG : PG c n w mv) : GO D (cS S o c) (o 13) (o 14) (o 15) 80 n w mv := by
  obtain ⟨h0, h1, h2, h3⟩ := hG
  refine ⟨⟨c_r h rfl, (c_m h (by decide)).mpr trivial, c_k h (by decide), by rw [c_n h (by decide)]; rfl⟩, ⟨c_r h rfl, (c_m h (by decide)).mpr trivial, c_k h (by decide), by rw [c_n h (by decide)]; rfl⟩, ⟨h1.1, h1.2, by decide⟩, ?_, fun k k0 k1 => ⟨RS.sv h (by decide) ⟨k0, by omega⟩ (h2 k k0 k1).1, (h2 k k0 k1).2⟩, fun k k0 k1 => ⟨?_, (h3 k k0 k1).2⟩⟩
  · rw [c_i1 h (by decide) (show ((3 : Nat) : Int) = 3 from rfl), h0]
  · rw [c_i h (by decide) k0 (by omega), (h3 k k0 k1).1]
theorem q_begin {post : wS → Prop} (h : CC D S o) (hp : isP p) (hA : PAt c p v) (hv : rgV v) (k : post (cS S o (putS (cI c 13 3 0) 14 0 v))) : wp_X3_begin D post (cS S o c) (o 13) (o p) := by
  unfold wp_X3_begin wp_X3_begin_0
  intro S1 e1
  rw [show (0 : Int32) = iI 0 from rfl, c_u1 h (by decide) (show ((3 : Nat) : Int) = 3 from rfl)] at e1
  rw [e1]
  refine ⟨o 14, c_r h rfl, (c_m h (by decide)).mpr trivial, c_k h (by decide), ?_⟩
  have hA' : PAt (cI c 13 3 0) p v := by
    have : p ≠ 13 := fun e => by rw [e] at hp; exact absurd hp.2.1 (by decide)
    unfold PAt
    rw [cI_1, cI_2, up_ne _ (Or.inl this), up_ne _ (Or.inl this), up_ne _ (Or.inl this)]
    exact hA
  rw [show (0 : Int32) = iI 0 from rfl]
  exact q_save h hp (by decide) (by decide) hA' hv (by decide) (by decide) k
theorem PG.begin {v : Int → Int} (hv : rgV v) (mv : Int → Mv) : PG (putS (cI c 13 3 0) 14 0 v) 0 (fun _ => v) mv := by
  refine ⟨by rw [putS_i, cI_1, up_at], by decide, fun k k0 k1 => ?_, fun k k0 k1 => absurd k1 (by omega)⟩
  rw [show k = 0 by omega]
  exact ⟨putS_at _ _ _ _, hv⟩
theorem q_addMove {post : wS → Prop} {n : Int} {w : Int → Int → Int} {mv : Int → Mv} (h : CC D S o) (hG : PG c n w mv) (hn : n < 80) (hp : isP p) (hA : PAt c p v) (hv : rgV v) {t : Mv} (k : post (cS S o (putS (cI (cI c 15 n (mcode t)) 13 3 (n + 1)) 14 (n + 1) v))) : wp_X3_addMove D post (cS S o c) (o 13) (iI (mcode t)) (o p) := by
  obtain ⟨h0, h1, -⟩ := id hG
  unfold wp_X3_addMove wp_X3_addMove_0 wp_X3_addMove_51
  have e : sI (cS S o c) (o 13) 3 = iI n := by rw [c_i1 h (by decide) (show ((3 : Nat) : Int) = 3 from rfl), h0]
  rw [e, show (0 : Int32) = iI 0 from rfl]
  refine ⟨fun q => absurd ((iI_lt (by omega) (by omega) (by decide) (by decide)).mp q) (by omega), fun _ => ⟨o 15, c_r h rfl, (c_m h (by decide)).mpr trivial, c_k h (by decide), ?_⟩⟩
  rw [c_n h (by decide), show Int32.ofNat (cln 15) = iI 80 from rfl]
  refine ⟨fun q => absurd ((iI_le (by decide) (by decide) (by omega) (by omega)).mp q) (by omega), fun _ => ⟨o 15, c_r h rfl, (c_m h (by decide)).mpr trivial, c_k h (by decide), (c_l h (by decide)).mpr trivial, ?_, ?_⟩⟩
  · rw [c_n h (by decide)]; exact iI_in (by omega) (by omega) (by have : ((cln 15 : Nat) : Int) = 80 := rfl; omega)
  intro S6 e6
  rw [c_u h (by decide) (by omega) (by omega)] at e6
  rw [e6]
  intro S7 e7
  have e3 : sI (cS S o (cI c 15 n (mcode t))) (o 13) 3 = iI n := by rw [c_i1 h (by decide) (show ((3 : Nat) : Int) = 3 from rfl), cI_1, up_ne _ (Or.inl (by decide)), h0]
  rw [e3, show (1 : Int32) = iI 1 from rfl, iI_add, c_u1 h (by decide) (show ((3 : Nat) : Int) = 3 from rfl)] at e7
  rw [e7]
  refine ⟨o 14, c_r h rfl, (c_m h (by decide)).mpr trivial, c_k h (by decide), ?_⟩
  have e4 : sI (cS S o (cI (cI c 15 n (mcode t)) 13 3 (n + 1))) (o 13) 3 = iI (n + 1) := by rw [c_i1 h (by decide) (show ((3 : Nat) : Int) = 3 from rfl), cI_1, up_at]
  rw [e4]
  have hA' : PAt (cI (cI c 15 n (mcode t)) 13 3 (n + 1)) p v := by
    have n1 : p ≠ 13 := fun e => by rw [e] at hp; exact absurd hp.2.1 (by decide)
    have n2 : p ≠ 15 := fun e => by rw [e] at hp; exact absurd hp.2.1 (by decide)
    unfold PAt
    simp only [cI_1, cI_2]
    rw [up_ne _ (Or.inl n1), up_ne _ (Or.inl n1), up_ne _ (Or.inl n1), up_ne _ (Or.inl n2), up_ne _ (Or.inl n2), up_ne _ (Or.inl n2)]
    exact hA
  have : ((cln 14 : Nat) : Int) = 405 := rfl
  exact q_save h hp (by decide) (by decide) hA' hv (by omega) (by decide) k
theorem PG.add {n : Int} {w : Int → Int → Int} {mv : Int → Mv} (hG : PG c n w mv) (hn : n < 80) {v : Int → Int} (hv : rgV v) {t : Mv} (ht : mOK t) : PG (putS (cI (cI c 15 n (mcode t)) 13 3 (n + 1)) 14 (n + 1) v) (n + 1) (fun k => if k = n + 1 then v else w k) (fun k => if k = n then t else mv k) := by
  obtain ⟨h0, h1, h2, h3⟩ := hG
  refine ⟨by rw [putS_i, cI_1, up_at], by omega, fun k k0 k1 => ?_, fun k k0 k1 => ?_⟩
  · dsimp only
    by_cases z : k = n + 1
    · rw [if_pos z, z]; exact ⟨putS_at _ _ _ _, hv⟩
    · rw [if_neg z]
      have := h2 k k0 (by omega)
      exact ⟨RS.putS v this.1 z, this.2⟩
  · rw [putS_i, cI_1, up_ne _ (Or.inl (by decide)), cI_1]
    dsimp only
    by_cases z : k = n
    · rw [if_pos z, z, up_at]; exact ⟨rfl, ht⟩
    · rw [if_neg z, up_ne _ (Or.inr z)]; exact h3 k k0 (by omega)
end
