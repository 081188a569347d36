/-- cells of a row come to another place -/
def cpy (m : xM) (f : Nat) (a : Int) (g : Nat) (w n : Int) : xM := fun r j => if r = g ∧ w ≤ j ∧ j < w + n then m f (a + (j - w)) else m r j
theorem cpy_ne (m : xM) {f g r : Nat} {a w n j : Int} (h : (r == g) = false) : cpy m f a g w n r j = m r j := by
  unfold cpy; rw [if_neg]; rintro ⟨h1, -⟩; rw [h1] at h; simp at h
theorem cpy_r (m : xM) {f g r : Nat} {a w n : Int} (h : (r == g) = false) : cpy m f a g w n r = m r := funext fun j => cpy_ne m h
theorem cpy_at (m : xM) {f g : Nat} {a w n j : Int} (h1 : w ≤ j) (h2 : j < w + n) : cpy m f a g w n g j = m f (a + (j - w)) := by
  unfold cpy; rw [if_pos ⟨rfl, h1, h2⟩]
theorem cpy_out (m : xM) {f g : Nat} {a w n j : Int} (h : j < w ∨ w + n ≤ j) : cpy m f a g w n g j = m g j := by
  unfold cpy; rw [if_neg]; omega
theorem cpy_0 (m : xM) (f : Nat) (a : Int) (g : Nat) (w : Int) : cpy m f a g w 0 = m := by
  funext r j; unfold cpy; rw [if_neg]; omega
section
variable {D : wD} {S : wS} {x : Nat} {A : Nat → Nat} {m : xM} {F R : Int}
theorem cpy_S {f g : Nat} {a w k : Int} (hk : 0 ≤ k) (hfg : f = g → a + k < w ∨ w + k ≤ a) : up (cpy m f a g w k) g (w + k) (cpy m f a g w k f (a + k)) = cpy m f a g w (k + 1) := by
  have h1 : cpy m f a g w k f (a + k) = m f (a + k) := by
    unfold cpy; rw [if_neg]; rintro ⟨e, h2, h3⟩
    have := hfg e; omega
  rw [h1]
  funext r j
  unfold up
  by_cases c : r = g ∧ j = w + k
  · rw [if_pos c, c.1, c.2, cpy_at m (by omega) (by omega)]
    congr 1; omega
  · rw [if_neg c]
    unfold cpy
    by_cases c2 : r = g ∧ w ≤ j ∧ j < w + k
    · rw [if_pos c2, if_pos ⟨c2.1, c2.2.1, by omega⟩]
    · rw [if_neg c2, if_neg]; rintro ⟨e, h2, h3⟩
      by_cases z : j = w + k
      · exact c ⟨e, z⟩
      · exact c2 ⟨e, h2, by omega⟩
theorem q_copies_3 {post : wS → Prop} (h : XC D S x A) {f g : Nat} (hf : xIn f = true) (hg : xIn g = true) {many a w : Int} (ha : 0 ≤ a ∧ a < 1000000) (hw : 0 ≤ w ∧ w < 1000000) (hm : many < 1000000) (hfn : a + many ≤ xLen f) (hgn : w + many ≤ xLen g)
    (hfg : f = g → a + many ≤ w ∨ w + many ≤ a) (k : post (xS S x A (cpy m f a g w many))) :
    ∀ (n d : Nat) (j : Int), d < n → j + d = many → 0 ≤ j → wp_X12_copies_3 D post n (xS S x A (cpy m f a g w j)) (iI many) (A f) (iI a) (A g) (iI w) (iI j) := by
  intro n
  induction n with
  | zero => intro d j hd; omega
  | succ n ih =>
    intro d j hd hj h0
    unfold wp_X12_copies_3
    simp (discharger := omega) only [nlit, iI_lit, iI_add, iI_sub, iI_mul, iI_neg, bI_z, bI_o, i10, i01, eq_self, bI_nar, nar_0, nar_1, bI_t, bI_f, Option.some.injEq, exists_eq_left', true_and, and_true, forall_eq, not_true_eq_false, not_false_eq_true, forall_const, false_implies, true_implies, Classical.not_not, if_true, if_false, Int.reduceEq, Int.reduceLT, Int.reduceLE, Int.reduceGT, Int.reduceGE, Int.reduceAdd, Int.reduceSub, Int.reduceMul, Int.reduceNeg, Int.reduceNe, Bool.true_and, Bool.and_true, Bool.false_and, Bool.and_false, BEq.rfl, Bool.true_eq_false, Bool.false_eq_true, iI_le]
    cases d with
    | zero =>
      have e : many = j := by omega
      subst e
      simp (discharger := omega) only [nlit, iI_lit, iI_add, iI_sub, iI_mul, iI_neg, bI_z, bI_o, i10, i01, eq_self, bI_nar, nar_0, nar_1, bI_t, bI_f, Option.some.injEq, exists_eq_left', true_and, and_true, forall_eq, not_true_eq_false, not_false_eq_true, forall_const, false_implies, true_implies, Classical.not_not, if_true, if_false, Int.reduceEq, Int.reduceLT, Int.reduceLE, Int.reduceGT, Int.reduceGE, Int.reduceAdd, Int.reduceSub, Int.reduceMul, Int.reduceNeg, Int.reduceNe, Bool.true_and, Bool.and_true, Bool.false_and, Bool.and_false, BEq.rfl, Bool.true_eq_false, Bool.false_eq_true, Int.le_refl]
      exact k
    | succ d =>
      have e : ¬ many ≤ j := by omega
      simp (discharger := omega) only [nlit, iI_lit, iI_add, iI_sub, iI_mul, iI_neg, bI_z, bI_o, i10, i01, eq_self, bI_nar, nar_0, nar_1, bI_t, bI_f, Option.some.injEq, exists_eq_left', true_and, and_true, forall_eq, not_true_eq_false, not_false_eq_true, forall_const, false_implies, true_implies, Classical.not_not, if_true, if_false, Int.reduceEq, Int.reduceLT, Int.reduceLE, Int.reduceGT, Int.reduceGE, Int.reduceAdd, Int.reduceSub, Int.reduceMul, Int.reduceNeg, Int.reduceNe, Bool.true_and, Bool.and_true, Bool.false_and, Bool.and_false, BEq.rfl, Bool.true_eq_false, Bool.false_eq_true, e]
      rw [x_n h hf, x_n h hg]
      refine ⟨iI_in (by omega) (by omega) (by omega), (h.arr g hg).2.1, iI_in (by omega) (by omega) (by omega), ?_⟩
      rw [x_i h hf (by omega) (by omega), x_u h hg (by omega) (by omega), cpy_S h0 (fun e => by have := hfg e; omega)]
      exact ih d (j + 1) (by omega) (by omega) (by omega)
theorem q_copies {post : wS → Prop} (h : XC D S x A) {f g : Nat} (hf : xIn f = true) (hg : xIn g = true) {many a w : Int} (ha : 0 ≤ a ∧ a < 1000000) (hw : 0 ≤ w ∧ w < 1000000) (hm : 0 ≤ many ∧ many < 1000000) (hfn : a + many ≤ xLen f) (hgn : w + many ≤ xLen g)
    (hfg : f = g → a + many ≤ w ∨ w + many ≤ a) (k : post (xS S x A (cpy m f a g w many))) : wp_X12_copies D post (xS S x A m) (iI many) (A f) (iI a) (A g) (iI w) := by
  refine ⟨many.toNat + 1, ?_⟩
  have := q_copies_3 (m := m) h hf hg ha hw hm.2 hfn hgn hfg k (many.toNat + 1) many.toNat 0 (by omega) (by omega) (by omega)
  rw [cpy_0] at this
  exact this
end
