section
variable {F R kd : Int} {t : eT} {e : xM}
/-- the rows of the other endings are left alone -/
abbrev OutE (kd : Int) (e : xM) (t : eT) : Prop := ∀ x : Int, (x < (kd - 2) * 31250 ∨ (kd - 2) * 31250 + 31250 ≤ x) → t.1 0 x = e 0 x
theorem OutE.set (h : OutE kd e t) {i v : Int} (hi : 0 ≤ i ∧ i < 31250) (q : Int) : OutE kd e (setE kd i v t.1, q) := fun x hx => by
  show setE kd i v t.1 0 x = _
  unfold setE
  rw [up_ne _ (Or.inr (by omega))]
  exact h x hx
theorem OutE.low (h : OutE kd e t) {i v : Int} (q : Int) : OutE kd e (up t.1 2 i v, q) := fun x hx => by
  show up t.1 2 i v 0 x = _
  rw [up_ne _ (Or.inl (by decide))]
  exact h x hx
theorem OutE.win (h : OutE kd e t) {i v : Int} (hi : 0 ≤ i ∧ i < 31250) : OutE kd e (winE kd i v t) := fun x hx => by
  unfold winE
  split
  · show up (setE kd i v t.1) 1 t.2 i 0 x = _
    rw [up_ne _ (Or.inl (by decide))]
    exact (h.set (v := v) hi 0) x hx
  · exact h x hx
theorem OutE.reach (h : OutE kd e t) {i v : Int} (hi : 0 ≤ i ∧ i < 31250) : OutE kd e (reachE kd i v t) := by
  unfold reachE
  split
  · exact h.win hi
  · exact h
theorem OutE.lose (h : OutE kd e t) {i v : Int} (hi : 0 ≤ i ∧ i < 31250) : OutE kd e (loseE kd i v t) := by
  unfold loseE
  split
  · split
    · exact (h.low (i := i) (v := t.1 2 i - 1) t.2).win hi
    · exact h.low t.2
  · exact h
theorem eI_r {N its w b p : Int} (hN : N ≤ 25) (h : in3 N w b p) : 0 ≤ eIx its w b p ∧ eIx its w b p < 31250 := by
  have := eIx_r (its := its) (w := w) (b := b) (p := p) (by have := h.1; omega) (by have := h.2.1; omega) (by have := h.2.2; omega)
  omega
theorem OutE.back (h25 : F * R ≤ 25) (h : OutE kd e t) {its w b p v a : Int} (hq : in3 (F * R) w b p) (ha : 0 ≤ a ∧ a < F * R) : OutE kd e (backAt F R kd its w b p v a t) := by
  unfold backAt
  dsimp only
  have i1 := eI_r (its := 0) h25 (w := w) (b := a) (p := p) ⟨hq.1, ha, hq.2.2⟩
  have i2 := eI_r (its := 1) h25 (w := a) (b := b) (p := p) ⟨ha, hq.2.1, hq.2.2⟩
  have i3 := eI_r (its := 1) h25 (w := w) (b := b) (p := a) ⟨hq.1, hq.2.1, ha⟩
  have s1 : OutE kd e (if its ≠ 0 ∧ kgS F R b a = true then loseE kd (eIx 0 w a p) v t else t) := by
    split
    · exact h.lose i1
    · exact h
  generalize (if its ≠ 0 ∧ kgS F R b a = true then loseE kd (eIx 0 w a p) v t else t) = t1 at s1 ⊢
  have s2 : OutE kd e (if its = 0 ∧ kgS F R w a = true then reachE kd (eIx 1 a b p) v t1 else t1) := by
    split
    · exact s1.reach i2
    · exact s1
  generalize (if its = 0 ∧ kgS F R w a = true then reachE kd (eIx 1 a b p) v t1 else t1) = t2 at s2 ⊢
  split
  · exact s2.reach i3
  · exact s2
theorem OutE.work (bb : BFR F R) (h25 : F * R ≤ 25) (hk : 2 ≤ kd ∧ kd ≤ 5) : ∀ (f : Nat) (i : Int) (t : eT), 0 ≤ i → WQ F (F * R) kd i t → OutE kd e t → OutE kd e (workL F R kd f i t)
  | 0, i, t, i0, w, h => h
  | f + 1, i, t, i0, w, h => by
    rw [show workL F R kd (f + 1) i t = if t.2 ≤ i ∨ 31250 ≤ i then t else workL F R kd f (i + 1) (backE F R kd (t.1 1 i) t) from rfl]
    by_cases c : t.2 ≤ i ∨ 31250 ≤ i
    · rw [if_pos c]; exact h
    · rw [if_neg c]
      refine OutE.work bb h25 hk f (i + 1) _ (by omega) (w.step bb h25 hk ⟨i0, by omega⟩) ?_
      obtain ⟨-, -, e3⟩ := eI_of (w.1.2.1 i i0 (by omega)).1
      unfold backE
      exact runL_inv2 (OutE kd e) _ _ _ _ (fun j t j0 j1 ht => OutE.back h25 ht e3 ⟨j0, by omega⟩) h
theorem solve_out (bb : BFR F R) (h25 : F * R ≤ 25) (hk : 2 ≤ kd ∧ kd ≤ 5) (e : xM) : OutE kd e (solveE F R kd e) := by
  have o1 : OutE kd e (forE (F * R) (markE F R kd) (e, 0)) := by
    unfold forE
    refine (run3_hit (N := F * R) (OutE kd e) (fun _ => True) (markE F R kd) (fun w b p hw hb hp t ht => ?_) (fun _ _ _ _ _ _ _ _ _ => trivial) (e, 0) (fun x _ => rfl)).1
    unfold markE
    exact (ht.set (eI_r (its := 0) h25 ⟨hw, hb, hp⟩) 0).set (t := (setE kd (eIx 0 w b p) _ t.1, 0)) (eI_r (its := 1) h25 ⟨hw, hb, hp⟩) t.2
  have o2 : OutE kd e (forE (F * R) (countE F R kd) (forE (F * R) (markE F R kd) (e, 0))) := by
    generalize forE (F * R) (markE F R kd) (e, 0) = t1 at o1
    unfold forE
    refine (run3_hit (N := F * R) (OutE kd e) (fun _ => True) (countE F R kd) (fun w b p hw hb hp t ht => ?_) (fun _ _ _ _ _ _ _ _ _ => trivial) t1 o1).1
    unfold countE
    split
    · exact ht
    · split
      · exact (ht.low (i := eIx 0 w b p) (v := mvsE F R kd w b p t.1) t.2).win (eI_r (its := 0) h25 ⟨hw, hb, hp⟩)
      · exact ht.low t.2
  exact o2.work bb h25 hk 31251 0 _ (by omega) (counted bb h25 hk e)
/-- the values of another ending -/
theorem solve_val (bb : BFR F R) (h25 : F * R ≤ 25) (hk : 2 ≤ kd ∧ kd ≤ 5) (e : xM) {kd' i : Int} (hne : kd' ≠ kd) (hi : 0 ≤ i ∧ i < 31250) : valE kd' (solveE F R kd e).1 i = valE kd' e i := by
  unfold valE
  exact solve_out bb h25 hk e _ (by omega)
end
