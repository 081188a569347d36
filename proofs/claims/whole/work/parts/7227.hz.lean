section
variable {F N kd n : Int} {E E' : Int → Int}
/-- ahead of round n -/
def IvE (F N kd n : Int) (E : Int → Int) : Prop := ∀ w b p, in3 N w b p →
  (((E (vlIx kd 0 w b p) = -2 ↔ ofEnd F kd 0 w b p = false) ∧ (E (vlIx kd 1 w b p) = -2 ↔ ofEnd F kd 1 w b p = false)) ∧ (-2 ≤ E (vlIx kd 0 w b p) ∧ E (vlIx kd 0 w b p) ≤ n - 1 ∨ (E (vlIx kd 0 w b p) = -1 ∨ E (vlIx kd 0 w b p) = -2)) ∧ (-2 ≤ E (vlIx kd 1 w b p) ∧ E (vlIx kd 1 w b p) ≤ n - 1 ∨ (E (vlIx kd 1 w b p) = -1 ∨ E (vlIx kd 1 w b p) = -2))) ∧
  ((0 ≤ E (vlIx kd 0 w b p) → E (vlIx kd 0 w b p) % 2 = 1) ∧ (0 ≤ E (vlIx kd 1 w b p) → E (vlIx kd 1 w b p) % 2 = 0)) ∧
  ((0 ≤ E (vlIx kd 0 w b p) → (∃ w' p', sWE F N kd w b p w' p' ∧ E (vlIx kd 1 w' b p') = E (vlIx kd 0 w b p) - 1) ∧ ∀ w' p', sWE F N kd w b p w' p' → 0 ≤ E (vlIx kd 1 w' b p') → E (vlIx kd 0 w b p) - 1 ≤ E (vlIx kd 1 w' b p')) ∧
   (E (vlIx kd 0 w b p) = -1 → ∀ w' p', sWE F N kd w b p w' p' → 0 ≤ E (vlIx kd 1 w' b p') → n - 1 ≤ E (vlIx kd 1 w' b p'))) ∧
  ((0 ≤ E (vlIx kd 1 w b p) → lstB F N kd w b p E = E (vlIx kd 1 w b p)) ∧ (E (vlIx kd 1 w b p) = -1 → lstB F N kd w b p E = -1 ∨ n ≤ lstB F N kd w b p E))
/-- what a round leaves, said at White's and at Black's positions -/
theorem IvE.rnd (hN : 0 ≤ N ∧ N ≤ 25) (hn : 0 ≤ n) (h : IvE F N kd n E) : IvE F N kd (n + 1) (fndE F N kd n E).1 := by
  obtain ⟨⟨r1, -⟩, r2⟩ := rnd_ok (F := F) (kd := kd) hN hn E
  generalize hE' : (fndE F N kd n E).1 = E' at r1 r2
  -- the side that the round doesn't speak of stays
  have oth : ∀ w b p, in3 N w b p → E' (vlIx kd (1 - itE n) w b p) = E (vlIx kd (1 - itE n) w b p) := by
    intro w b p hq
    rcases r1 (vlIx kd (1 - itE n) w b p) with z | ⟨-, -, w', b', p', hq', e, -⟩
    · exact z
    · have hit : itE n = 0 ∨ itE n = 1 := by unfold itE; split; exact .inr rfl; exact .inl rfl
      have := (vl_inj hN.2 hq hq' (by omega) hit e).1
      omega
  have own : ∀ w b p, in3 N w b p → (E' (vlIx kd (itE n) w b p) = E (vlIx kd (itE n) w b p) ∧ (E (vlIx kd (itE n) w b p) = -1 → ¬ cnE F N kd n E w b p)) ∨ (E' (vlIx kd (itE n) w b p) = n ∧ E (vlIx kd (itE n) w b p) = -1 ∧ cnE F N kd n E w b p) := by
    intro w b p hq
    have hit : itE n = 0 ∨ itE n = 1 := by unfold itE; split; exact .inr rfl; exact .inl rfl
    by_cases c : E (vlIx kd (itE n) w b p) = -1 ∧ cnE F N kd n E w b p
    · exact .inr ⟨r2 w b p hq c.1 c.2, c.1, c.2⟩
    · left
      refine ⟨?_, fun z y => c ⟨z, y⟩⟩
      rcases r1 (vlIx kd (itE n) w b p) with z | ⟨-, z, w', b', p', hq', e, y⟩
      · exact z
      · obtain ⟨-, e1, e2, e3⟩ := vl_inj hN.2 hq hq' hit hit e
        subst e1; subst e2; subst e3
        exact absurd ⟨z, y⟩ c
  by_cases par : n % 2 = 0
  · -- Black's round
    have i1 : itE n = 1 := if_pos par
    rw [i1] at oth own
    rw [show (1 : Int) - 1 = 0 from rfl] at oth
    have cn : ∀ w b p, cnE F N kd n E w b p ↔ lstB F N kd w b p E = n := by
      intro w b p
      unfold cnE
      rw [if_pos par, decide_eq_true_eq]
    intro w b p hq
    obtain ⟨⟨⟨l1, l2⟩, l3, l4⟩, ⟨p1, p2⟩, ⟨a1, a2⟩, b1, b2⟩ := h w b p hq
    replace a1 := fun _ : Unit => a1
    have eX := oth w b p hq
    have keep : 0 ≤ lstB F N kd w b p E → lstB F N kd w b p E' = lstB F N kd w b p E := fun z => lst_keep hN.1 hq.2.2 (fun t t0 t1 _ => oth w t p ⟨hq.1, ⟨t0, t1⟩, hq.2.2⟩) z
    have keep2 : lstB F N kd w b p E' = lstB F N kd w b p E := by
      by_cases z : 0 ≤ lstB F N kd w b p E
      · exact keep z
      · by_cases y : 0 ≤ lstB F N kd w b p E'
        · exact (lst_keep hN.1 hq.2.2 (fun t t0 t1 _ => (oth w t p ⟨hq.1, ⟨t0, t1⟩, hq.2.2⟩).symm) y).symm
        · have g1 := (lst_spec (F := F) (kd := kd) (E := E) (w := w) (b := b) hN.1 hq.2.2).1
          have g2 := (lst_spec (F := F) (kd := kd) (E := E') (w := w) (b := b) hN.1 hq.2.2).1
          omega
    rw [eX, keep2]
    have succ : ∀ w' p', sWE F N kd w b p w' p' → (E' (vlIx kd 1 w' b p') = E (vlIx kd 1 w' b p') ∨ (E' (vlIx kd 1 w' b p') = n ∧ E (vlIx kd 1 w' b p') = -1)) := by
      intro w' p' hs
      rcases own w' b p' (sW_in hq.2.1 hs) with z | z
      · exact .inl z.1
      · exact .inr ⟨z.1, z.2.1⟩
    refine ⟨⟨⟨l1, ?_⟩, by omega, ?_⟩, ⟨p1, ?_⟩, ⟨fun z => ⟨?_, fun w' p' hs y => ?_⟩, fun z w' p' hs y => ?_⟩, ?_⟩
    · rcases own w b p hq with z | ⟨z1, z2, -⟩
      · rw [z.1]; exact l2
      · rw [z1]
        constructor
        · intro y; omega
        · intro y; have := l2.mpr y; omega
    · rcases own w b p hq with z | ⟨z1, -, -⟩
      · rw [z.1]; omega
      · rw [z1]; omega
    · rcases own w b p hq with z | ⟨z1, -, -⟩
      · rw [z.1]; exact p2
      · rw [z1]; omega
    · obtain ⟨⟨w', p', hs, e⟩, -⟩ := a1 () z
      refine ⟨w', p', hs, ?_⟩
      have := p1 z
      rcases succ w' p' hs with y | y
      · rw [y]; exact e
      · omega
    · have g := (a1 () z).2 w' p' hs
      rcases succ w' p' hs with x | x
      · rw [x] at y ⊢; exact g y
      · omega
    · rcases succ w' p' hs with x | x
      · rw [x] at y ⊢
        have g1 := a2 z w' p' hs y
        have g2 := (h w' b p' (sW_in hq.2.1 hs)).2.1.2 y
        omega
      · omega
    · rcases own w b p hq with ⟨z1, z2⟩ | ⟨z1, z2, z3⟩
      · rw [z1]
        refine ⟨b1, fun y => ?_⟩
        have := b2 y
        have nz := z2 y
        rw [cn] at nz
        omega
      · rw [z1]
        refine ⟨fun _ => (cn w b p).mp z3, fun y => by omega⟩
  · -- White's round
    have i1 : itE n = 0 := if_neg par
    rw [i1] at oth own
    rw [show (1 : Int) - 0 = 1 from rfl] at oth
    have cn : ∀ w b p, in3 N w b p → (cnE F N kd n E w b p ↔ ∃ w' p', sWE F N kd w b p w' p' ∧ E (vlIx kd 1 w' b p') = n - 1) := by
      intro w b p hq
      unfold cnE
      rw [if_neg par, rch_iff hq.1 hq.2.2]
    intro w b p hq
    obtain ⟨⟨⟨l1, l2⟩, l3, l4⟩, ⟨p1, p2⟩, ⟨a1, a2⟩, b1, b2⟩ := h w b p hq
    replace a1 := fun _ : Unit => a1
    have eY := oth w b p hq
    have dec : ∀ t, 0 ≤ t → t < N → 0 ≤ E (vlIx kd 0 w t p) → E' (vlIx kd 0 w t p) = E (vlIx kd 0 w t p) := by
      intro t t0 t1 z
      rcases own w t p ⟨hq.1, ⟨t0, t1⟩, hq.2.2⟩ with y | ⟨-, y, -⟩
      · exact y.1
      · omega
    rw [eY]
    have eS : ∀ w' p', sWE F N kd w b p w' p' → E' (vlIx kd 1 w' b p') = E (vlIx kd 1 w' b p') := fun w' p' hs => oth w' b p' (sW_in hq.2.1 hs)
    refine ⟨⟨⟨?_, l2⟩, ?_, by omega⟩, ⟨?_, p2⟩, ⟨fun z => ?_, fun z w' p' hs y => ?_⟩, fun z => ?_, fun z => ?_⟩
    · rcases own w b p hq with z | ⟨z1, z2, -⟩
      · rw [z.1]; exact l1
      · rw [z1]
        constructor
        · intro y; omega
        · intro y; have := l1.mpr y; omega
    · rcases own w b p hq with z | ⟨z1, -, -⟩
      · rw [z.1]; omega
      · rw [z1]; omega
    · rcases own w b p hq with z | ⟨z1, -, -⟩
      · rw [z.1]; exact p1
      · rw [z1]; omega
    · rcases own w b p hq with ⟨y1, y2⟩ | ⟨y1, y2, y3⟩
      · rw [y1] at z ⊢
        obtain ⟨⟨w', p', hs, e⟩, g⟩ := a1 () z
        refine ⟨⟨w', p', hs, by rw [eS w' p' hs]; exact e⟩, fun w' p' hs y => ?_⟩
        rw [eS w' p' hs] at y ⊢
        exact g w' p' hs y
      · rw [y1]
        obtain ⟨w', p', hs, e⟩ := (cn w b p hq).mp y3
        refine ⟨⟨w', p', hs, by rw [eS w' p' hs]; exact e⟩, fun w' p' hs y => ?_⟩
        rw [eS w' p' hs] at y ⊢
        exact a2 y2 w' p' hs y
    · rw [eS w' p' hs] at y ⊢
      rcases own w b p hq with ⟨y1, y2⟩ | ⟨y1, y2, y3⟩
      · rw [y1] at z
        have g := a2 z w' p' hs y
        have nz := y2 z
        rw [cn w b p hq] at nz
        by_cases q : E (vlIx kd 1 w' b p') = n - 1
        · exact absurd ⟨w', p', hs, q⟩ nz
        · omega
      · omega
    · rw [lst_keep hN.1 hq.2.2 dec (by rw [b1 z]; exact z)]
      exact b1 z
    · by_cases q : 0 ≤ lstB F N kd w b p E
      · rw [lst_keep hN.1 hq.2.2 dec q]
        rcases b2 z with y | y
        · omega
        · right
          obtain ⟨-, s2, -⟩ := lst_spec (F := F) (kd := kd) (E := E) (w := w) (b := b) hN.1 hq.2.2
          replace s2 := fun _ : Unit => s2
          by_cases e : lstB F N kd w b p E = n
          · obtain ⟨t, ht, et⟩ := (s2 () q).2.2.2 (by omega)
            have := (h w t p ⟨hq.1, ht.1, hq.2.2⟩).2.1.1
            have := (s2 () q).2.1 t ht
            omega
          · omega
      · have m1 := (lst_spec (F := F) (kd := kd) (E := E) (w := w) (b := b) hN.1 hq.2.2)
        have m2 := (lst_spec (F := F) (kd := kd) (E := E') (w := w) (b := b) hN.1 hq.2.2)
        by_cases y : lstB F N kd w b p E' = -1
        · exact .inl y
        · right
          obtain ⟨c1, c2, c3, c4⟩ := m2.2.1 (by omega)
          rcases m1.2.2 (by omega) with x | ⟨t, x1, x2⟩ | ⟨x1, x2⟩
          · exact absurd x c1
          · have g := c2 t x1
            rcases own w t p ⟨hq.1, x1.1, hq.2.2⟩ with ⟨u1, -⟩ | ⟨u1, -, -⟩
            · omega
            · omega
          · by_cases e : lstB F N kd w b p E' = 0
            · have := c3 e; rw [x2] at this; exact nomatch this
            · obtain ⟨t, ht, -⟩ := c4 (by omega)
              exact absurd ht (x1 t)
end
