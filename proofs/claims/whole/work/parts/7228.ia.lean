section
variable {F N kd n : Int} {E E' : Int → Int}
theorem cl_ok (hN : 0 ≤ N ∧ N ≤ 25) (E : Int → Int) : (∀ i, clrE F N kd E i = cl0 kd 31250 E i ∨ (clrE F N kd E i = -1 ∧ ∃ its w b p, (its = 0 ∨ its = 1) ∧ in3 N w b p ∧ i = vlIx kd its w b p ∧ ofEnd F kd its w b p = true)) ∧
    ∀ its w b p, (its = 0 ∨ its = 1) → in3 N w b p → ofEnd F kd its w b p = true → clrE F N kd E (vlIx kd its w b p) = -1 := by
  have stp : ∀ (w b p : Int) (t : Int → Int), runL (clP F kd w b p) 0 2 t = clP F kd w b p 1 (clP F kd w b p 0 t) := fun w b p t => rfl
  have cJ : ∀ (w b p its : Int), (its = 0 ∨ its = 1) → in3 N w b p → ∀ t : Int → Int, (∀ i, t i = cl0 kd 31250 E i ∨ (t i = -1 ∧ ∃ its w b p, (its = 0 ∨ its = 1) ∧ in3 N w b p ∧ i = vlIx kd its w b p ∧ ofEnd F kd its w b p = true)) →
      ∀ i, clP F kd w b p its t i = cl0 kd 31250 E i ∨ (clP F kd w b p its t i = -1 ∧ ∃ its w b p, (its = 0 ∨ its = 1) ∧ in3 N w b p ∧ i = vlIx kd its w b p ∧ ofEnd F kd its w b p = true) := by
    intro w b p its hi hq t ht i
    unfold clP
    by_cases c : ofEnd F kd its w b p = true
    · rw [if_pos c]
      by_cases d : i = vlIx kd its w b p
      · right
        exact ⟨if_pos d, its, w, b, p, hi, hq, d, c⟩
      · rw [show upE t (vlIx kd its w b p) (-1) i = t i from if_neg d]
        exact ht i
    · rw [if_neg c]; exact ht i
  have cQ : ∀ (w b p its x : Int) (t : Int → Int), t x = -1 → clP F kd w b p its t x = -1 := by
    intro w b p its x t h
    unfold clP
    split
    · unfold upE; split; rfl; exact h
    · exact h
  have key := fun (its0 w0 b0 p0 : Int) (h0 : in3 N w0 b0 p0) => run3_hit (N := N) (fun t : Int → Int => ∀ i, t i = cl0 kd 31250 E i ∨ (t i = -1 ∧ ∃ its w b p, (its = 0 ∨ its = 1) ∧ in3 N w b p ∧ i = vlIx kd its w b p ∧ ofEnd F kd its w b p = true))
    (fun t => t (vlIx kd its0 w0 b0 p0) = -1) (fun w b p => runL (clP F kd w b p) 0 2)
    (fun w b p hw hb hp t ht => by
      rw [stp]
      exact cJ w b p 1 (.inr rfl) ⟨hw, hb, hp⟩ _ (cJ w b p 0 (.inl rfl) ⟨hw, hb, hp⟩ t ht))
    (fun w b p hw hb hp t ht hq => by
      rw [stp]
      exact cQ _ _ _ _ _ _ (cQ _ _ _ _ _ _ hq))
    (cl0 kd 31250 E) (fun i => .inl rfl)
  constructor
  · by_cases c : 0 < N
    · exact (key 0 0 0 0 ⟨⟨by omega, c⟩, ⟨by omega, c⟩, ⟨by omega, c⟩⟩).1
    · have e : N.toNat = 0 := by omega
      unfold clrE
      rw [e]
      exact fun i => .inl rfl
  · intro its w b p hi hq ho
    refine (key its w b p hq).2 w b p hq.1 hq.2.1 hq.2.2 fun t ht => ?_
    rw [stp]
    rcases hi with rfl | rfl
    · refine cQ _ _ _ _ _ _ ?_
      unfold clP
      rw [if_pos ho]
      exact if_pos rfl
    · unfold clP
      rw [if_pos ho]
      exact if_pos rfl
theorem vl_blk {its w b p : Int} (hN : N ≤ 25) (hi : its = 0 ∨ its = 1) (hq : in3 N w b p) : 31250 * (kd - 2) ≤ vlIx kd its w b p ∧ vlIx kd its w b p < 31250 * (kd - 2) + 31250 := by
  unfold vlIx
  obtain ⟨⟨a1, a2⟩, ⟨b1, b2⟩, c1, c2⟩ := hq
  rcases hi with rfl | rfl <;> omega
theorem cl_at (hN : 0 ≤ N ∧ N ≤ 25) (E : Int → Int) {its w b p : Int} (hi : its = 0 ∨ its = 1) (hq : in3 N w b p) : clrE F N kd E (vlIx kd its w b p) = if ofEnd F kd its w b p = true then -1 else -2 := by
  obtain ⟨a, b'⟩ := cl_ok (F := F) (kd := kd) hN E
  by_cases c : ofEnd F kd its w b p = true
  · rw [if_pos c]; exact b' its w b p hi hq c
  · rw [if_neg c]
    rcases a (vlIx kd its w b p) with h | ⟨-, its', w', b'', p', hi', hq', e, ho⟩
    · rw [h]
      exact if_pos (vl_blk hN.2 hi hq)
    · obtain ⟨e0, e1, e2, e3⟩ := vl_inj hN.2 hq hq' hi hi' e
      subst e0; subst e1; subst e2; subst e3
      exact absurd ho c
theorem IvE.zero (hN : 0 ≤ N ∧ N ≤ 25) (E : Int → Int) : IvE F N kd 0 (clrE F N kd E) := by
  intro w b p hq
  have e0 := cl_at (F := F) (kd := kd) hN E (.inl rfl) hq
  have e1 := cl_at (F := F) (kd := kd) hN E (.inr rfl) hq
  have neg : ∀ its w b p, (its = 0 ∨ its = 1) → in3 N w b p → ¬ 0 ≤ clrE F N kd E (vlIx kd its w b p) := by
    intro its w b p hi hq z
    rw [cl_at hN E hi hq] at z
    split at z <;> omega
  refine ⟨⟨⟨?_, ?_⟩, ?_, ?_⟩, ⟨fun z => absurd z (neg 0 w b p (.inl rfl) hq), fun z => absurd z (neg 1 w b p (.inr rfl) hq)⟩, ⟨fun z => absurd z (neg 0 w b p (.inl rfl) hq), fun _ w' p' hs z => absurd z (neg 1 w' b p' (.inr rfl) (sW_in hq.2.1 hs))⟩, fun z => absurd z (neg 1 w b p (.inr rfl) hq), fun _ => ?_⟩
  · rw [e0]; cases ofEnd F kd 0 w b p <;> simp
  · rw [e1]; cases ofEnd F kd 1 w b p <;> simp
  · rw [e0]; right; split
    · exact .inl rfl
    · exact .inr rfl
  · rw [e1]; right; split
    · exact .inl rfl
    · exact .inr rfl
  · have := (lst_spec (F := F) (kd := kd) (E := clrE F N kd E) (w := w) (b := b) hN.1 hq.2.2).1
    omega
/-- the round in which nothing is found -/
theorem IvE.fin (hN : 0 ≤ N ∧ N ≤ 25) (hn : 0 ≤ n) (h : IvE F N kd n E) (hf : (fndE F N kd n E).2 = false) : LQ F N kd (fun w b p => E (vlIx kd 0 w b p)) (fun w b p => E (vlIx kd 1 w b p)) := by
  obtain ⟨⟨-, r1⟩, r2⟩ := rnd_ok (F := F) (kd := kd) hN hn E
  have e := r1 hf
  rw [e] at r2
  have no : ∀ w b p, in3 N w b p → E (vlIx kd (itE n) w b p) = -1 → ¬ cnE F N kd n E w b p := fun w b p hq z y => by
    have := r2 w b p hq z y
    omega
  intro w b p hw hb hp
  have hq : in3 N w b p := ⟨hw, hb, hp⟩
  obtain ⟨⟨⟨l1, l2⟩, l3, l4⟩, ⟨p1, p2⟩, ⟨a1, a2⟩, b1, b2⟩ := h w b p hq
  obtain ⟨s1, s2, s3⟩ := lst_spec (F := F) (kd := kd) (E := E) (w := w) (b := b) hN.1 hp
  replace a1 := fun _ : Unit => a1
  replace s2 := fun _ : Unit => s2
  replace s3 := fun _ : Unit => s3
  refine ⟨⟨l1, l2, by dsimp only; omega, by dsimp only; omega⟩, ⟨fun z => ?_, fun z w' p' hs => ?_⟩, fun z => ?_, fun z => ?_⟩
  · obtain ⟨⟨w', p', hs, e⟩, g⟩ := a1 () z
    have := p1 z
    exact ⟨⟨w', p', hs, e, by dsimp only at z ⊢; omega⟩, g⟩
  · dsimp only at z ⊢
    by_cases y : 0 ≤ E (vlIx kd 1 w' b p')
    · exfalso
      have g1 := a2 z w' p' hs y
      obtain ⟨⟨-, -, g2⟩, ⟨-, g3⟩, -⟩ := h w' b p' (sW_in hb hs)
      have g3 := g3 y
      by_cases par : n % 2 = 0
      · omega
      · have nz := no w b p hq
        rw [show itE n = 0 from if_neg par] at nz
        refine nz z ?_
        unfold cnE
        rw [if_neg par, rch_iff hw hp]
        exact ⟨w', p', hs, by omega⟩
    · omega
  · dsimp only at z ⊢
    have e := b1 z
    have g := s2 () (by rw [e]; exact z)
    rw [e] at g
    exact g
  · dsimp only at z ⊢
    refine s3 () ?_
    rcases b2 z with y | y
    · exact y
    · exfalso
      have nz := no w b p hq
      by_cases par : n % 2 = 0
      · rw [show itE n = 1 from if_pos par] at nz
        by_cases e : lstB F N kd w b p E = n
        · refine nz z ?_
          unfold cnE
          rw [if_pos par, decide_eq_true_eq]
          exact e
        · obtain ⟨t, ht, et⟩ := (s2 () (by omega)).2.2.2 (by omega)
          have g := (h w t p ⟨hw, ht.1, hp⟩).1.2.1
          omega
      · obtain ⟨t, ht, et⟩ := (s2 () (by omega)).2.2.2 (by omega)
        have g := (h w t p ⟨hw, ht.1, hp⟩).1.2.1
        have g2 := (h w t p ⟨hw, ht.1, hp⟩).2.1.1
        have g3 := ((s2 () (by omega)).2.1 t ht).1
        omega
theorem slv_ok (hN : 0 ≤ N ∧ N ≤ 25) : ∀ (f : Nat) (n : Int) (t : (Int → Int) × Bool), 0 ≤ n → (∃ E0, IvE F N kd n E0 ∧ t = fndE F N kd n E0) → (t.2 = true → openN kd t.1 + 1 < f) → (t.2 = false → 0 < f) →
    LQ F N kd (fun w b p => slvE F N kd f n t (vlIx kd 0 w b p)) (fun w b p => slvE F N kd f n t (vlIx kd 1 w b p))
  | 0, n, t, hn, _, h1, h2 => by
    cases h : t.2
    · have := h2 h; omega
    · have := h1 h
      have := (openN_r kd t.1).1
      omega
  | f + 1, n, t, hn, ⟨E0, hI, et⟩, h1, h2 => by
    rw [show slvE F N kd (f + 1) n t = if t.2 then slvE F N kd f (n + 1) (fndE F N kd (n + 1) t.1) else t.1 from rfl]
    cases h : t.2
    · rw [if_neg (by simp)]
      have e := (rnd_ok (F := F) (kd := kd) hN hn E0).1.2 (by rw [← et]; exact h)
      rw [et, e]
      exact hI.fin hN hn (by rw [← et]; exact h)
    · rw [if_pos rfl]
      have g := h1 h
      have r := openN_r kd t.1
      refine slv_ok hN f (n + 1) _ (by omega) ⟨t.1, by rw [et]; exact hI.rnd hN hn, rfl⟩ (fun z => ?_) (fun z => by omega)
      have := openN_less (F := F) (N := N) (kd := kd) (n := n + 1) (by omega) hN t.1 z
      omega
/-- THE REFERENCE'S TABLE -/
theorem tab_LQ (hN : 0 ≤ N ∧ N ≤ 25) (E : Int → Int) : LQ F N kd (fun w b p => tabE F N kd E (vlIx kd 0 w b p)) (fun w b p => tabE F N kd E (vlIx kd 1 w b p)) := by
  unfold tabE
  refine slv_ok hN 31252 0 _ (by omega) ⟨_, IvE.zero hN E, rfl⟩ (fun _ => ?_) (fun _ => by omega)
  have := (openN_r kd (fndE F N kd 0 (clrE F N kd E)).1).2
  omega
/-- what else is in the table -/
theorem slv_out (hN : 0 ≤ N ∧ N ≤ 25) {i : Int} (hi : ∀ its w b p, (its = 0 ∨ its = 1) → in3 N w b p → i ≠ vlIx kd its w b p) : ∀ (f : Nat) (n : Int) (E0 : Int → Int), 0 ≤ n → slvE F N kd f n (fndE F N kd n E0) i = E0 i
  | 0, n, E0, hn => by
    show (fndE F N kd n E0).1 i = E0 i
    rcases (rnd_ok (F := F) (kd := kd) hN hn E0).1.1 i with z | ⟨-, -, w, b, p, hq, e, -⟩
    · exact z
    · exact absurd e (hi _ w b p (by unfold itE; split; exact .inr rfl; exact .inl rfl) hq)
  | f + 1, n, E0, hn => by
    have e0 : (fndE F N kd n E0).1 i = E0 i := by
      rcases (rnd_ok (F := F) (kd := kd) hN hn E0).1.1 i with z | ⟨-, -, w, b, p, hq, e, -⟩
      · exact z
      · exact absurd e (hi _ w b p (by unfold itE; split; exact .inr rfl; exact .inl rfl) hq)
    rw [show slvE F N kd (f + 1) n (fndE F N kd n E0) = if (fndE F N kd n E0).2 then slvE F N kd f (n + 1) (fndE F N kd (n + 1) (fndE F N kd n E0).1) else (fndE F N kd n E0).1 from rfl]
    split
    · rw [slv_out hN hi f (n + 1) _ (by omega)]; exact e0
    · exact e0
theorem tab_out (hN : 0 ≤ N ∧ N ≤ 25) (E : Int → Int) {i : Int} (hi : ∀ its w b p, (its = 0 ∨ its = 1) → in3 N w b p → i ≠ vlIx kd its w b p) : tabE F N kd E i = if 31250 * (kd - 2) ≤ i ∧ i < 31250 * (kd - 2) + 31250 then -2 else E i := by
  unfold tabE
  rw [slv_out hN hi _ _ _ (by omega)]
  rcases (cl_ok (F := F) (kd := kd) hN E).1 i with z | ⟨-, its, w, b, p, h1, hq, e, -⟩
  · exact z
  · exact absurd e (hi its w b p h1 hq)
end
