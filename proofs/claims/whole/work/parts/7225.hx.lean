section
variable {F N kd : Int} {E E' : Int → Int}
abbrev badE (F N kd w b p : Int) (E : Int → Int) (t : Int) : Prop := (t = p ∧ capE F w b p) ∨ (legE F N kd w b p t ∧ E (vlIx kd 0 w t p) < 0)
theorem lst_ok {w b p : Int} (hp : 0 ≤ p ∧ p < N) : ∀ (d : Nat) (t most : Int) (has : Bool), 0 ≤ t → t + d ≤ N →
    (lstL F kd w b p E most has t d = -1 ∧ ∃ j : Int, t ≤ j ∧ j < t + d ∧ badE F N kd w b p E j) ∨
    ((∀ j : Int, t ≤ j → j < t + d → ¬ badE F N kd w b p E j) ∧ ∃ (most' : Int) (has' : Bool), lstL F kd w b p E most has t d = (if has' then most' + 1 else if strkB F kd p b w then 0 else -1) ∧
      (∀ j : Int, t ≤ j → j < t + d → legE F N kd w b p j → E (vlIx kd 0 w j p) ≤ most') ∧ most ≤ most' ∧ (has' = true ↔ has = true ∨ ∃ j : Int, (t ≤ j ∧ j < t + d) ∧ legE F N kd w b p j) ∧ (most' = most ∨ ∃ j : Int, (t ≤ j ∧ j < t + d) ∧ legE F N kd w b p j ∧ E (vlIx kd 0 w j p) = most'))
  | 0, t, most, has, _, _ => by
    right
    refine ⟨fun j h1 h2 => by omega, most, has, rfl, fun j h1 h2 => by omega, Int.le_refl _, ⟨fun h => .inl h, fun h => ?_⟩, .inl rfl⟩
    rcases h with h | ⟨j, h, -⟩
    · exact h
    · omega
  | d + 1, t, most, has, h0, h1 => by
    have skip : ¬ badE F N kd w b p E t → ¬ legE F N kd w b p t → (lstL F kd w b p E most has t (d + 1) = lstL F kd w b p E most has (t + 1) d) →
      (lstL F kd w b p E most has t (d + 1) = -1 ∧ ∃ j : Int, t ≤ j ∧ j < t + ((d + 1 : Nat) : Int) ∧ badE F N kd w b p E j) ∨
    ((∀ j : Int, t ≤ j → j < t + ((d + 1 : Nat) : Int) → ¬ badE F N kd w b p E j) ∧ ∃ (most' : Int) (has' : Bool), lstL F kd w b p E most has t (d + 1) = (if has' then most' + 1 else if strkB F kd p b w then 0 else -1) ∧
      (∀ j : Int, t ≤ j → j < t + ((d + 1 : Nat) : Int) → legE F N kd w b p j → E (vlIx kd 0 w j p) ≤ most') ∧ most ≤ most' ∧ (has' = true ↔ has = true ∨ ∃ j : Int, (t ≤ j ∧ j < t + ((d + 1 : Nat) : Int)) ∧ legE F N kd w b p j) ∧ (most' = most ∨ ∃ j : Int, (t ≤ j ∧ j < t + ((d + 1 : Nat) : Int)) ∧ legE F N kd w b p j ∧ E (vlIx kd 0 w j p) = most')) := by
      intro nb nl e
      rw [e]
      rcases lst_ok hp d (t + 1) most has (by omega) (by omega) with ⟨r, j, j0, j1, j2⟩ | ⟨r1, mo, ha, r2, r3, r4, r5, r6⟩
      · exact .inl ⟨r, j, by omega, by omega, j2⟩
      · refine .inr ⟨fun j j0 j1 => ?_, mo, ha, r2, fun j j0 j1 jl => ?_, r4, ?_, ?_⟩
        · by_cases c : j = t
          · rw [c]; exact nb
          · exact r1 j (by omega) (by omega)
        · by_cases c : j = t
          · rw [c] at jl; exact absurd jl nl
          · exact r3 j (by omega) (by omega) jl
        · rw [r5]
          constructor
          · rintro (h | ⟨j, h, hl⟩)
            · exact .inl h
            · exact .inr ⟨j, by omega, hl⟩
          · rintro (h | ⟨j, h, hl⟩)
            · exact .inl h
            · refine .inr ⟨j, ?_, hl⟩
              have : j ≠ t := fun c => nl (c ▸ hl)
              omega
        · rcases r6 with h | ⟨j, h, hl⟩
          · exact .inl h
          · exact .inr ⟨j, by omega, hl⟩
    have eq : lstL F kd w b p E most has t (d + 1) = if t = b ∨ nearB F b t = false ∨ nearB F w t = true then lstL F kd w b p E most has (t + 1) d
      else if t = p then -1
      else if strkB F kd p t w = true then lstL F kd w b p E most has (t + 1) d
      else if E (vlIx kd 0 w t p) < 0 then -1
      else lstL F kd w b p E (if E (vlIx kd 0 w t p) ≤ most then most else E (vlIx kd 0 w t p)) true (t + 1) d := rfl
    by_cases c1 : t = b ∨ nearB F b t = false ∨ nearB F w t = true
    · refine skip ?_ ?_ (by rw [eq, if_pos c1])
      · rintro (⟨rfl, z1, z2, z3⟩ | ⟨⟨-, z1, z2, z3, -⟩, -⟩)
        · rcases c1 with c | c | c
          · exact z1 c
          · rw [z2] at c; exact nomatch c
          · rw [z3] at c; exact nomatch c
        · rcases c1 with c | c | c
          · exact z1 c
          · rw [z2] at c; exact nomatch c
          · rw [z3] at c; exact nomatch c
      · rintro ⟨-, z1, z2, z3, -⟩
        rcases c1 with c | c | c
        · exact z1 c
        · rw [z2] at c; exact nomatch c
        · rw [z3] at c; exact nomatch c
    · rw [if_neg c1] at eq
      have n1 : t ≠ b := fun z => c1 (.inl z)
      have n2 : nearB F b t = true := by cases h : nearB F b t; exact absurd (.inr (.inl h)) c1; rfl
      have n3 : nearB F w t = false := by cases h : nearB F w t; rfl; exact absurd (.inr (.inr h)) c1
      by_cases c2 : t = p
      · rw [if_pos c2] at eq
        exact .inl ⟨eq, t, by omega, by omega, .inl ⟨c2, by rw [← c2]; exact ⟨n1, n2, n3⟩⟩⟩
      · rw [if_neg c2] at eq
        by_cases c3 : strkB F kd p t w = true
        · rw [if_pos c3] at eq
          refine skip ?_ ?_ eq
          · rintro (⟨z, -⟩ | ⟨⟨-, -, -, -, -, z⟩, -⟩)
            · exact c2 z
            · rw [c3] at z; exact nomatch z
          · rintro ⟨-, -, -, -, -, z⟩
            rw [c3] at z; exact nomatch z
        · rw [if_neg c3] at eq
          have hl : legE F N kd w b p t := ⟨⟨h0, by omega⟩, n1, n2, n3, c2, by simpa using c3⟩
          by_cases c4 : E (vlIx kd 0 w t p) < 0
          · rw [if_pos c4] at eq
            exact .inl ⟨eq, t, by omega, by omega, .inr ⟨hl, c4⟩⟩
          · rw [if_neg c4] at eq
            rw [eq]
            rcases lst_ok hp d (t + 1) (if E (vlIx kd 0 w t p) ≤ most then most else E (vlIx kd 0 w t p)) true (by omega) (by omega) with ⟨r, j, j0, j1, j2⟩ | ⟨r1, mo, ha, r2, r3, r4, r5, r6⟩
            · exact .inl ⟨r, j, by omega, by omega, j2⟩
            · refine .inr ⟨fun j j0 j1 => ?_, mo, ha, r2, fun j j0 j1 jl => ?_, by split at r4 <;> omega, ?_, ?_⟩
              · by_cases c : j = t
                · rw [c]
                  rintro (⟨z, -⟩ | ⟨-, z⟩)
                  · exact c2 z
                  · exact c4 z
                · exact r1 j (by omega) (by omega)
              · by_cases c : j = t
                · rw [c]; split at r4 <;> omega
                · exact r3 j (by omega) (by omega) jl
              · rw [r5]
                exact ⟨fun _ => .inr ⟨t, by omega, hl⟩, fun _ => .inl rfl⟩
              · rcases r6 with h | ⟨j, h, hl2⟩
                · by_cases c5 : E (vlIx kd 0 w t p) ≤ most
                  · rw [if_pos c5] at h; exact .inl h
                  · rw [if_neg c5] at h; exact .inr ⟨t, by omega, hl, h.symm⟩
                · exact .inr ⟨j, by omega, hl2⟩
/-- how long Black lasts, said by its moves -/
theorem lst_spec {w b p : Int} (hN : 0 ≤ N) (hp : 0 ≤ p ∧ p < N) : -1 ≤ lstB F N kd w b p E ∧
    (0 ≤ lstB F N kd w b p E → ¬ capE F w b p ∧ (∀ t, legE F N kd w b p t → 0 ≤ E (vlIx kd 0 w t p) ∧ E (vlIx kd 0 w t p) ≤ lstB F N kd w b p E - 1) ∧ (lstB F N kd w b p E = 0 → strkB F kd p b w = true) ∧ (0 < lstB F N kd w b p E → ∃ t, legE F N kd w b p t ∧ E (vlIx kd 0 w t p) = lstB F N kd w b p E - 1)) ∧
    (lstB F N kd w b p E = -1 → capE F w b p ∨ (∃ t, legE F N kd w b p t ∧ E (vlIx kd 0 w t p) < 0) ∨ ((∀ t, ¬ legE F N kd w b p t) ∧ strkB F kd p b w = false)) := by
  unfold lstB
  rcases lst_ok (F := F) (N := N) (kd := kd) (E := E) (w := w) (b := b) hp N.toNat 0 (-1) false (by omega) (by omega) with ⟨r, j, j0, j1, j2⟩ | ⟨r1, mo, ha, r2, r3, r4, r5, r6⟩
  · rw [r]
    refine ⟨by omega, fun z => by omega, fun _ => ?_⟩
    rcases j2 with ⟨-, z⟩ | ⟨z1, z2⟩
    · exact .inl z
    · exact .inr (.inl ⟨j, z1, z2⟩)
  · have nc : ¬ capE F w b p := fun z => r1 p (by omega) (by omega) (.inl ⟨rfl, z⟩)
    have nn : ∀ t, legE F N kd w b p t → 0 ≤ E (vlIx kd 0 w t p) := fun t ht => by
      have := r1 t (by have := ht.1; omega) (by have := ht.1; omega)
      by_cases c : E (vlIx kd 0 w t p) < 0
      · exact absurd (.inr ⟨ht, c⟩) this
      · omega
    cases ha with
    | true =>
      rw [if_pos rfl] at r2
      obtain ⟨j, j1, j2⟩ : ∃ j : Int, (0 ≤ j ∧ j < 0 + (N.toNat : Int)) ∧ legE F N kd w b p j := by
        rcases r5.mp rfl with z | z
        · exact nomatch z
        · exact z
      have g1 := nn j j2
      have g2 := r3 j j1.1 j1.2 j2
      rw [r2]
      refine ⟨by omega, fun _ => ⟨nc, fun t ht => ⟨nn t ht, ?_⟩, fun z => by omega, fun _ => ?_⟩, fun z => by omega⟩
      · have := r3 t (by have := ht.1; omega) (by have := ht.1; omega) ht; omega
      · rcases r6 with z | ⟨t, -, t2, t3⟩
        · omega
        · exact ⟨t, t2, by omega⟩
    | false =>
      rw [if_neg (by simp)] at r2
      have nl : ∀ t, ¬ legE F N kd w b p t := fun t ht => by
        have := r5.mpr (.inr ⟨t, by have := ht.1; omega, ht⟩)
        exact nomatch this
      rw [r2]
      cases hs : strkB F kd p b w
      · rw [if_neg (by simp)]
        exact ⟨by omega, fun z => by omega, fun _ => .inr (.inr ⟨nl, rfl⟩)⟩
      · rw [if_pos rfl]
        exact ⟨by omega, fun _ => ⟨nc, fun t ht => absurd ht (nl t), fun _ => rfl, fun z => by omega⟩, fun z => by omega⟩
/-- what is decided stays, so what follows from it stays -/
theorem lst_keep {w b p : Int} (hN : 0 ≤ N) (hp : 0 ≤ p ∧ p < N) (h : ∀ t, 0 ≤ t → t < N → 0 ≤ E (vlIx kd 0 w t p) → E' (vlIx kd 0 w t p) = E (vlIx kd 0 w t p)) (h0 : 0 ≤ lstB F N kd w b p E) : lstB F N kd w b p E' = lstB F N kd w b p E := by
  obtain ⟨a1, a2, -⟩ := lst_spec (F := F) (kd := kd) (E := E) (w := w) (b := b) hN hp
  obtain ⟨b1, b2, b3⟩ := lst_spec (F := F) (kd := kd) (E := E') (w := w) (b := b) hN hp
  obtain ⟨c1, c2, c3, c4⟩ := a2 h0
  have tr : ∀ t, legE F N kd w b p t → E' (vlIx kd 0 w t p) = E (vlIx kd 0 w t p) := fun t ht => h t ht.1.1 ht.1.2 (c2 t ht).1
  by_cases n1 : lstB F N kd w b p E' = -1
  · rcases b3 n1 with z | ⟨t, z1, z2⟩ | ⟨z1, z2⟩
    · exact absurd z c1
    · have := tr t z1; have := c2 t z1; omega
    · by_cases n0 : lstB F N kd w b p E = 0
      · have := c3 n0; rw [z2] at this; exact nomatch this
      · obtain ⟨t, ht, -⟩ := c4 (by omega)
        exact absurd ht (z1 t)
  · obtain ⟨d1, d2, d3, d4⟩ := b2 (by omega)
    by_cases n0 : lstB F N kd w b p E = 0
    · by_cases p0 : lstB F N kd w b p E' = 0
      · omega
      · obtain ⟨t, ht, -⟩ := d4 (by omega)
        have := c2 t ht
        omega
    · obtain ⟨t, ht, et⟩ := c4 (by omega)
      have g1 := d2 t ht
      rw [tr t ht] at g1
      obtain ⟨t2, ht2, et2⟩ := d4 (by omega)
      have g2 := c2 t2 ht2
      rw [tr t2 ht2] at et2
      omega
/-- White has a move to a position of that value -/
theorem rch_iff {w b p n : Int} (hw : 0 ≤ w ∧ w < N) (hp : 0 ≤ p ∧ p < N) : rchB F N kd w b p n E = true ↔ ∃ w' p', sWE F N kd w b p w' p' ∧ E (vlIx kd 1 w' b p') = n := by
  unfold rchB
  rw [anyL_iff]
  constructor
  · rintro ⟨t, t0, t1, h⟩
    unfold rchAt at h
    simp only [Bool.or_eq_true, Bool.and_eq_true, Bool.not_eq_true', decide_eq_true_eq, decide_eq_false_iff_not] at h
    rcases h with ⟨⟨⟨h1, h2⟩, h3⟩, h4⟩ | ⟨⟨⟨⟨h1, h2⟩, h3⟩, h4⟩, h5⟩
    · exact ⟨t, p, ⟨⟨t0, by omega⟩, hp, .inl ⟨rfl, h1, h2, h3⟩⟩, h4⟩
    · exact ⟨w, t, ⟨hw, ⟨t0, by omega⟩, .inr ⟨rfl, h1, h2, h3, h4⟩⟩, h5⟩
  · rintro ⟨w', p', ⟨hw', hp', h⟩, e⟩
    rcases h with ⟨rfl, h1, h2, h3⟩ | ⟨rfl, h1, h2, h3, h4⟩
    · refine ⟨w', hw'.1, by omega, ?_⟩
      unfold rchAt
      simp only [Bool.or_eq_true, Bool.and_eq_true, Bool.not_eq_true', decide_eq_true_eq, decide_eq_false_iff_not]
      exact .inl ⟨⟨⟨h1, h2⟩, h3⟩, e⟩
    · refine ⟨p', hp'.1, by omega, ?_⟩
      unfold rchAt
      simp only [Bool.or_eq_true, Bool.and_eq_true, Bool.not_eq_true', decide_eq_true_eq, decide_eq_false_iff_not]
      exact .inr ⟨⟨⟨⟨h1, h2⟩, h3⟩, h4⟩, e⟩
end
