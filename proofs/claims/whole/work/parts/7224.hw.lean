/-! PHASE 4: an ending's values are what the rules make them: one table -/
/-- White's moves of an ending, Black's moves that take the piece, and the others -/
abbrev sWE (F N kd w b p w' p' : Int) : Prop := (0 ≤ w' ∧ w' < N) ∧ (0 ≤ p' ∧ p' < N) ∧ ((p' = p ∧ nearB F w w' = true ∧ w' ≠ w ∧ w' ≠ p) ∨ (w' = w ∧ p' ≠ w ∧ p' ≠ b ∧ strkB F kd p p' w = true ∧ freeB F kd p p' b = true))
abbrev capE (F w b p : Int) : Prop := p ≠ b ∧ nearB F b p = true ∧ nearB F w p = false
abbrev legE (F N kd w b p t : Int) : Prop := (0 ≤ t ∧ t < N) ∧ t ≠ b ∧ nearB F b t = true ∧ nearB F w t = false ∧ t ≠ p ∧ strkB F kd p t w = false
def LQ (F N kd : Int) (WV BV : Int → Int → Int → Int) : Prop := ∀ w b p : Int, (0 ≤ w ∧ w < N) → (0 ≤ b ∧ b < N) → (0 ≤ p ∧ p < N) →
  ((WV w b p = -2 ↔ ofEnd F kd 0 w b p = false) ∧ (BV w b p = -2 ↔ ofEnd F kd 1 w b p = false) ∧ -2 ≤ WV w b p ∧ -2 ≤ BV w b p) ∧
  ((0 ≤ WV w b p → (∃ w' p', sWE F N kd w b p w' p' ∧ BV w' b p' = WV w b p - 1 ∧ 0 ≤ WV w b p - 1) ∧ ∀ w' p', sWE F N kd w b p w' p' → 0 ≤ BV w' b p' → WV w b p - 1 ≤ BV w' b p') ∧
   (WV w b p = -1 → ∀ w' p', sWE F N kd w b p w' p' → BV w' b p' < 0)) ∧
  ((0 ≤ BV w b p → ¬ capE F w b p ∧ (∀ t, legE F N kd w b p t → 0 ≤ WV w t p ∧ WV w t p ≤ BV w b p - 1) ∧ (BV w b p = 0 → strkB F kd p b w = true) ∧ (0 < BV w b p → ∃ t, legE F N kd w b p t ∧ WV w t p = BV w b p - 1)) ∧
   (BV w b p = -1 → capE F w b p ∨ (∃ t, legE F N kd w b p t ∧ WV w t p < 0) ∨ ((∀ t, ¬ legE F N kd w b p t) ∧ strkB F kd p b w = false)))
section
variable {F N kd : Int} {X Y X' Y' : Int → Int → Int → Int}
theorem LQ.step (h : LQ F N kd X Y) (h' : LQ F N kd X' Y') (n : Nat) (ih : ∀ k : Nat, k < n → ∀ w b p : Int, (0 ≤ w ∧ w < N) → (0 ≤ b ∧ b < N) → (0 ≤ p ∧ p < N) → (X w b p = k ↔ X' w b p = k) ∧ (Y w b p = k ↔ Y' w b p = k)) :
    ∀ w b p : Int, (0 ≤ w ∧ w < N) → (0 ≤ b ∧ b < N) → (0 ≤ p ∧ p < N) → (X w b p = n → X' w b p = n) ∧ (Y w b p = n → Y' w b p = n) := by
  intro w b p hw hb hp
  obtain ⟨⟨l1, l2, l3, l4⟩, ⟨a1, a2⟩, b1, b2⟩ := h w b p hw hb hp
  obtain ⟨⟨m1, m2, m3, m4⟩, ⟨c1, c2⟩, d1, d2⟩ := h' w b p hw hb hp
  constructor
  · intro e
    obtain ⟨⟨w1, p1, q1, q2, q3⟩, q4⟩ := a1 (by omega)
    have r : Y' w1 b p1 = X w b p - 1 := by
      have := (ih (n - 1) (by omega) w1 b p1 q1.1 hb q1.2.1).2.mp (by omega)
      omega
    have n2 : X' w b p ≠ -2 := fun z => by
      have := m1.mp z
      have := l1.mpr this
      omega
    by_cases n1 : X' w b p = -1
    · have := c2 n1 w1 p1 q1
      omega
    · obtain ⟨⟨w2, p2, s1, s2, s3⟩, s4⟩ := c1 (by omega)
      have g1 := s4 w1 p1 q1 (by omega)
      have := (ih (X' w b p - 1).toNat (by omega) w2 b p2 s1.1 hb s1.2.1).2.mpr (by omega)
      have g2 := q4 w2 p2 s1 (by omega)
      omega
  · intro e
    obtain ⟨q1, q2, q3, q4⟩ := b1 (by omega)
    have tr : ∀ t, legE F N kd w b p t → X' w t p = X w t p := by
      intro t ht
      have g := q2 t ht
      have := (ih (X w t p).toNat (by omega) w t p hw ht.1 hp).1.mp (by omega)
      omega
    have n2 : Y' w b p ≠ -2 := fun z => by
      have := m2.mp z
      have := l2.mpr this
      omega
    by_cases n1 : Y' w b p = -1
    · rcases d2 n1 with z | ⟨t, z1, z2⟩ | ⟨z1, z2⟩
      · exact absurd z q1
      · have := tr t z1
        have := q2 t z1
        omega
      · by_cases n0 : Y w b p = 0
        · have := q3 n0; rw [z2] at this; exact nomatch this
        · obtain ⟨t, ht, -⟩ := q4 (by omega)
          exact absurd ht (z1 t)
    · obtain ⟨s1, s2, s3, s4⟩ := d1 (by omega)
      by_cases n0 : Y w b p = 0
      · by_cases p0 : Y' w b p = 0
        · omega
        · obtain ⟨t, ht, -⟩ := s4 (by omega)
          have := q2 t ht
          omega
      · obtain ⟨t, ht, et⟩ := q4 (by omega)
        have g1 := s2 t ht
        rw [tr t ht] at g1
        obtain ⟨t2, ht2, et2⟩ := s4 (by omega)
        have g2 := q2 t2 ht2
        rw [tr t2 ht2] at et2
        omega
/-- ONE TABLE -/
theorem LQ.uniq (h : LQ F N kd X Y) (h' : LQ F N kd X' Y') (w b p : Int) (hw : 0 ≤ w ∧ w < N) (hb : 0 ≤ b ∧ b < N) (hp : 0 ≤ p ∧ p < N) : X w b p = X' w b p ∧ Y w b p = Y' w b p := by
  have all : ∀ n : Nat, ∀ w b p : Int, (0 ≤ w ∧ w < N) → (0 ≤ b ∧ b < N) → (0 ≤ p ∧ p < N) → (X w b p = n ↔ X' w b p = n) ∧ (Y w b p = n ↔ Y' w b p = n) := by
    intro n
    induction n using Nat.strongRecOn with
    | _ n ih =>
      intro w b p hw hb hp
      have s1 := h.step h' n ih w b p hw hb hp
      have s2 := h'.step h n (fun k hk w b p hw hb hp => ⟨(ih k hk w b p hw hb hp).1.symm, (ih k hk w b p hw hb hp).2.symm⟩) w b p hw hb hp
      exact ⟨⟨s1.1, s2.1⟩, ⟨s1.2, s2.2⟩⟩
  obtain ⟨⟨l1, l2, l3, l4⟩, -⟩ := h w b p hw hb hp
  obtain ⟨⟨m1, m2, m3, m4⟩, -⟩ := h' w b p hw hb hp
  have f : ∀ (x y : Int) (P : Prop), (∀ n : Nat, x = n ↔ y = n) → (x = -2 ↔ P) → (y = -2 ↔ P) → -2 ≤ x → -2 ≤ y → x = y := by
    intro x y P e1 e2 e3 e4 e5
    by_cases c : 0 ≤ x
    · have := (e1 x.toNat).mp (by omega); omega
    · by_cases d : 0 ≤ y
      · have := (e1 y.toNat).mpr (by omega); omega
      · by_cases z : x = -2
        · have := e3.mpr (e2.mp z); omega
        · have : y ≠ -2 := fun y2 => z (e2.mpr (e3.mp y2))
          omega
  exact ⟨f _ _ _ (fun n => (all n w b p hw hb hp).1) l1 m1 l3 m3, f _ _ _ (fun n => (all n w b p hw hb hp).2) l2 m2 l4 m4⟩
end
