/-! PHASE 3: where a token ends, against the specification of texts of moves -/
section
/-- more fuel changes nothing -/
theorem wEnd_fl (t : Int → Int) (len : Int) : ∀ (n d : Nat) (a : Int), a + d = len → d ≤ n → wEnd t len n a = wEnd t len d a := by
  intro n
  induction n with
  | zero => intro d a h hd; rw [show d = 0 by omega]
  | succ n ih =>
    intro d a h hd
    cases d with
    | zero =>
      unfold wEnd
      rw [if_pos (Or.inl (by omega))]
    | succ d =>
      unfold wEnd
      split
      · rfl
      · exact ih d (a + 1) (by omega) (by omega)
theorem nEnd_fl (t : Int → Int) (len : Int) : ∀ (n d : Nat) (a : Int), a + d = len → d ≤ n → nEnd t len n a = nEnd t len d a := by
  intro n
  induction n with
  | zero => intro d a h hd; rw [show d = 0 by omega]
  | succ n ih =>
    intro d a h hd
    cases d with
    | zero =>
      unfold nEnd
      rw [if_pos (Or.inl (by omega))]
    | succ d =>
      unfold nEnd
      split
      · rfl
      · exact ih d (a + 1) (by omega) (by omega)
theorem wEnd_rg (t : Int → Int) (len : Int) : ∀ (d : Nat) (a : Int), a + d = len → a ≤ wEnd t len d a ∧ wEnd t len d a ≤ len := by
  intro d
  induction d with
  | zero => intro a h; unfold wEnd; omega
  | succ d ih =>
    intro a h
    unfold wEnd
    split
    · omega
    · have := ih (a + 1) (by omega); omega
theorem nEnd_rg (t : Int → Int) (len : Int) : ∀ (d : Nat) (a : Int), a + d = len → a ≤ nEnd t len d a ∧ nEnd t len d a ≤ len := by
  intro d
  induction d with
  | zero => intro a h; unfold nEnd; omega
  | succ d ih =>
    intro a h
    unfold nEnd
    split
    · omega
    · have := ih (a + 1) (by omega); omega
/-- a token's end in the specification's words -/
theorem eotB_spec {L : List Int} (h500 : L.length ≤ 500) {a : Int} (ha : 0 ≤ a ∧ a < L.length) :
    eotB L a = if tx L a = 123 then nEnd (tx L) L.length 501 (a + 1) + 1 else if tx L a = 32 ∨ brkB (tx L a) = true then a + 1 else wEnd (tx L) L.length 501 (a + 1) := by
  unfold eotB
  rw [wEnd_fl (tx L) L.length 501 ((L.length : Int) - (a + 1)).toNat (a + 1) (by omega) (by omega), nEnd_fl (tx L) L.length 501 ((L.length : Int) - (a + 1)).toNat (a + 1) (by omega) (by omega)]
  by_cases q : tx L a = 123
  · rw [if_pos q, if_pos q]
  · rw [if_neg q, if_neg q]
    by_cases z : tx L a = 32 ∨ brkB (tx L a) = true
    · rw [if_pos z, if_pos ((bord_or _).mpr z)]
    · rw [if_neg z, if_neg (fun w => z ((bord_or _).mp w))]
/-- brackets: the class's step is the specification's -/
theorem tak_brk {c : Int} {s : RD} (hd : 0 ≤ s.1 ∧ s.1 ≤ 4) (hc : brkB c = true) :
    brkS c s = takB (if c = 40 then 1 else if c = 41 then 2 else if c = 123 then 3 else -1) s := by
  have h : c = 40 ∨ c = 41 ∨ c = 123 ∨ c = 125 := by
    unfold brkB at hc
    simp at hc
    omega
  have k0 : ∀ k : Int, k ≠ 0 → (s.2.2.2.2.2.2.1 = true ∨ s.2.2.2.2.2.2.2 = true) → takB k s = none := fun k hk w => by unfold takB; rw [if_neg hk, if_pos w]
  by_cases f : s.2.2.2.2.2.2.1 = true ∨ s.2.2.2.2.2.2.2 = true
  · have e : brkS c s = none := by unfold brkS; rw [if_pos (f.elim (fun w => Or.inr (Or.inl w)) Or.inl)]
    rw [e, k0 _ (by rcases h with rfl | rfl | rfl | rfl <;> decide) f]
  · have f1 : ¬ s.2.2.2.2.2.2.1 = true := fun w => f (Or.inl w)
    have f2 : ¬ s.2.2.2.2.2.2.2 = true := fun w => f (Or.inr w)
    by_cases l : s.2.2.2.1 s.1 = 0
    · have e : brkS c s = none := by unfold brkS; rw [if_pos (Or.inr (Or.inr (Or.inl l)))]
      rw [e]
      unfold takB
      rcases h with rfl | rfl | rfl | rfl <;> simp [f, l]
    · by_cases q : c = 125
      · have e : brkS c s = none := by unfold brkS; rw [if_pos (Or.inr (Or.inr (Or.inr q)))]
        rw [e]
        unfold takB
        subst q
        simp [f]
      · unfold brkS takB
        rw [if_neg (fun w => w.elim f2 (fun w => w.elim f1 (fun w => w.elim l q)))]
        rcases h with rfl | rfl | rfl | rfl
        · simp [f, l, opnS]
        · simp [f, l]
        · simp [f, l]
        · exact absurd rfl q
end
