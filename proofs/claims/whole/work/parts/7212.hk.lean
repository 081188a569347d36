section
variable {F R : Int} {v : Int → Int}
theorem typ_cell {x y : Int} (h4 : 4 ≤ F) (h8 : F ≤ 8) (r4 : 4 ≤ R) (r8 : R ≤ 8) (hx : 0 ≤ x ∧ x < F) (hy : 0 ≤ y ∧ y < R) :
    bk8 F R (v 64) (cd8 x (toY R (v 64) y)) = F * y + x ∧ typF F R v (cd8 x (toY R (v 64) y)) = typA v (F * y + x) := by
  have hY := toY_r (its := v 64) r4 r8 hy
  have hX : 0 ≤ x ∧ x < 8 := by omega
  have e1 : bk8 F R (v 64) (cd8 x (toY R (v 64) y)) = F * y + x := by
    unfold bk8
    rw [cd8_x hX hY, cd8_y hX hY, ofY_toY]
  refine ⟨e1, ?_⟩
  unfold typF
  rw [e1, cd8_x hX hY, cd8_y hX hY, ofY_toY, if_pos ⟨hx.2, hy.1, hy.2⟩]
theorem typA_free {b : Int} (h : isOfB (v b) (v 64) = false) : typA v b ≤ 1 := by
  unfold typA
  split
  · split <;> omega
  · rw [if_neg (by rw [h]; simp)]; omega
theorem typA_own {a : Int} (h : isOfB (v a) (v 64) = true) : typA v a = if kindO (v a) = 2 ∨ kindO (v a) = 3 ∨ kindO (v a) = 4 then 2 else if kindO (v a) = 6 then 4 else 3 := by
  unfold typA
  rw [if_neg (fun z => by rw [z] at h; simp [isOfB] at h), if_pos h]
def slL (τ : Nat → Nat) (s : Nat) : List Nat :=
  ((preL τ (rayF s 1 0) ++ preL τ (rayF s (-1) (-0))) ++ (preL τ (rayF s 0 1) ++ preL τ (rayF s (-0) (-1)))) ++ ((preL τ (rayF s 1 1) ++ preL τ (rayF s (-1) (-1))) ++ (preL τ (rayF s (-1) 1) ++ preL τ (rayF s (- (-1)) (-1))))
theorem slL_len (τ : Nat → Nat) (s : Nat) : (slL τ s).length = slF τ s := by unfold slL slF; simp only [List.length_append, preL_len]
theorem slL_mem {τ : Nat → Nat} {s t : Nat} {dx dy : Int} (h1 : dx = -1 ∨ dx = 0 ∨ dx = 1) (h2 : dy = -1 ∨ dy = 0 ∨ dy = 1) (h3 : ¬ (dx = 0 ∧ dy = 0)) (h : t ∈ preL τ (rayF s dx dy)) : t ∈ slL τ s := by
  unfold slL
  simp only [List.mem_append]
  rcases h1 with rfl | rfl | rfl <;> rcases h2 with rfl | rfl | rfl
  · exact .inr (.inl (.inr h))
  · exact .inl (.inl (.inr h))
  · exact .inr (.inr (.inl h))
  · exact .inl (.inr (.inr h))
  · exact absurd ⟨rfl, rfl⟩ h3
  · exact .inl (.inr (.inl h))
  · exact .inr (.inr (.inr h))
  · exact .inl (.inl (.inl h))
  · exact .inr (.inl (.inl h))
theorem cst_go {a b : Int} (h : cstF F R v a b ≠ 0) : goB F R v a b = true := by
  unfold cstF at h
  split at h
  · rename_i c; unfold legB at c; rw [Bool.and_eq_true] at c; exact c.1
  · exact absurd rfl h
theorem cst_le {a b : Int} : cstF F R v a b ≤ if becB F R v a b = true then 4 else 1 := by
  unfold cstF
  split
  · cases becB F R v a b <;> simp [bec4]
  · omega
theorem cst_le1 {a b : Int} (h : kindO (v a) ≠ 6) : cstF F R v a b ≤ 1 := by
  have := cst_le (F := F) (R := R) (v := v) (a := a) (b := b)
  have e : becB F R v a b = false := by unfold becB; rw [decide_eq_false h]; rfl
  rw [e] at this
  simpa using this
theorem go_free {a b : Int} (h : goB F R v a b = true) : isOfB (v b) (v 64) = false ∧ (if kindO (v a) = 6 then goPawnB F R v a b else attB F v a b || (decide (kindO (v a) = 1) && castB F R v a b)) = true := by
  unfold goB at h
  simp only [Bool.and_eq_true, Bool.not_eq_true'] at h
  exact ⟨h.1.2, h.2⟩
/-- a slider's way to where it goes -/
theorem slide_way {a b : Int} (h4 : 4 ≤ F) (h8 : F ≤ 8) (r8 : R ≤ 8) (hn : F * R ≤ 64) (ha : 0 ≤ a ∧ a < F * R) (hb : 0 ≤ b ∧ b < F * R) (hk : kindO (v a) = 2 ∨ kindO (v a) = 3 ∨ kindO (v a) = 4) (h : attB F v a b = true) :
    ∃ d s : Int, (0 ≤ d ∧ d < 8) ∧ (1 ≤ s ∧ s ≤ 7) ∧ b % F = a % F + s * dfD d ∧ b / F = a / F + s * drD d ∧ ∀ s1 : Int, 1 ≤ s1 → s1 < s → v (a + s1 * (dfD d + F * drD d)) = 0 := by
  have fin : ∀ st, lineB F st a b = true → clearO F (fun k => !decide (v k = 0)) a b = true → ∃ d s : Int, (0 ≤ d ∧ d < 8) ∧ (1 ≤ s ∧ s ≤ 7) ∧ b % F = a % F + s * dfD d ∧ b / F = a / F + s * drD d ∧ ∀ s1 : Int, 1 ≤ s1 → s1 < s → v (a + s1 * (dfD d + F * drD d)) = 0 := by
    intro st hl hc
    obtain ⟨d, s, hd, -, -, q3, q4, q5⟩ := line_on (R := R) hl
    have s7 := s_le7 h4 h8 ⟨ha.1, by omega⟩ ⟨hb.1, by omega⟩ hn r8 ha.2 hb.2 hd q3 q4 q5
    rw [clearO_iff q3 hd q4 q5] at hc
    exact ⟨d, s, hd, ⟨q3, s7⟩, q4, q5, fun s1 k1 k2 => by have := hc s1 k1 k2; simpa using this⟩
  rw [← attO_v, att_line] at h
  rcases hk with k | k | k <;> simp only [k, Int.reduceEq, if_true, if_false] at h
  · rw [Bool.and_eq_true, Bool.or_eq_true] at h
    rcases h.1 with w | w
    · exact fin _ w h.2
    · exact fin _ w h.2
  · rw [Bool.and_eq_true] at h; exact fin _ h.1 h.2
  · rw [Bool.and_eq_true] at h; exact fin _ h.1 h.2
theorem slide_in {a b : Int} (h4 : 4 ≤ F) (h8 : F ≤ 8) (r4 : 4 ≤ R) (r8 : R ≤ 8) (hs : v 64 = 0 ∨ v 64 = 1) (ha : 0 ≤ a ∧ a < F * R) (hb : 0 ≤ b ∧ b < F * R) (hk : kindO (v a) = 2 ∨ kindO (v a) = 3 ∨ kindO (v a) = 4) (h : attB F v a b = true) (hf : isOfB (v b) (v 64) = false) :
    b ∈ (slL (typF F R v) (s8F F R (v 64) a)).map (bk8 F R (v 64)) := by
  have hn := (FR_r h4 h8 r4 r8).2
  obtain ⟨d, s, hd, h7, e1, e2, hc⟩ := slide_way h4 h8 r8 hn ha hb hk h
  obtain ⟨ax, ay, ae⟩ := fr_of h4 ha
  obtain ⟨bx, bY, be⟩ := fr_of h4 hb
  have hX : 0 ≤ a % F ∧ a % F < 8 := by omega
  have hY := toY_r (its := v 64) r4 r8 ay
  have er : rayF (s8F F R (v 64) a) = fun dx dy => ray8 (a % F) (toY R (v 64) (a / F)) dx dy 8 := by
    funext dx dy
    unfold rayF s8F
    rw [cd8_x hX hY, cd8_y hX hY]
  have dir : (dfD d = -1 ∨ dfD d = 0 ∨ dfD d = 1) ∧ (drD d = -1 ∨ drD d = 0 ∨ drD d = 1) ∧ ¬ (dfD d = 0 ∧ drD d = 0) := by
    rcases dir_cases hd.1 hd.2 with rfl | rfl | rfl | rfl | rfl | rfl | rfl | rfl <;> simp [dfD, drD]
  generalize hdx : dfD d = dx at e1 e2 hc dir
  generalize hdr : drD d = dr at e1 e2 hc dir
  have inb : ∀ i : Nat, (i : Int) + 1 ≤ s → (0 ≤ a % F + dx * ((i : Int) + 1) ∧ a % F + dx * ((i : Int) + 1) < F) ∧ (0 ≤ a / F + dr * ((i : Int) + 1) ∧ a / F + dr * ((i : Int) + 1) < R) := by
    intro i hi
    rcases dir.1 with z | z | z <;> rcases dir.2.1 with y | y | y <;> subst z <;> subst y <;> omega
  have sq : ∀ i : Nat, F * (a / F + dr * ((i : Int) + 1)) + (a % F + dx * ((i : Int) + 1)) = a + ((i : Int) + 1) * (dx + F * dr) := by
    intro i
    have q1 : F * (dr * ((i : Int) + 1)) = ((i : Int) + 1) * (F * dr) := by rw [← Int.mul_assoc, Int.mul_comm]
    have q2 : dx * ((i : Int) + 1) = ((i : Int) + 1) * dx := Int.mul_comm _ _
    rw [Int.mul_add F, Int.mul_add ((i : Int) + 1), q1, q2]
    omega
  have ty : ∀ i : Nat, (i : Int) + 1 ≤ s → typF F R v (cd8 (a % F + dx * ((i : Int) + 1)) (toY R (v 64) (a / F + dr * ((i : Int) + 1)))) ≤ 1 := by
    intro i hi
    rw [(typ_cell h4 h8 r4 r8 (inb i hi).1 (inb i hi).2).2, sq]
    apply typA_free
    by_cases c : (i : Int) + 1 = s
    · have : a + ((i : Int) + 1) * (dx + F * dr) = b := by
        rw [← sq, c, ← be, e1, e2, Int.mul_comm dx, Int.mul_comm dr]
      rw [this]; exact hf
    · have := hc ((i : Int) + 1) (by omega) (by omega)
      rw [this]; rfl
  have tl : ∀ i : Nat, toY R (v 64) (a / F + dr * ((i : Int) + 1)) = toY R (v 64) (a / F) + (if v 64 = 1 then dr else -dr) * ((i : Int) + 1) := by
    intro i
    unfold toY
    split
    · omega
    · rw [Int.neg_mul]; omega
  have mem := ray_mem (typF F R v) dx (if v 64 = 1 then dr else -dr) 8 (a % F) (toY R (v 64) (a / F)) (s - 1).toNat (by omega) (fun i hi => by
    have b1 := inb i (by omega)
    have b2 := toY_r (its := v 64) r4 r8 b1.2
    rw [tl] at b2
    refine ⟨⟨b1.1.1, by omega, b2.1, b2.2⟩, ?_⟩
    rw [← tl]
    exact ty i (by omega))
  have mem2 : cd8 (a % F + dx * (((s - 1).toNat : Int) + 1)) (toY R (v 64) (a / F) + (if v 64 = 1 then dr else -dr) * (((s - 1).toNat : Int) + 1)) ∈ slL (typF F R v) (s8F F R (v 64) a) := by
    refine slL_mem (dx := dx) (dy := if v 64 = 1 then dr else -dr) dir.1 ?_ ?_ ?_
    · split <;> omega
    · rintro ⟨z1, z2⟩
      apply dir.2.2
      refine ⟨z1, ?_⟩
      split at z2 <;> omega
    · rw [er]; exact mem
  refine List.mem_map.mpr ⟨_, mem2, ?_⟩
  rw [← tl, (typ_cell h4 h8 r4 r8 (inb _ (by omega)).1 (inb _ (by omega)).2).1, Int.toNat_of_nonneg (by omega), show s - 1 + 1 = s by omega, ← be, e1, e2, Int.mul_comm dx, Int.mul_comm dr]
end
