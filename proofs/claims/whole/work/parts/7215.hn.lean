section
variable {F R : Int} {v : Int → Int}
theorem sumL_sm (f : Int → Int) (hf : ∀ j, 0 ≤ f j) : ∀ (d : Nat) (k : Int), sumL f k d = ((sm (fun i => (f (k + i)).toNat) d : Nat) : Int)
  | 0, k => rfl
  | d + 1, k => by
    rw [sumL_S, sm_front, sumL_sm f hf d (k + 1)]
    have e : (fun i : Nat => (f (k + 1 + (i : Int))).toNat) = fun i : Nat => (f (k + ((i + 1 : Nat) : Int))).toNat := by
      funext i; congr 2; omega
    rw [e]
    have := hf k
    simp only [Int.natCast_zero, Int.add_zero]
    omega
/-- A PROPER POSITION HAS AT MOST 319 MOVES -/
theorem few_PV (h4 : 4 ≤ F) (h8 : F ≤ 8) (r4 : 4 ≤ R) (r8 : R ≤ 8) (hv : PV F R v) : few F R v := by
  obtain ⟨hok, -, -, he, hpr⟩ := hv
  have hs : v 64 = 0 ∨ v 64 = 1 := by have := hok.s; omega
  unfold properB at hpr
  simp only [Bool.and_eq_true, decide_eq_true_eq] at hpr
  obtain ⟨⟨⟨⟨c1, c7⟩, -⟩, hpf⟩, -⟩ := hpr
  have hn := FR_r h4 h8 r4 r8
  have ck : cntB F R v (pieceOfB 1 (v 64)) = 1 := by
    unfold pieceOfB
    rcases hs with z | z
    · rw [if_neg (by omega)]; exact c7
    · rw [if_pos z]; exact c1
  have e0 : (movesL F R v).length = sm (fun i => if isOfB (v i) (v 64) = true then sm (fun j => cstF F R v i j) (F * R).toNat else 0) (F * R).toNat := by
    unfold movesL
    rw [mFrom_sm]
    congr 1; funext i; rw [Int.zero_add]
  have b1 : ∀ i : Nat, i < (F * R).toNat → (if isOfB (v i) (v 64) = true then sm (fun j => cstF F R v i j) (F * R).toNat else 0) ≤ (if isOfB (v i) (v 64) = true then mobF (typF F R v) (s8F F R (v 64) i) else 0) + 10 * (if v i = pieceOfB 1 (v 64) then 1 else 0) := by
    intro i hi
    have ha : 0 ≤ (i : Int) ∧ (i : Int) < F * R := by omega
    by_cases ho : isOfB (v i) (v 64) = true
    · rw [if_pos ho, if_pos ho]
      have hp := hok.p i ha.1 (by omega)
      have hk : kindO (v i) = 1 ∨ (kindO (v i) = 2 ∨ kindO (v i) = 3 ∨ kindO (v i) = 4) ∨ kindO (v i) = 5 ∨ kindO (v i) = 6 := by
        have : v i ≠ 0 := fun z => by rw [z] at ho; simp [isOfB] at ho
        unfold kindO; split <;> omega
      rcases hk with hk | hk | hk | hk
      · have m := mob_king (R := R) h4 h8 ha hk
        have : v i = pieceOfB 1 (v 64) := by
          unfold isOfB kindO at *
          unfold pieceOfB
          split at ho
          · cases ho
          · split at ho
            · simp at ho; split at hk
              · omega
              · rw [if_neg (by omega)]; omega
            · simp at ho; split at hk
              · rw [if_pos (by omega)]; exact hk
              · omega
        rw [if_pos this]; omega
      · have := mob_slide h4 h8 r4 r8 hs ha ho hk; omega
      · have := mob_knight h4 h8 r4 r8 hs ha ho hk; omega
      · have := mob_pawn h4 h8 r4 r8 hs hpf he ha ho hk; omega
    · rw [if_neg ho]; omega
  have b2 := sm_le b1
  rw [sm_add, sm_mul] at b2
  have b3 : sm (fun i : Nat => if isOfB (v i) (v 64) = true then mobF (typF F R v) (s8F F R (v 64) i) else 0) (F * R).toNat ≤ sm (mobF (typF F R v)) 64 := by
    refine sm_inj (bk8 F R (v 64)) fun i hi => ?_
    have ha : 0 ≤ (i : Int) ∧ (i : Int) < F * R := by omega
    obtain ⟨t1, t2, -⟩ := typ_s8 v h4 h8 r4 r8 ha
    by_cases ho : isOfB (v i) (v 64) = true
    · rw [if_pos ho]
      exact .inr ⟨_, t1, t2, Nat.le_refl _⟩
    · rw [if_neg ho]; exact .inl rfl
  have b4 := mob_309 (typF F R v) (fun s _ => typF_5 F R v s) (fun s h z => typF_4 h4 r4 r8 hs hpf h z)
  have b5 : sm (fun i : Nat => if v i = pieceOfB 1 (v 64) then 1 else 0) (F * R).toNat = 1 := by
    unfold cntB at ck
    rw [sumL_sm _ (fun j => by split <;> omega)] at ck
    have e : (fun i : Nat => (if v (0 + (i : Int)) = pieceOfB 1 (v 64) then (1 : Int) else 0).toNat) = fun i : Nat => if v i = pieceOfB 1 (v 64) then 1 else 0 := by
      funext i
      rw [Int.zero_add]
      split <;> rfl
    rw [e] at ck
    omega
  rw [b5] at b2
  show ((movesL F R v).length : Int) ≤ 320
  rw [e0]
  omega
end
