/-! PHASE 4: the class's queue of decided positions -/
/-- Black's moves that count, as a test -/
def lgB (F kd w b p u : Int) : Bool := !decide (u = b) && nearB F b u && !nearB F w u && !decide (u = p) && !strkB F kd p u w
def cpB (F w b p : Int) : Bool := !decide (p = b) && nearB F b p && !nearB F w p
/-- the decided position i has told those that lead to it from the square b -/
def dnB (t : eT) (D : Int → Int → Int → Bool) (i b : Int) : Bool := anyL (fun j => decide (t.1 1 j = i) && D j b 2) 0 t.2.toNat
def mvB (F N kd w b p : Int) : Int := if cpB F w b p = true then 100 else sumL (fun u => if lgB F kd w b p u = true then 1 else 0) 0 N.toNat
def dnS (F N kd w b p : Int) (t : eT) (D : Int → Int → Int → Bool) : Int := sumL (fun u => if (lgB F kd w b p u && dnB t D (eIx 1 w u p) b) = true then 1 else 0) 0 N.toNat
/-- how many places are decided -/
def vlB (N i : Int) : Bool := decide (0 ≤ i) && decide (i < 31250) && decide (0 ≤ dW i) && decide (dW i < N) && decide (0 ≤ dB i) && decide (dB i < N) && decide (0 ≤ dP i) && decide (dP i < N)
def nmE (N kd : Int) (e : xM) : Int := sumL (fun i => if (vlB N i && decide (0 ≤ valE kd e i)) = true then 1 else 0) 0 31250
abbrev QA (N kd : Int) (t : eT) : Prop := (0 ≤ t.2 ∧ t.2 ≤ 31250) ∧ (∀ j, 0 ≤ j → j < t.2 → VIx N (t.1 1 j) ∧ 0 ≤ valE kd t.1 (t.1 1 j)) ∧
  (∀ j k, 0 ≤ j → j < k → k < t.2 → t.1 1 j ≠ t.1 1 k ∧ valE kd t.1 (t.1 1 j) ≤ valE kd t.1 (t.1 1 k)) ∧ (∀ i, VIx N i → 0 ≤ valE kd t.1 i → ∃ j, 0 ≤ j ∧ j < t.2 ∧ t.1 1 j = i) ∧ t.2 = nmE N kd t.1
section
variable {F N kd : Int} {t : eT} {D D' : Int → Int → Int → Bool}
theorem vlB_iff {i : Int} : vlB N i = true ↔ VIx N i := by
  unfold vlB
  simp only [Bool.and_eq_true, decide_eq_true_eq]
  constructor
  · rintro ⟨⟨⟨⟨⟨⟨⟨a, b⟩, c⟩, d⟩, e⟩, f⟩, g⟩, h⟩; exact ⟨⟨a, b⟩, ⟨c, d⟩, ⟨e, f⟩, g, h⟩
  · rintro ⟨⟨a, b⟩, ⟨c, d⟩, ⟨e, f⟩, g, h⟩; exact ⟨⟨⟨⟨⟨⟨⟨a, b⟩, c⟩, d⟩, e⟩, f⟩, g⟩, h⟩
theorem lg_iff {w b p u : Int} (hu : 0 ≤ u ∧ u < N) : lgB F kd w b p u = true ↔ legE F N kd w b p u := by
  unfold lgB
  simp only [Bool.and_eq_true, Bool.not_eq_true', decide_eq_false_iff_not]
  constructor
  · rintro ⟨⟨⟨⟨a, b⟩, c⟩, d⟩, e⟩; exact ⟨hu, a, b, c, d, e⟩
  · rintro ⟨-, a, b, c, d, e⟩; exact ⟨⟨⟨⟨a, b⟩, c⟩, d⟩, e⟩
theorem cp_iff {w b p : Int} : cpB F w b p = true ↔ capE F w b p := by
  unfold cpB
  simp only [Bool.and_eq_true, Bool.not_eq_true', decide_eq_false_iff_not]
  constructor
  · rintro ⟨⟨a, b⟩, c⟩; exact ⟨a, b, c⟩
  · rintro ⟨a, b, c⟩; exact ⟨⟨a, b⟩, c⟩
theorem dn_iff {i b : Int} (h : 0 ≤ t.2) : dnB t D i b = true ↔ ∃ j, 0 ≤ j ∧ j < t.2 ∧ t.1 1 j = i ∧ D j b 2 = true := by
  unfold dnB
  rw [anyL_iff]
  simp only [Bool.and_eq_true, decide_eq_true_eq]
  constructor
  · rintro ⟨j, a, b, c, d⟩; exact ⟨j, a, by omega, c, d⟩
  · rintro ⟨j, a, b, c, d⟩; exact ⟨j, a, by omega, c, d⟩
/-- one place more, in a sum of marks -/
theorem sum_one {f g : Int → Int} {q : Int} : ∀ (d : Nat) (k : Int), (∀ j, k ≤ j → j < k + d → j ≠ q → f j = g j) → k ≤ q → q < k + d → sumL f k d + g q = sumL g k d + f q
  | 0, k, _, h1, h2 => by omega
  | d + 1, k, h, h1, h2 => by
    unfold sumL
    by_cases c : k = q
    · rw [c]
      have : sumL f (q + 1) d = sumL g (q + 1) d := sumL_congr _ _ fun j j0 j1 => h j (by omega) (by omega) (by omega)
      omega
    · have := sum_one (f := f) (g := g) (q := q) d (k + 1) (fun j j0 j1 j2 => h j (by omega) (by omega) j2) (by omega) (by omega)
      have := h k (by omega) (by omega) c
      omega
/-- marks fewer than places leave one unmarked -/
theorem sum_all {p q : Int → Bool} : ∀ (d : Nat) (k : Int), (∀ j, k ≤ j → j < k + d → q j = true → p j = true) → sumL (fun j => if p j = true then 1 else 0) k d = sumL (fun j => if q j = true then 1 else 0) k d → ∀ j, k ≤ j → j < k + d → p j = true → q j = true
  | 0, k, _, _, j, h1, h2, _ => by omega
  | d + 1, k, h, e, j, h1, h2, h3 => by
    unfold sumL at e
    have le := sum_le (f := fun j => if q j = true then (1 : Int) else 0) (g := fun j => if p j = true then 1 else 0) d (k + 1) (fun j j0 j1 => by
      cases c : q j
      · simp; split <;> omega
      · rw [h j (by omega) (by omega) c]; simp)
    have hk := h k (by omega) (by omega)
    cases hq : q k
    · cases hp : p k
      · rw [hq, hp] at e
        by_cases c : j = k
        · rw [c, hp] at h3; exact nomatch h3
        · exact sum_all d (k + 1) (fun j j0 j1 => h j (by omega) (by omega)) (by simp at e; omega) j (by omega) (by omega) h3
      · rw [hq, hp] at e; simp at e; omega
    · rw [hq, hk hq] at e
      by_cases c : j = k
      · rw [c]; exact hq
      · exact sum_all d (k + 1) (fun j j0 j1 => h j (by omega) (by omega)) (by simp at e; omega) j (by omega) (by omega) h3
theorem sum_01 {p : Int → Bool} (d : Nat) (k : Int) : 0 ≤ sumL (fun j => if p j = true then (1 : Int) else 0) k d ∧ sumL (fun j => if p j = true then (1 : Int) else 0) k d ≤ d := sumL_r (fun j => by split <;> omega) k d
theorem sum_pos {p : Int → Bool} {q : Int} (hq : p q = true) : ∀ (d : Nat) (k : Int), k ≤ q → q < k + d → 1 ≤ sumL (fun j => if p j = true then (1 : Int) else 0) k d
  | 0, k, h1, h2 => by omega
  | d + 1, k, h1, h2 => by
    unfold sumL
    have g := sum_01 (p := p) d (k + 1)
    by_cases c : k = q
    · rw [c, if_pos hq]; rw [c] at g; omega
    · have := sum_pos hq d (k + 1) (by omega) (by omega)
      split <;> omega
/-- a place is decided -/
theorem win_val {i v : Int} (hq : t.2 < 31250) (j : Int) : valE kd (winE kd i v t).1 j = if j = i then v else valE kd t.1 j := by
  unfold winE
  rw [if_pos hq]
  unfold valE setE
  dsimp only
  rw [up_ne _ (Or.inl (by decide))]
  by_cases c : j = i
  · rw [if_pos c, c, up_at]
  · rw [if_neg c, up_ne _ (Or.inr (by omega))]
theorem win_qu {i v : Int} (hq : t.2 < 31250) (j : Int) : (winE kd i v t).1 1 j = if j = t.2 then i else t.1 1 j := by
  unfold winE
  rw [if_pos hq]
  unfold setE
  dsimp only
  by_cases c : j = t.2
  · rw [if_pos c, c, up_at]
  · rw [if_neg c, up_ne _ (Or.inr c), up_ne _ (Or.inl (by decide))]
theorem win_ct {i v : Int} (hq : t.2 < 31250) : (winE kd i v t).1 2 = t.1 2 := by
  unfold winE
  rw [if_pos hq]
  unfold setE
  dsimp only
  rw [up_r _ _ _ rfl, up_r _ _ _ rfl]
theorem win_n {i v : Int} (hq : t.2 < 31250) : (winE kd i v t).2 = t.2 + 1 := by unfold winE; rw [if_pos hq]
/-- there is room in the queue for what isn't decided -/
theorem QA.room (h : QA N kd t) {i : Int} (hi : VIx N i) (hv : valE kd t.1 i < 0) : t.2 < 31250 := by
  rw [h.2.2.2.2]
  unfold nmE
  have e := sum_one (f := fun i => if (vlB N i && decide (0 ≤ valE kd t.1 i)) = true then (1 : Int) else 0) (g := fun j => if (decide (j = i) || (vlB N j && decide (0 ≤ valE kd t.1 j))) = true then (1 : Int) else 0) (q := i) 31250 0 (fun j _ _ c => by rw [decide_eq_false c, Bool.false_or]) hi.1.1 (by have := hi.1.2; omega)
  have g := sum_01 (p := fun j => decide (j = i) || (vlB N j && decide (0 ≤ valE kd t.1 j))) 31250 0
  have n0 : decide (0 ≤ valE kd t.1 i) = false := decide_eq_false (by omega)
  rw [n0, Bool.and_false, decide_eq_true rfl, Bool.true_or, if_pos rfl, if_neg (by simp)] at e
  omega
theorem QA.win (h : QA N kd t) {i v : Int} (hi : VIx N i) (hv : valE kd t.1 i < 0) (v0 : 0 ≤ v) (hm : ∀ j, 0 ≤ j → j < t.2 → valE kd t.1 (t.1 1 j) ≤ v) : QA N kd (winE kd i v t) := by
  have hq := h.room hi hv
  have ne : ∀ j, 0 ≤ j → j < t.2 → t.1 1 j ≠ i := fun j j0 j1 z => by
    have := (h.2.1 j j0 j1).2
    rw [z] at this; omega
  refine ⟨by rw [win_n hq]; omega, fun j j0 j1 => ?_, fun j k j0 j1 j2 => ?_, fun x hx x0 => ?_, ?_⟩
  · rw [win_n hq] at j1
    rw [win_val hq, win_qu hq]
    by_cases c : j = t.2
    · rw [if_pos c, if_pos rfl]; exact ⟨hi, v0⟩
    · rw [if_neg c, if_neg (ne j j0 (by omega))]; exact h.2.1 j j0 (by omega)
  · rw [win_n hq] at j2
    rw [win_val hq, win_val hq, win_qu hq, win_qu hq, if_neg (by omega : ¬ j = t.2), if_neg (ne j j0 (by omega))]
    by_cases c : k = t.2
    · rw [if_pos c, if_pos rfl]; exact ⟨ne j j0 (by omega), hm j j0 (by omega)⟩
    · rw [if_neg c, if_neg (ne k (by omega) (by omega))]; exact h.2.2.1 j k j0 j1 (by omega)
  · rw [win_val hq] at x0
    by_cases c : x = i
    · exact ⟨t.2, h.1.1, by rw [win_n hq]; omega, by rw [win_qu hq, if_pos rfl, c]⟩
    · rw [if_neg c] at x0
      obtain ⟨j, j0, j1, j2⟩ := h.2.2.2.1 x hx x0
      exact ⟨j, j0, by rw [win_n hq]; omega, by rw [win_qu hq, if_neg (by omega)]; exact j2⟩
  · rw [win_n hq, h.2.2.2.2]
    unfold nmE
    have e := sum_one (f := fun i => if (vlB N i && decide (0 ≤ valE kd t.1 i)) = true then (1 : Int) else 0) (g := fun j => if (vlB N j && decide (0 ≤ valE kd (winE kd i v t).1 j)) = true then (1 : Int) else 0) (q := i) 31250 0 (fun j _ _ c => by rw [win_val hq, if_neg c]) hi.1.1 (by have := hi.1.2; omega)
    have n0 : decide (0 ≤ valE kd t.1 i) = false := decide_eq_false (by omega)
    have n1 : decide (0 ≤ valE kd (winE kd i v t).1 i) = true := decide_eq_true (by rw [win_val hq, if_pos rfl]; exact v0)
    rw [n0, n1, vlB_iff.mpr hi, Bool.and_false, Bool.and_true, if_pos rfl, if_neg (by simp)] at e
    omega
end
