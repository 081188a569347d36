/-! PHASE 3: numbers and results in a text of moves -/
section
variable {D : wD} {U : wS} {y b : Nat} {L : List Int}
theorem allL_S (f : Int → Bool) (k : Int) (d : Nat) : allL f k (d + 1) = (f k && allL f (k + 1) d) := rfl
theorem allL_0 (f : Int → Bool) (k : Int) : allL f k 0 = true := rfl
def resW (L : List Int) (a e : Int) : Bool := justB L [49, 45, 48] a e || (justB L [48, 45, 49] a e || (justB L [49, 47, 50, 45, 49, 47, 50] a e || justB L [42] a e))
theorem resW_B (L : List Int) (a e : Int) : resW L a e = resB (tx L) a e := by
  unfold resW justB resB halfB
  simp only [show ([49, 45, 48] : List Int).length = 3 from rfl, show ([48, 45, 49] : List Int).length = 3 from rfl, show ([49, 47, 50, 45, 49, 47, 50] : List Int).length = 7 from rfl, show ([42] : List Int).length = 1 from rfl, allL_S, allL_0]
  by_cases h1 : e - a = 1
  · simp [h1]
  · by_cases h3 : e - a = 3
    · simp [h3]
      cases decide (tx L a = 49) <;> cases decide (tx L (a + 1) = 45) <;> cases decide (tx L (a + 2) = 48) <;> cases decide (tx L a = 48) <;> cases decide (tx L (a + 2) = 49) <;> rfl
    · by_cases h7 : e - a = 7
      · simp [h7, Int.add_assoc, Bool.and_assoc]
      · simp [h1, h3, h7]
theorem q_isResultC {post : Int32 → wS → Prop} (hT : SB U b y L) (hc : sN U y < 1000000) (h26 : ST D U (D.2.2.1 26) [49, 45, 48]) (h27 : ST D U (D.2.2.1 27) [48, 45, 49]) (h28 : ST D U (D.2.2.1 28) [49, 47, 50, 45, 49, 47, 50]) (h29 : ST D U (D.2.2.1 29) [42]) {a e : Int} (ha : 0 ≤ a) (he : a ≤ e ∧ e ≤ L.length)
    (k : post (iI (bI (resB (tx L) a e))) U) : wp_X5_isResult D post U b (iI a) (iI e) := by
  rw [← resW_B] at k
  unfold resW at k
  unfold wp_X5_isResult wp_X5_isResult_0 wp_X5_isResult_44 wp_X5_isResult_49
  intro y1 e1
  rw [e1]
  refine q_isJust hT hc h26 ha he ?_
  rw [show (0 : Int32) = iI 0 from rfl, bI_z]
  refine ⟨fun q => ⟨rfl, ?_⟩, fun q y5 e5 => ?_⟩
  · rw [(Bool.not_eq_false _).mp q] at k; exact k
  rw [e5]
  rw [q, Bool.false_or] at k
  refine q_isJust hT hc h27 ha he ?_
  rw [bI_z]
  refine ⟨fun q => ⟨rfl, ?_⟩, fun q y9 e9 => ?_⟩
  · rw [(Bool.not_eq_false _).mp q] at k; exact k
  rw [e9]
  rw [q, Bool.false_or] at k
  refine q_isJust hT hc h28 ha he ?_
  rw [bI_z]
  refine ⟨fun q => ⟨rfl, ?_⟩, fun q y13 e13 => ?_⟩
  · rw [(Bool.not_eq_false _).mp q] at k; exact k
  rw [e13]
  rw [q, Bool.false_or] at k
  refine q_isJust hT hc h29 ha he ?_
  rw [bI_z]
  refine ⟨fun q => ⟨rfl, ?_⟩, fun q => ⟨rfl, ?_⟩⟩
  · rw [q] at k; exact k
  · rw [(Bool.not_eq_false _).mp q] at k; exact k
def inN (g s : Int) : Bool := (decide (1 ≤ g) && decide (g ≤ 3)) && (decide (s = 1) || decide (s = 3))
theorem q_num_77 {post : Int32 → wS → Prop} {g s : Int} (hg : 0 ≤ g ∧ g < 1000000) (hs : 0 ≤ s ∧ s < 1000000) (k : post (iI (bI (inN g s))) U) : wp_X5_isNumber_77 D post U (iI g) (iI s) := by
  unfold wp_X5_isNumber_77 wp_X5_isNumber_103 wp_X5_isNumber_99 wp_X5_isNumber_104
  rw [show (1 : Int32) = iI 1 from rfl, show (3 : Int32) = iI 3 from rfl, show (0 : Int32) = iI 0 from rfl, iI_lt (by omega) (by omega) (by decide) (by decide), iI_lt (by decide) (by decide) (by omega) (by omega), iI_eq (by omega) (by omega) (by decide) (by decide), iI_eq (by omega) (by omega) (by decide) (by decide)]
  unfold inN at k
  refine ⟨fun q => ⟨rfl, ?_⟩, fun q1 => ⟨fun q => ⟨rfl, ?_⟩, fun q2 => ⟨fun q => ⟨rfl, ?_⟩, fun q3 => ⟨fun q => ⟨rfl, ?_⟩, fun q => ⟨rfl, ?_⟩⟩⟩⟩⟩
  · rw [decide_eq_false (show ¬ 1 ≤ g by omega)] at k; exact k
  · rw [decide_eq_false (show ¬ g ≤ 3 by omega), Bool.and_false] at k; exact k
  · rw [decide_eq_true (show 1 ≤ g by omega), decide_eq_true (show g ≤ 3 by omega), decide_eq_true q] at k; exact k
  · rw [decide_eq_false q3, decide_eq_false q, Bool.or_false, Bool.and_false] at k; exact k
  · rw [decide_eq_true (show 1 ≤ g by omega), decide_eq_true (show g ≤ 3 by omega), decide_eq_true q, Bool.or_true] at k; exact k
/-- behind the first dot -/
def nmA (t : Int → Int) (e : Int) (d : Nat) (j g s : Int) : Bool := inN g (s + dtN t e d j) && decide (j + dtN t e d j = e)
def nmB (t : Int → Int) (e : Int) (d : Nat) (j g : Int) : Bool := nmA t e (e - (j + dgN t e d j)).toNat (j + dgN t e d j) (g + dgN t e d j) 0
theorem q_num_A {post : Int32 → wS → Prop} (hT : SB U b y L) (hc : sN U y < 1000000) {e : Int} (he : e ≤ L.length) : ∀ (f d : Nat) (j g s : Int), d < f → j + d = e → 0 ≤ j → 0 ≤ g ∧ g ≤ j → 1 ≤ s ∧ s ≤ j → post (iI (bI (nmA (tx L) e d j g s))) U → wp_X5_isNumber_8 D post f U b (iI e) (iI g) (iI s) (iI j) := by
  have hl : L.length < 1000000 := Nat.lt_of_le_of_lt hT.2.1.2.2.2 hc
  intro f
  induction f with
  | zero => intro d j g s hd; omega
  | succ f ih =>
    intro d j g s hd hj j0 hg hs k
    unfold wp_X5_isNumber_8
    rw [iI_le (by omega) (by omega) (by omega) (by omega)]
    unfold nmA at k
    cases d with
    | zero =>
      refine ⟨fun _ => q_num_77 (by omega) (by omega) ?_, fun q => absurd (by omega) q⟩
      unfold dtN at k
      rw [Int.add_zero, Int.add_zero, decide_eq_true (show j = e by omega), Bool.and_true] at k
      exact k
    | succ d =>
      refine ⟨fun q => absurd q (by omega), fun _ => ?_⟩
      refine q_lenB hT ?_
      rw [iI_le (by omega) (by omega) (by omega) (by omega)]
      refine ⟨fun q => absurd q (by omega), fun _ => ?_⟩
      refine q_charB hT hc (by omega) ?_
      have r1 := tx_r hT.2.2.2.2.1 j
      rw [tx_in, show (46 : Int32) = iI 46 from rfl, show (48 : Int32) = iI 48 from rfl, show (57 : Int32) = iI 57 from rfl, show (1 : Int32) = iI 1 from rfl, show (0 : Int32) = iI 0 from rfl, iI_eq (by omega) (by omega) (by decide) (by decide), iI_lt (by omega) (by omega) (by decide) (by decide), iI_lt (by decide) (by decide) (by omega) (by omega), iI_eq (by omega) (by omega) (by decide) (by decide)]
      unfold dtN at k
      have no : tx L j ≠ 46 → wp_X5_isNumber_69 D post U := fun z => by
        rw [if_neg (fun q => z q.2), decide_eq_false (show ¬ j + 0 = e by omega), Bool.and_false] at k
        unfold wp_X5_isNumber_69
        exact ⟨rfl, k⟩
      refine ⟨fun q => ⟨fun _ => no q, fun _ => ⟨fun _ => no q, fun _ => ⟨fun _ => no q, fun z => absurd z (by omega)⟩⟩⟩, fun q x e1 => ?_⟩
      rw [if_pos ⟨by omega, q⟩] at k
      unfold wp_X5_isNumber_71
      intro x1 e2
      rw [e1, e2, show (1 : Int32) = iI 1 from rfl, iI_add, iI_add]
      refine ih d (j + 1) g (s + 1) (by omega) (by omega) (by omega) (by omega) (by omega) ?_
      unfold nmA
      rw [show s + 1 + dtN (tx L) e d (j + 1) = s + (1 + dtN (tx L) e d (j + 1)) by omega, show j + 1 + dtN (tx L) e d (j + 1) = j + (1 + dtN (tx L) e d (j + 1)) by omega]
      exact k
theorem q_num_B {post : Int32 → wS → Prop} (hT : SB U b y L) (hc : sN U y < 1000000) {e : Int} (he : e ≤ L.length) : ∀ (f d : Nat) (j g : Int), d < f → j + d = e → 0 ≤ j → 0 ≤ g ∧ g ≤ j → post (iI (bI (nmB (tx L) e d j g))) U → wp_X5_isNumber_8 D post f U b (iI e) (iI g) (iI 0) (iI j) := by
  have hl : L.length < 1000000 := Nat.lt_of_le_of_lt hT.2.1.2.2.2 hc
  intro f
  induction f with
  | zero => intro d j g hd; omega
  | succ f ih =>
    intro d j g hd hj j0 hg k
    unfold wp_X5_isNumber_8
    rw [iI_le (by omega) (by omega) (by omega) (by omega)]
    unfold nmB at k
    cases d with
    | zero =>
      refine ⟨fun _ => q_num_77 (by omega) (by decide) ?_, fun q => absurd (by omega) q⟩
      unfold dgN at k
      rw [Int.add_zero, Int.add_zero, show (e - j).toNat = 0 by omega] at k
      unfold nmA dtN at k
      rw [Int.add_zero, Int.add_zero, decide_eq_true (show j = e by omega), Bool.and_true] at k
      exact k
    | succ d =>
      refine ⟨fun q => absurd q (by omega), fun _ => ?_⟩
      refine q_lenB hT ?_
      rw [iI_le (by omega) (by omega) (by omega) (by omega)]
      refine ⟨fun q => absurd q (by omega), fun _ => ?_⟩
      refine q_charB hT hc (by omega) ?_
      have r1 := tx_r hT.2.2.2.2.1 j
      rw [tx_in, show (46 : Int32) = iI 46 from rfl, show (48 : Int32) = iI 48 from rfl, show (57 : Int32) = iI 57 from rfl, show (1 : Int32) = iI 1 from rfl, show (0 : Int32) = iI 0 from rfl, iI_eq (by omega) (by omega) (by decide) (by decide), iI_lt (by omega) (by omega) (by decide) (by decide), iI_lt (by decide) (by decide) (by omega) (by omega)]
      unfold dgN at k
      have nd : ¬ (48 ≤ tx L j ∧ tx L j ≤ 57) → post (iI (bI (nmA (tx L) e (d + 1) j g 0))) U := fun z => by
        rw [if_neg (fun q => z (by have := q.2; unfold digB at this; simpa using this)), Int.add_zero, Int.add_zero, show (e - j).toNat = d + 1 by omega] at k
        exact k
      have no : ¬ (48 ≤ tx L j ∧ tx L j ≤ 57) → tx L j ≠ 46 → wp_X5_isNumber_69 D post U := fun z z2 => by
        have k := nd z
        unfold nmA dtN at k
        rw [if_neg (fun q => z2 q.2), decide_eq_false (show ¬ j + 0 = e by omega), Bool.and_false] at k
        unfold wp_X5_isNumber_69
        exact ⟨rfl, k⟩
      refine ⟨fun q => ⟨fun z => no (by omega) q, fun z1 => ⟨fun z => no (by omega) q, fun z2 => ⟨fun z => absurd rfl z, fun _ x e1 => ?_⟩⟩⟩, fun q x e1 => ?_⟩
      · rw [if_pos ⟨by omega, by unfold digB; rw [decide_eq_true (show 48 ≤ tx L j by omega), decide_eq_true (show tx L j ≤ 57 by omega)]; rfl⟩] at k
        unfold wp_X5_isNumber_71
        intro x1 e2
        rw [e1, e2, show (1 : Int32) = iI 1 from rfl, iI_add, iI_add]
        refine ih d (j + 1) (g + 1) (by omega) (by omega) (by omega) (by omega) ?_
        unfold nmB
        rw [show j + 1 + dgN (tx L) e d (j + 1) = j + (1 + dgN (tx L) e d (j + 1)) by omega, show g + 1 + dgN (tx L) e d (j + 1) = g + (1 + dgN (tx L) e d (j + 1)) by omega]
        exact k
      · have k := nd (by omega)
        unfold nmA dtN at k
        rw [if_pos ⟨by omega, q⟩] at k
        unfold wp_X5_isNumber_71
        intro x1 e2
        rw [e1, e2, show (1 : Int32) = iI 1 from rfl, iI_add, iI_add]
        refine q_num_A hT hc he f d (j + 1) g (0 + 1) (by omega) (by omega) (by omega) (by omega) (by omega) ?_
        unfold nmA
        rw [show 0 + 1 + dtN (tx L) e d (j + 1) = 0 + (1 + dtN (tx L) e d (j + 1)) by omega, show j + 1 + dtN (tx L) e d (j + 1) = j + (1 + dtN (tx L) e d (j + 1)) by omega]
        exact k
theorem nmB_num (t : Int → Int) (a e : Int) : nmB t e (e - a).toNat a 0 = numB t a e := by
  unfold nmB nmA inN numB
  rw [Int.zero_add, Int.zero_add]
theorem q_isNumberC {post : Int32 → wS → Prop} (hT : SB U b y L) (hc : sN U y < 1000000) {a e : Int} (ha : 0 ≤ a) (he : a ≤ e ∧ e ≤ L.length) (k : post (iI (bI (numB (tx L) a e))) U) : wp_X5_isNumber D post U b (iI a) (iI e) := by
  unfold wp_X5_isNumber wp_X5_isNumber_0
  refine ⟨(e - a).toNat + 1, q_num_B hT hc he.2 ((e - a).toNat + 1) (e - a).toNat a 0 (by omega) (by omega) ha (by omega) ?_⟩
  rw [nmB_num]; exact k
end
