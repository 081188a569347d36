/-! PHASE 3: the reader's tokens -/
section
variable {D : wD} {U : wS} {y b : Nat} {L W : List Int}
def bordB (c : Int) : Bool := decide (c = 32) || brkB c
theorem q_isBorder {post : Int32 → wS → Prop} {x : Int} (hx : i32 x) (k : post (iI (bI (bordB x))) U) : wp_X5_isBorder D post U (iI x) := by
  unfold wp_X5_isBorder wp_X5_isBorder_0 wp_X5_isBorder_30 wp_X5_isBorder_35
  rw [show (32 : Int32) = iI 32 from rfl, show (40 : Int32) = iI 40 from rfl, show (41 : Int32) = iI 41 from rfl, show (123 : Int32) = iI 123 from rfl, show (125 : Int32) = iI 125 from rfl,
    iI_eq hx.1 hx.2 (by decide) (by decide), iI_eq hx.1 hx.2 (by decide) (by decide), iI_eq hx.1 hx.2 (by decide) (by decide), iI_eq hx.1 hx.2 (by decide) (by decide), iI_eq hx.1 hx.2 (by decide) (by decide)]
  unfold bordB brkB at k
  refine ⟨fun q => ⟨rfl, ?_⟩, fun q1 => ⟨fun q => ⟨rfl, ?_⟩, fun q2 => ⟨fun q => ⟨rfl, ?_⟩, fun q3 => ⟨fun q => ⟨rfl, ?_⟩, fun q4 => ⟨fun q5 => ⟨rfl, ?_⟩, fun q => ⟨rfl, ?_⟩⟩⟩⟩⟩⟩
  · rw [q] at k; exact k
  · rw [q] at k; exact k
  · rw [q] at k; exact k
  · rw [q] at k; exact k
  · rw [decide_eq_false q1, decide_eq_false q2, decide_eq_false q3, decide_eq_false q4, decide_eq_false q5] at k; exact k
  · rw [q] at k; exact k
def justB (L W : List Int) (a e : Int) : Bool := decide (e - a = W.length) && allL (fun k => decide (tx L (a + k) = W.getD k.toNat 0)) 0 W.length
theorem tx_in {L : List Int} {a : Int} : L.getD a.toNat 0 = tx L a := rfl
theorem q_isJust {post : Int32 → wS → Prop} (hT : SB U b y L) (hc : sN U y < 1000000) {s : Nat} (hW : ST D U s W) {a e : Int} (ha : 0 ≤ a) (he : a ≤ e ∧ e ≤ L.length) (k : post (iI (bI (justB L W a e))) U) : wp_X5_isJust D post U b (iI a) (iI e) s := by
  have hl : L.length < 1000000 := Nat.lt_of_le_of_lt hT.2.1.2.2.2 hc
  have hw := hW.2.2.1
  unfold wp_X5_isJust wp_X5_isJust_0
  rw [show (0 : Int32) = iI 0 from rfl, iI_lt (by omega) (by omega) (by decide) (by decide)]
  refine ⟨fun q => absurd q (by omega), fun _ => ?_⟩
  refine q_lenB hT ?_
  rw [iI_lt (by omega) (by omega) (by omega) (by omega)]
  refine ⟨fun q => absurd q (by omega), fun _ => ?_⟩
  refine q_lenS hW ?_
  rw [iI_sub, iI_eq (by omega) (by omega) (by omega) (by omega)]
  unfold justB at k
  refine ⟨fun q => ⟨W.length + 1, ?_⟩, fun q => ?_⟩
  · rw [decide_eq_true q, Bool.true_and] at k
    have loop : ∀ (f d : Nat) (j : Int), d < f → j + d = W.length → 0 ≤ j → post (iI (bI (allL (fun k => decide (tx L (a + k) = W.getD k.toNat 0)) j d))) U → wp_X5_isJust_27 D post f U b (iI a) s (iI j) := by
      intro f
      induction f with
      | zero => intro d j hd; omega
      | succ f ih =>
        intro d j hd hj j0 k
        unfold wp_X5_isJust_27
        refine q_lenS hW ?_
        rw [iI_le (by omega) (by omega) (by omega) (by omega)]
        cases d with
        | zero => exact ⟨fun _ => ⟨rfl, k⟩, fun q => absurd (by omega) q⟩
        | succ d =>
          refine ⟨fun q => absurd q (by omega), fun _ => ?_⟩
          refine q_lenB hT ?_
          rw [iI_add, iI_le (by omega) (by omega) (by omega) (by omega)]
          refine ⟨fun q => absurd q (by omega), fun _ => ?_⟩
          refine q_charB hT hc (by omega) ?_
          refine q_charS hW (by omega) ?_
          have r1 := tx_r hT.2.2.2.2.1 (a + j)
          have r2 := getD_b hW.2.2.2.2 (j := j.toNat) (by omega)
          rw [tx_in, iI_eq (by omega) (by omega) (by omega) (by omega)]
          unfold allL at k
          refine ⟨fun q x e => ?_, fun q => ⟨rfl, ?_⟩⟩
          · rw [decide_eq_true q, Bool.true_and] at k
            rw [e, show (1 : Int32) = iI 1 from rfl, iI_add]
            exact ih d (j + 1) (by omega) (by omega) (by omega) k
          · rw [decide_eq_false q] at k
            exact k
    exact loop (W.length + 1) W.length 0 (by omega) (by omega) (by decide) k
  · rw [decide_eq_false q] at k
    exact ⟨rfl, k⟩
/-- the end of a note or word -/
theorem q_eot_33 {post : Int32 → wS → Prop} (hT : SB U b y L) (hc : sN U y < 1000000) : ∀ (f d : Nat) (j : Int), d < f → j + d = L.length → 0 ≤ j → post (iI (nEnd (tx L) L.length d j + 1)) U → wp_X5_endOfToken_33 D post f U b (iI L.length) (iI j) := by
  have hl : L.length < 1000000 := Nat.lt_of_le_of_lt hT.2.1.2.2.2 hc
  intro f
  induction f with
  | zero => intro d j hd; omega
  | succ f ih =>
    intro d j hd hj j0 k
    unfold wp_X5_endOfToken_33
    rw [iI_le (by omega) (by omega) (by omega) (by omega), show (1 : Int32) = iI 1 from rfl, iI_add]
    cases d with
    | zero =>
      refine ⟨fun _ => ?_, fun q => absurd (by omega) q⟩
      unfold nEnd at k
      rw [show ((L.length : Nat) : Int) = j by omega]; exact k
    | succ d =>
      refine ⟨fun q => absurd q (by omega), fun _ => ?_⟩
      refine q_charB hT hc (by omega) ?_
      have r1 := tx_r hT.2.2.2.2.1 j
      rw [tx_in, show (125 : Int32) = iI 125 from rfl, iI_eq (by omega) (by omega) (by decide) (by decide)]
      unfold nEnd at k
      refine ⟨fun q x e => ?_, fun q => ?_⟩
      · rw [if_neg (by omega)] at k
        rw [e, iI_add]
        exact ih d (j + 1) (by omega) (by omega) (by omega) k
      · rw [if_pos (Or.inr q)] at k
        rw [iI_add]; exact k
theorem bord_or (c : Int) : (bordB c = true) ↔ c = 32 ∨ brkB c = true := by unfold bordB; simp
theorem q_eot_81 {post : Int32 → wS → Prop} (hT : SB U b y L) (hc : sN U y < 1000000) : ∀ (f d : Nat) (j : Int), d < f → j + d = L.length → 0 ≤ j → post (iI (wEnd (tx L) L.length d j)) U → wp_X5_endOfToken_81 D post f U b (iI L.length) (iI j) := by
  have hl : L.length < 1000000 := Nat.lt_of_le_of_lt hT.2.1.2.2.2 hc
  intro f
  induction f with
  | zero => intro d j hd; omega
  | succ f ih =>
    intro d j hd hj j0 k
    unfold wp_X5_endOfToken_81 wp_X5_endOfToken_105
    rw [iI_le (by omega) (by omega) (by omega) (by omega)]
    cases d with
    | zero => exact ⟨fun _ => k, fun q => absurd (by omega) q⟩
    | succ d =>
      refine ⟨fun q => absurd q (by omega), fun _ => ?_⟩
      refine q_charB hT hc (by omega) ?_
      have r1 := tx_r hT.2.2.2.2.1 j
      rw [tx_in]
      refine q_isBorder (by constructor <;> omega) ?_
      rw [show (0 : Int32) = iI 0 from rfl, bI_z]
      unfold wEnd at k
      refine ⟨fun q => ?_, fun q x e => ?_⟩
      · rw [if_pos (Or.inr ((bord_or _).mp ((Bool.not_eq_false _).mp q)))] at k
        exact k
      · have nq : ¬ (tx L j = 32 ∨ brkB (tx L j) = true) := fun z => by rw [(bord_or _).mpr z] at q; exact absurd q (by decide)
        rw [if_neg (fun z => z.elim (fun z => absurd z (by omega)) nq)] at k
        rw [e, show (1 : Int32) = iI 1 from rfl, iI_add]
        exact ih d (j + 1) (by omega) (by omega) (by omega) k
/-- where a token ends -/
def eotB (L : List Int) (a : Int) : Int := if tx L a = 123 then nEnd (tx L) L.length ((L.length : Int) - (a + 1)).toNat (a + 1) + 1 else if bordB (tx L a) = true then a + 1 else wEnd (tx L) L.length ((L.length : Int) - (a + 1)).toNat (a + 1)
theorem q_endOfToken {post : Int32 → wS → Prop} (hT : SB U b y L) (hc : sN U y < 1000000) {a : Int} (ha : 0 ≤ a ∧ a < L.length) (k : post (iI (eotB L a)) U) : wp_X5_endOfToken D post U b (iI a) := by
  have hl : L.length < 1000000 := Nat.lt_of_le_of_lt hT.2.1.2.2.2 hc
  unfold wp_X5_endOfToken wp_X5_endOfToken_0
  refine q_lenB hT ?_
  rw [show (0 : Int32) = iI 0 from rfl, iI_lt (by omega) (by omega) (by decide) (by decide), iI_lt (by omega) (by omega) (by omega) (by omega)]
  refine ⟨fun q => absurd q (by omega), fun _ => ⟨fun _ => ?_, fun q => absurd ha.2 q⟩⟩
  refine q_charB hT hc ha ?_
  have r1 := tx_r hT.2.2.2.2.1 a
  rw [tx_in, show (123 : Int32) = iI 123 from rfl, iI_eq (by omega) (by omega) (by decide) (by decide), show (1 : Int32) = iI 1 from rfl, iI_add]
  unfold eotB at k
  refine ⟨fun q => ?_, fun q x e => ?_⟩
  · rw [if_neg q] at k
    refine q_isBorder (by constructor <;> omega) ?_
    rw [bI_z]
    refine ⟨fun q1 x e => ?_, fun q1 => ?_⟩
    · rw [if_neg (by rw [q1]; decide)] at k
      rw [e]
      exact ⟨_, q_eot_81 hT hc (((L.length : Int) - (a + 1)).toNat + 1) ((L.length : Int) - (a + 1)).toNat (a + 1) (by omega) (by omega) (by omega) k⟩
    · rw [if_pos ((Bool.not_eq_false _).mp q1)] at k
      exact k
  · rw [if_pos q] at k
    rw [e]
    exact ⟨_, q_eot_33 hT hc (((L.length : Int) - (a + 1)).toNat + 1) ((L.length : Int) - (a + 1)).toNat (a + 1) (by omega) (by omega) (by omega) k⟩
end
