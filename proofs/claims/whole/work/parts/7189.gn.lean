/-! PHASE 3: continuations: the main move -/
section
variable {D : wD} {S : wS} {o : Nat → Nat} {c : cM}
def gwC (c : cM) (b : Int) : Int := if b < 0 then 0 else c.1 35 b
def mnC (c : cM) (b j : Int) : Nat → Int
  | 0 => b
  | d + 1 => mnC c (if gwC c b < c.1 35 j ∨ (c.1 35 j = gwC c b ∧ 0 < c.1 35 j ∧ ahC c j b = true) then j else b) (j + 1) d
theorem q_gamesWithN {post : Int32 → wS → Prop} (h : CC D S o) {i : Int} (hi : -1 ≤ i ∧ i < 1728) (k : post (iI (gwC c i)) (cS S o c)) : wp_X1_gamesWith D post (cS S o c) (o 34) (iI i) := by
  unfold gwC at k
  by_cases q : i < 0
  · rw [if_pos q] at k
    unfold wp_X1_gamesWith wp_X1_gamesWith_0 wp_X1_gamesWith_22 wp_X1_gamesWith_23
    rw [show (0 : Int32) = iI 0 from rfl, iI_lt (by omega) (by omega) (by decide) (by decide)]
    exact ⟨fun _ => k, fun z => absurd q z⟩
  · rw [if_neg q] at k
    exact q_gamesWith h ⟨by omega, hi.2⟩ k
theorem q_mainMoveX1 {post : Int32 → wS → Prop} (h : CC D S o) {l : Nat} (h7 : c.1 17 7 = (l : Int)) (hl : l ≤ 1728) (hg : ∀ i : Int, 0 ≤ i → i < l → 0 ≤ c.1 35 i ∧ c.1 35 i ≤ 1000) (k : post (iI (mnC c (-1) 0 l)) (cS S o c)) : wp_X1_mainMove D post (cS S o c) (o 34) := by
  unfold wp_X1_mainMove wp_X1_mainMove_0
  have loop : ∀ (f d : Nat) (j b : Int), d < f → j + d = l → 0 ≤ j → -1 ≤ b ∧ b < j → post (iI (mnC c b j d)) (cS S o c) → wp_X1_mainMove_4 D post f (cS S o c) (o 34) (iI b) (iI j) := by
    intro f
    induction f with
    | zero => intro d j b hd; omega
    | succ f ih =>
      intro d j b hd hj j0 hb k
      unfold wp_X1_mainMove_4
      refine ⟨o 17, c_r h rfl, (c_m h (by decide)).mpr trivial, c_k h (by decide), ?_⟩
      rw [c_i1 h (by decide) (show ((7 : Nat) : Int) = 7 from rfl), h7, iI_le (by omega) (by omega) (by omega) (by omega)]
      cases d with
      | zero => exact ⟨fun _ => k, fun q => absurd (by omega) q⟩
      | succ d =>
        refine ⟨fun q => absurd q (by omega), fun _ => ?_⟩
        refine q_gamesWith h ⟨j0, by omega⟩ ?_
        refine q_gamesWithN h ⟨hb.1, by omega⟩ ?_
        have gj := hg j j0 (by omega)
        have gb : 0 ≤ gwC c b ∧ gwC c b ≤ 1000 := by
          unfold gwC
          split
          · decide
          · exact hg b (by omega) (by omega)
        unfold mnC at k
        have nx : ∀ t : Int, t = (if gwC c b < c.1 35 j ∨ (c.1 35 j = gwC c b ∧ 0 < c.1 35 j ∧ ahC c j b = true) then j else b) → wp_X1_mainMove_59 D post (wp_X1_mainMove_4 D post f) (cS S o c) (o 34) (iI t) (iI j) := fun t ht => by
          unfold wp_X1_mainMove_59
          intro x1 e1
          rw [e1, show (1 : Int32) = iI 1 from rfl, iI_add]
          refine ih d (j + 1) t (by omega) (by omega) (by omega) (by rw [ht]; split <;> omega) ?_
          rw [ht]; exact k
        unfold wp_X1_mainMove_57
        intro x7 e7
        rw [e7, iI_sub]
        rw [show ((0 : Int32) < iI (c.1 35 j - gwC c b)) = (0 < c.1 35 j - gwC c b) from iI_lt (a := 0) (by decide) (by decide) (by omega) (by omega), show (iI (c.1 35 j - gwC c b) = (0 : Int32)) = (c.1 35 j - gwC c b = 0) from iI_eq (b := 0) (by omega) (by omega) (by decide) (by decide)]
        refine ⟨fun q => nx j (by rw [if_pos (Or.inl (by omega))]), fun q => ⟨fun z => nx b (by rw [if_neg (by omega)]), fun z => ?_⟩⟩
        refine q_gamesWith h ⟨j0, by omega⟩ ?_
        rw [show ((iI (c.1 35 j)) ≤ (0 : Int32)) = (c.1 35 j ≤ 0) from iI_le (b := 0) (by omega) (by omega) (by decide) (by decide)]
        refine ⟨fun q1 => nx b (by rw [if_neg (by omega)]), fun q1 => ?_⟩
        have b0 : 0 ≤ b := by
          by_cases w : b < 0
          · have : gwC c b = 0 := if_pos w
            omega
          · omega
        refine q_letters h ⟨j0, by omega⟩ ?_
        refine q_letters h ⟨b0, by omega⟩ ?_
        refine ⟨fun w => nx b (by rw [if_neg (fun u => u.elim (fun u => by omega) (fun u => by have u := u.2.2; unfold ahC at u; rw [decide_eq_true w] at u; exact absurd u (by decide)))]), fun w => nx j (by rw [if_pos (Or.inr ⟨by omega, by omega, by unfold ahC; rw [decide_eq_false w]; rfl⟩)])⟩
  exact ⟨l + 1, loop _ l 0 (-1) (by omega) (by omega) (by decide) (by decide) k⟩
end
