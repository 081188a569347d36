/-! PHASE 3: continuations: how many games, how many moves -/
section
variable {D : wD} {S : wS} {o : Nat → Nat} {c : cM}
theorem q_gamesWith {post : Int32 → wS → Prop} (h : CC D S o) {i : Int} (hi : 0 ≤ i ∧ i < 1728) (k : post (iI (c.1 35 i)) (cS S o c)) : wp_X1_gamesWith D post (cS S o c) (o 34) (iI i) := by
  have n35 : sN (cS S o c) (o 35) = 1728 := c_n h (by decide)
  unfold wp_X1_gamesWith wp_X1_gamesWith_0 wp_X1_gamesWith_23
  rw [show (0 : Int32) = iI 0 from rfl, iI_lt (by omega) (by omega) (by decide) (by decide)]
  refine ⟨fun q => absurd q (by omega), fun _ => ⟨o 35, c_r h rfl, (c_m h (by decide)).mpr trivial, c_k h (by decide), ?_⟩⟩
  rw [n35, show Int32.ofNat 1728 = iI 1728 from rfl, iI_le (by decide) (by decide) (by omega) (by omega)]
  refine ⟨fun q => absurd q (by omega), fun _ => ⟨o 35, c_r h rfl, (c_m h (by decide)).mpr trivial, c_k h (by decide), by rw [n35]; exact iI_in (by omega) (by omega) (by omega), ?_⟩⟩
  rw [c_i h (by decide) hi.1 (by omega)]
  exact k
theorem q_numberX1 {post : Int32 → wS → Prop} (h : CC D S o) {l : Nat} (h7 : c.1 17 7 = (l : Int)) (hl : l ≤ 1728) (hg : ∀ i : Int, 0 ≤ i → i < l → i32 (c.1 35 i)) (k : post (iI (sumL (fun i => if 0 < c.1 35 i then 1 else 0) 0 l)) (cS S o c)) : wp_X1_number D post (cS S o c) (o 34) := by
  unfold wp_X1_number wp_X1_number_0
  have loop : ∀ (f d : Nat) (j e : Int), d < f → j + d = l → 0 ≤ j → post (iI (e + sumL (fun i => if 0 < c.1 35 i then 1 else 0) j d)) (cS S o c) → wp_X1_number_4 D post f (cS S o c) (o 34) (iI e) (iI j) := by
    intro f
    induction f with
    | zero => intro d j e hd; omega
    | succ f ih =>
      intro d j e hd hj j0 k
      unfold wp_X1_number_4
      refine ⟨o 17, c_r h rfl, (c_m h (by decide)).mpr trivial, c_k h (by decide), ?_⟩
      rw [c_i1 h (by decide) (show ((7 : Nat) : Int) = 7 from rfl), h7, iI_le (by omega) (by omega) (by omega) (by omega)]
      cases d with
      | zero =>
        refine ⟨fun _ => ?_, fun q => absurd (by omega) q⟩
        have : sumL (fun i => if 0 < c.1 35 i then (1 : Int) else 0) j 0 = 0 := rfl
        rw [this, Int.add_zero] at k
        exact k
      | succ d =>
        refine ⟨fun q => absurd q (by omega), fun _ => ?_⟩
        refine q_gamesWith h ⟨j0, by omega⟩ ?_
        have gj := hg j j0 (by omega)
        have nx : ∀ t : Int, t = (if 0 < c.1 35 j then 1 else 0) → wp_X1_number_29 D post (wp_X1_number_4 D post f) (cS S o c) (o 34) (iI j) (iI e) (iI t) := fun t ht => by
          unfold wp_X1_number_29
          intro x1 e1 x2 e2
          rw [e1, e2, show (1 : Int32) = iI 1 from rfl, iI_add, iI_add]
          refine ih d (j + 1) (e + t) (by omega) (by omega) (by omega) ?_
          rw [sumL_S, ← ht] at k
          rw [Int.add_assoc]; exact k
        rw [show (0 : Int32) = iI 0 from rfl, iI_le gj.1 gj.2 (by decide) (by decide)]
        exact ⟨fun q => nx 0 (by rw [if_neg (by omega)]), fun q => nx 1 (by rw [if_pos (by omega)])⟩
  exact ⟨l + 1, loop _ l 0 0 (by omega) (by omega) (by decide) (by rw [Int.zero_add]; exact k)⟩
end
