/-! PHASE 3: continuations: the place of a move -/
section
variable {D : wD} {S : wS} {o : Nat → Nat} {c : cM}
/-- by the packed words: ahead -/
def ahC (c : cM) (k i : Int) : Bool := !decide ((0 : Int32) ≤ lg_cmp (c.2 37 k) (c.2 37 i))
theorem q_letters {post : Int64 → wS → Prop} (h : CC D S o) {i : Int} (hi : 0 ≤ i ∧ i < 1728) (k : post (c.2 37 i) (cS S o c)) : wp_X1_letters D post (cS S o c) (o 34) (iI i) := by
  have n37 : sN (cS S o c) (o 37) = 1728 := c_n h (by decide)
  unfold wp_X1_letters wp_X1_letters_0 wp_X1_letters_23
  rw [show (0 : Int32) = iI 0 from rfl, iI_lt (by omega) (by omega) (by decide) (by decide)]
  refine ⟨fun q => absurd q (by omega), fun _ => ⟨o 37, c_r h rfl, (c_m h (by decide)).mpr trivial, c_k h (by decide), ?_⟩⟩
  rw [n37, show Int32.ofNat 1728 = iI 1728 from rfl, iI_le (by decide) (by decide) (by omega) (by omega)]
  refine ⟨fun q => absurd q (by omega), fun _ => ⟨o 37, c_r h rfl, (c_m h (by decide)).mpr trivial, c_k h (by decide), by rw [n37]; exact iI_in (by omega) (by omega) (by omega), ?_⟩⟩
  rw [c_j h (by decide) hi.1 (by omega)]
  exact k
def befC (c : cM) (l : Nat) (i : Int) : Int := sumL (fun k => if 0 < c.1 35 k ∧ ahC c k i = true then 1 else 0) 0 l
theorem q_before {post : Int32 → wS → Prop} (h : CC D S o) {l : Nat} (h7 : c.1 17 7 = (l : Int)) (hl : l ≤ 1728) (hg : ∀ i : Int, 0 ≤ i → i < l → i32 (c.1 35 i)) {i : Int} (hi : 0 ≤ i ∧ i < l) (k : post (iI (befC c l i)) (cS S o c)) : wp_X1_before D post (cS S o c) (o 34) (iI i) := by
  unfold wp_X1_before wp_X1_before_0
  have loop : ∀ (f d : Nat) (j e : Int), d < f → j + d = l → 0 ≤ j → post (iI (e + sumL (fun k => if 0 < c.1 35 k ∧ ahC c k i = true then 1 else 0) j d)) (cS S o c) → wp_X1_before_4 D post f (cS S o c) (o 34) (iI i) (iI e) (iI j) := by
    intro f
    induction f with
    | zero => intro d j e hd; omega
    | succ f ih =>
      intro d j e hd hj j0 k
      unfold wp_X1_before_4
      refine ⟨o 17, c_r h rfl, (c_m h (by decide)).mpr trivial, c_k h (by decide), ?_⟩
      rw [c_i1 h (by decide) (show ((7 : Nat) : Int) = 7 from rfl), h7, iI_le (by omega) (by omega) (by omega) (by omega)]
      cases d with
      | zero =>
        refine ⟨fun _ => ?_, fun q => absurd (by omega) q⟩
        have : sumL (fun k => if 0 < c.1 35 k ∧ ahC c k i = true then (1 : Int) else 0) j 0 = 0 := rfl
        rw [this, Int.add_zero] at k
        exact k
      | succ d =>
        refine ⟨fun q => absurd q (by omega), fun _ => ?_⟩
        refine q_gamesWith h ⟨j0, by omega⟩ ?_
        have gj := hg j j0 (by omega)
        have nx : ∀ t : Int, t = (if 0 < c.1 35 j ∧ ahC c j i = true then 1 else 0) → wp_X1_before_43 D post (wp_X1_before_4 D post f) (cS S o c) (o 34) (iI i) (iI j) (iI e) (iI t) := fun t ht => by
          unfold wp_X1_before_43
          intro x1 e1 x2 e2
          rw [e1, e2, show (1 : Int32) = iI 1 from rfl, iI_add, iI_add]
          refine ih d (j + 1) (e + t) (by omega) (by omega) (by omega) ?_
          rw [sumL_S, ← ht] at k
          rw [Int.add_assoc]; exact k
        unfold wp_X1_before_42
        rw [show ((iI (c.1 35 j)) ≤ (0 : Int32)) = (c.1 35 j ≤ 0) from iI_le (b := 0) gj.1 gj.2 (by decide) (by decide)]
        refine ⟨fun q => nx 0 (by rw [if_neg (fun w => absurd w.1 (by omega))]), fun q => ?_⟩
        refine q_letters h ⟨j0, by omega⟩ ?_
        refine q_letters h ⟨hi.1, by omega⟩ ?_
        refine ⟨fun z => nx 0 (by rw [if_neg (fun w => by have w := w.2; unfold ahC at w; rw [decide_eq_true z] at w; exact absurd w (by decide))]), fun z => nx 1 (by rw [if_pos ⟨by omega, by unfold ahC; rw [decide_eq_false z]; rfl⟩])⟩
  exact ⟨l + 1, loop _ l 0 0 (by omega) (by omega) (by decide) (by rw [Int.zero_add]; exact k)⟩
end
