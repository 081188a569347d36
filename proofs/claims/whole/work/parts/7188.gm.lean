/-! PHASE 3: continuations: the move at a place -/
section
variable {D : wD} {S : wS} {o : Nat → Nat} {c : cM}
theorem befC_sum (P : Int → Prop) [DecidablePred P] : ∀ (d : Nat) (j : Int), 0 ≤ sumL (fun k => if P k then 1 else 0) j d ∧ sumL (fun k => if P k then 1 else 0) j d ≤ d := by
  intro d
  induction d with
  | zero => intro j; exact ⟨Int.le_refl _, Int.le_refl _⟩
  | succ d ih =>
    intro j
    rw [sumL_S]
    have := ih (j + 1)
    constructor <;> split <;> omega
theorem q_moveAtX1 {post : Int32 → wS → Prop} (h : CC D S o) {l : Nat} (h7 : c.1 17 7 = (l : Int)) (hl : l ≤ 1728) (hg : ∀ i : Int, 0 ≤ i → i < l → i32 (c.1 35 i)) {x : Int} (hx : i32 x) (k : post (iI (firstL (fun k => decide (0 < c.1 35 k) && decide (befC c l k = x)) 0 l)) (cS S o c)) : wp_X1_moveAt D post (cS S o c) (o 34) (iI x) := by
  unfold wp_X1_moveAt wp_X1_moveAt_0
  have loop : ∀ (f d : Nat) (j : Int), d < f → j + d = l → 0 ≤ j → post (iI (firstL (fun k => decide (0 < c.1 35 k) && decide (befC c l k = x)) j d)) (cS S o c) → wp_X1_moveAt_2 D post f (cS S o c) (o 34) (iI x) (iI j) := by
    intro f
    induction f with
    | zero => intro d j hd; omega
    | succ f ih =>
      intro d j hd hj j0 k
      unfold wp_X1_moveAt_2
      refine ⟨o 17, c_r h rfl, (c_m h (by decide)).mpr trivial, c_k h (by decide), ?_⟩
      rw [c_i1 h (by decide) (show ((7 : Nat) : Int) = 7 from rfl), h7, iI_le (by omega) (by omega) (by omega) (by omega)]
      cases d with
      | zero => exact ⟨fun _ => k, fun q => absurd (by omega) q⟩
      | succ d =>
        refine ⟨fun q => absurd q (by omega), fun _ => ?_⟩
        refine q_gamesWith h ⟨j0, by omega⟩ ?_
        have gj := hg j j0 (by omega)
        unfold firstL at k
        have nx : ¬ (0 < c.1 35 j ∧ befC c l j = x) → wp_X1_moveAt_32 D post (wp_X1_moveAt_2 D post f) (cS S o c) (o 34) (iI x) (iI j) := fun z => by
          unfold wp_X1_moveAt_32
          intro x1 e1
          rw [if_neg (by rw [Bool.and_eq_true]; exact fun w => z ⟨of_decide_eq_true w.1, of_decide_eq_true w.2⟩)] at k
          rw [e1, show (1 : Int32) = iI 1 from rfl, iI_add]
          exact ih d (j + 1) (by omega) (by omega) (by omega) k
        rw [show ((iI (c.1 35 j)) ≤ (0 : Int32)) = (c.1 35 j ≤ 0) from iI_le (b := 0) gj.1 gj.2 (by decide) (by decide)]
        refine ⟨fun q => nx (by omega), fun q => ?_⟩
        refine q_before h h7 hl hg ⟨j0, by omega⟩ ?_
        have bs := befC_sum (fun k => 0 < c.1 35 k ∧ ahC c k j = true) l 0
        have bs : 0 ≤ befC c l j ∧ befC c l j ≤ l := bs
        rw [iI_eq (by omega) (by omega) hx.1 hx.2]
        refine ⟨fun z => nx (fun w => z w.2), fun z => ?_⟩
        rw [if_pos (by rw [decide_eq_true (show 0 < c.1 35 j by omega), decide_eq_true z]; rfl)] at k
        exact k
  exact ⟨l + 1, loop _ l 0 (by omega) (by omega) (by decide) k⟩
end
