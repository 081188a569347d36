/-! PHASE 3: continuations: the number of a move by its code, a game noted -/
section
variable {D : wD} {S : wS} {o : Nat → Nat} {c : cM} {F R : Int} {v : Int → Int}
theorem q_numberOfCode {post : Int32 → wS → Prop} (h : CC D S o) (hL : LK c F R v) (hn : ((movesL F R v).length : Int) ≤ 1728) (hm : ∀ i : Int, 0 ≤ i → i < (movesL F R v).length → i32 (mcode ((movesL F R v).getD i.toNat (0, 0, 0)))) {x : Int} (hx : i32 x)
    (k : post (iI (firstL (fun i => decide (mcode ((movesL F R v).getD i.toNat (0, 0, 0)) = x)) 0 (movesL F R v).length)) (cS S o c)) : wp_X4_numberOfCode D post (cS S o c) (o 17) (iI x) := by
  unfold wp_X4_numberOfCode wp_X4_numberOfCode_0
  have loop : ∀ (f d : Nat) (j : Int), d < f → j + d = (movesL F R v).length → 0 ≤ j → post (iI (firstL (fun i => decide (mcode ((movesL F R v).getD i.toNat (0, 0, 0)) = x)) j d)) (cS S o c) → wp_X4_numberOfCode_2 D post f (cS S o c) (o 17) (iI x) (iI j) := by
    intro f
    induction f with
    | zero => intro d j hd; omega
    | succ f ih =>
      intro d j hd hj j0 k
      unfold wp_X4_numberOfCode_2 wp_X4_numberOfCode_37
      rw [c_i1 h (by decide) (show ((7 : Nat) : Int) = 7 from rfl), hL.2.2, iI_le (by omega) (by omega) (by omega) (by omega)]
      cases d with
      | zero => exact ⟨fun _ => k, fun q => absurd (by omega) q⟩
      | succ d =>
        refine ⟨fun q => absurd q (by omega), fun _ => ⟨o 20, c_r h rfl, (c_m h (by decide)).mpr trivial, c_k h (by decide), ?_⟩⟩
        rw [c_n h (by decide), show Int32.ofNat (cln 20) = iI 1728 from rfl, iI_le (by decide) (by decide) (by omega) (by omega)]
        refine ⟨fun q => absurd q (by omega), fun _ => ⟨o 20, c_r h rfl, (c_m h (by decide)).mpr trivial, c_k h (by decide), ?_, ?_⟩⟩
        · rw [c_n h (by decide)]; exact iI_in (by omega) (by omega) (by have : ((cln 20 : Nat) : Int) = 1728 := rfl; omega)
        · have hmj := hm j j0 (by omega)
          rw [c_i h (by decide) j0 (by omega), hL.2.1 j j0 (by omega), iI_eq hmj.1 hmj.2 hx.1 hx.2]
          unfold firstL at k
          refine ⟨fun q x7 e => ?_, fun q => ?_⟩
          · rw [decide_eq_false q] at k
            rw [e, show (1 : Int32) = iI 1 from rfl, iI_add]
            exact ih d (j + 1) (by omega) (by omega) (by omega) k
          · rw [decide_eq_true q] at k
            exact k
  exact ⟨(movesL F R v).length + 1, loop _ (movesL F R v).length 0 (by omega) (by omega) (by decide) k⟩
/-- a game noted at a move: once for each game -/
def notM (c : cM) (i g : Int) : cM := if c.1 36 i = g then c else cI (cI c 36 i g) 35 i (c.1 35 i + 1)
theorem q_note {post : wS → Prop} (h : CC D S o) {i g : Int} (hi : 0 ≤ i ∧ i < 1728) (hg : i32 g) (h36 : i32 (c.1 36 i)) (k : post (cS S o (notM c i g))) : wp_X1_note D post (cS S o c) (o 34) (iI i) (iI g) := by
  unfold wp_X1_note wp_X1_note_0 wp_X1_note_49
  have n35 : sN (cS S o c) (o 35) = 1728 := c_n h (by decide)
  have n36 : sN (cS S o c) (o 36) = 1728 := c_n h (by decide)
  rw [show (0 : Int32) = iI 0 from rfl, iI_lt (by omega) (by omega) (by decide) (by decide)]
  refine ⟨fun q => absurd q (by omega), fun _ => ⟨o 35, c_r h rfl, (c_m h (by decide)).mpr trivial, c_k h (by decide), ?_⟩⟩
  rw [n35, show Int32.ofNat 1728 = iI 1728 from rfl, iI_le (by decide) (by decide) (by omega) (by omega)]
  refine ⟨fun q => absurd q (by omega), fun _ => ⟨o 36, c_r h rfl, (c_m h (by decide)).mpr trivial, c_k h (by decide), ?_⟩⟩
  rw [n36, show Int32.ofNat 1728 = iI 1728 from rfl, iI_le (by decide) (by decide) (by omega) (by omega)]
  have vi : vp_in (iI i) 1728 := iI_in (by omega) (by omega) (by omega)
  refine ⟨fun q => absurd q (by omega), fun _ => ⟨o 36, c_r h rfl, (c_m h (by decide)).mpr trivial, c_k h (by decide), by rw [n36]; exact vi, ?_⟩⟩
  rw [c_i h (by decide) hi.1 (by omega), iI_eq h36.1 h36.2 hg.1 hg.2]
  unfold notM at k
  have ei : ((iI i).toNatClampNeg : Int) = i := iI_nat hi.1 (by omega)
  refine ⟨fun q => ?_, fun q => ⟨o 36, c_r h rfl, (c_m h (by decide)).mpr trivial, c_k h (by decide), (c_l h (by decide)).mpr trivial, by rw [n36]; exact vi, fun S11 e11 => ?_⟩⟩
  · rw [if_pos q] at k; exact k
  · rw [if_neg q] at k
    rw [c_u1 h (by decide) ei] at e11
    rw [e11]
    refine ⟨o 35, c_r h rfl, (c_m h (by decide)).mpr trivial, c_k h (by decide), ?_, (c_l h (by decide)).mpr trivial, ?_, fun S15 e15 => ?_⟩
    · rw [c_n h (by decide)]; exact vi
    · rw [c_n h (by decide)]; exact vi
    · rw [c_i h (by decide) hi.1 (by omega), cI_1, up_ne _ (Or.inl (by decide)), show (1 : Int32) = iI 1 from rfl, iI_add, c_u1 h (by decide) ei] at e15
      rw [e15]
      exact k
end
