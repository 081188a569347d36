section
variable {D : wD} {S : wS} {o : Nat → Nat} {c : cM} {F R : Int} {v : Int → Int}
/-- the packed letters of a move by its number -/
def wdC (F R : Int) (v : Int → Int) (i : Int) : Int64 := zI (pkA 0 (sanA F v (movesL F R v) ((movesL F R v).getD i.toNat (0, 0, 0))))
/-- the first words of the row 21 are those of the moves -/
def wdM (c : cM) (F R : Int) (v : Int → Int) (n : Int) : cM := (c.1, fun g j => if g = 21 ∧ 0 ≤ j ∧ j < n then wdC F R v j else c.2 g j)
theorem wdM_s (c : cM) (F R : Int) (v : Int → Int) {n : Int} (hn : 0 ≤ n) : cJ (wdM c F R v n) 21 n (wdC F R v n) = wdM c F R v (n + 1) := by
  refine Prod.ext rfl (funext fun g => funext fun j => ?_)
  show upJ (wdM c F R v n).2 21 n (wdC F R v n) g j = (if g = 21 ∧ 0 ≤ j ∧ j < n + 1 then wdC F R v j else c.2 g j)
  by_cases z : g = 21 ∧ j = n
  · rw [z.1, z.2, upJ_at, if_pos ⟨rfl, hn, by omega⟩]
  · rw [upJ_ne _ (by omega)]
    show (if g = 21 ∧ 0 ≤ j ∧ j < n then wdC F R v j else c.2 g j) = _
    by_cases w : g = 21 ∧ 0 ≤ j ∧ j < n
    · rw [if_pos w, if_pos ⟨w.1, w.2.1, by omega⟩]
    · rw [if_neg w, if_neg (by omega)]
theorem wdM_0 (c : cM) (F R : Int) (v : Int → Int) : wdM c F R v 0 = c := by
  refine Prod.ext rfl (funext fun g => funext fun j => ?_)
  show (if g = 21 ∧ 0 ≤ j ∧ j < 0 then wdC F R v j else c.2 g j) = _
  rw [if_neg (by omega)]
theorem wdM_sim (c : cM) (F R : Int) (v : Int → Int) (n : Int) : cSim [21] c (wdM c F R v n) := fun g hg => ⟨rfl, funext fun j => by
  show (if g = 21 ∧ 0 ≤ j ∧ j < n then wdC F R v j else c.2 g j) = _
  rw [if_neg (fun z => hg (by rw [z.1]; simp))]⟩
/-- the words are there -/
abbrev WDS (c : cM) (F R : Int) (v : Int → Int) : Prop := ∀ j : Int, 0 ≤ j → j < (movesL F R v).length → c.2 21 j = wdC F R v j
theorem q_numW_50 {post : Int32 → wS → Prop} (h : CC D S o) (hL : LK c F R v) (hf : few F R v) (hW : WDS c F R v) {x : Int64} : ∀ (n d : Nat) (j : Int), d < n → j + d = (movesL F R v).length → 0 ≤ j →
    post (iI (firstL (fun i => decide (wdC F R v i = x)) j d)) (cS S o c) → wp_X4_numberOfWord_50 D post n (cS S o c) (o 17) x (iI j) := by
  have len : ((movesL F R v).length : Int) ≤ 320 := hf
  intro n
  induction n with
  | zero => intro d j hd; omega
  | succ n ih =>
    intro d j hd hj h0 k
    unfold wp_X4_numberOfWord_50 wp_X4_numberOfWord_86
    rw [c_i1 h (by decide) (show ((7 : Nat) : Int) = 7 from rfl), hL.2.2, iI_le (by omega) (by omega) (by omega) (by omega)]
    refine ⟨fun q => ?_, fun q => ⟨o 21, c_r h rfl, (c_m h (by decide)).mpr trivial, c_k h (by decide), ?_⟩⟩
    · rw [show d = 0 by omega] at k; exact k
    · obtain ⟨d', rfl⟩ : ∃ d', d = d' + 1 := ⟨d - 1, by omega⟩
      unfold firstL at k
      have sn : Int32.ofNat (sN (cS S o c) (o 21)) = iI 1728 := by rw [c_n h (by decide)]; rfl
      have w := c_wrow (D := D) (c := c) h (g := 21) (by decide) h0 (show j < ((cln 21 : Nat) : Int) by have : ((cln 21 : Nat) : Int) = 1728 := rfl; omega) (by decide)
      rw [sn, iI_le (by decide) (by decide) (by omega) (by omega)]
      refine ⟨fun z => absurd z (by omega), fun _ => ⟨o 21, c_r h rfl, (c_m h (by decide)).mpr trivial, c_k h (by decide), w.2, ?_⟩⟩
      rw [c_j h (by decide) h0 (by omega), hW j h0 (by omega)]
      simp only [lg_cmp_eq]
      refine ⟨fun z x7 e7 => ?_, fun z => ?_⟩
      · rw [decide_eq_false z] at k
        rw [e7, show (1 : Int32) = iI 1 from rfl, iI_add]
        exact ih d' (j + 1) (by omega) (by omega) (by omega) k
      · rw [decide_eq_true z] at k; exact k
theorem q_numW_9 {post : Int32 → wS → Prop} (h : CC D S o) (hB : BG c F R) (hP : ∀ c, ST D (cS S o c) (D.2.2.1 1) pcsL) (hv : PV F R v) (hL : LK c F R v) (hf : few F R v) {x : Int64}
    (k : wp_X4_numberOfWord_43 D post (cS S o (wdM c F R v (movesL F R v).length)) (o 17) x) : ∀ (n d : Nat) (j : Int), d < n → j + d = (movesL F R v).length → 0 ≤ j → wp_X4_numberOfWord_9 D post n (cS S o (wdM c F R v j)) (o 17) x (iI j) := by
  have len : ((movesL F R v).length : Int) ≤ 320 := hf
  intro n
  induction n with
  | zero => intro d j hd; omega
  | succ n ih =>
    intro d j hd hj h0
    have sim := wdM_sim c F R v j
    have hL' : LK (wdM c F R v j) F R v := hL.sim sim (by decide) (by decide) (by decide)
    have hB' : BG (wdM c F R v j) F R := sim.B (fun m hm => by simp; omega) hB
    unfold wp_X4_numberOfWord_9
    rw [c_i1 h (by decide) (show ((7 : Nat) : Int) = 7 from rfl), hL'.2.2, iI_le (by omega) (by omega) (by omega) (by omega)]
    refine ⟨fun q => ?_, fun q => ⟨o 21, c_r h rfl, (c_m h (by decide)).mpr trivial, c_k h (by decide), ?_⟩⟩
    · rw [show j = (movesL F R v).length by omega]; exact k
    · have sn : Int32.ofNat (sN (cS S o (wdM c F R v j)) (o 21)) = iI 1728 := by rw [c_n h (by decide)]; rfl
      have w := c_wrow (D := D) (c := wdM c F R v j) h (g := 21) (by decide) h0 (show j < ((cln 21 : Nat) : Int) by have : ((cln 21 : Nat) : Int) = 1728 := rfl; omega) (by decide)
      rw [sn, iI_le (by decide) (by decide) (by omega) (by omega)]
      refine ⟨fun z => absurd z (by omega), fun _ => ⟨o 21, c_r h rfl, (c_m h (by decide)).mpr trivial, c_k h (by decide), ?_⟩⟩
      refine q_plainWord h hB' hP hv hL' hf (i := j) ⟨h0, by omega⟩ ?_
      refine ⟨w.1, w.2, ?_⟩
      intro S8 e8 x9 e9
      rw [c_w h (by decide) h0 (by omega)] at e8
      have ws := wdM_s c F R v h0
      unfold wdC at ws
      rw [ws] at e8
      rw [e8, e9, show (1 : Int32) = iI 1 from rfl, iI_add]
      exact ih (d - 1) (j + 1) (by omega) (by omega) (by omega)
/-- the number of the move with given letters: the words are laid at the first question -/
theorem q_numberOfWord {post : Int32 → wS → Prop} (h : CC D S o) (hB : BG c F R) (hP : ∀ c, ST D (cS S o c) (D.2.2.1 1) pcsL) (hv : PV F R v) (hL : LK c F R v) (hf : few F R v) (h6 : c.1 17 6 = 0 ∨ (c.1 17 6 = 1 ∧ WDS c F R v)) {x : Int64}
    (k : ∀ c', cSim [17, 21] c c' → LK c' F R v → c'.1 17 6 = 1 → WDS c' F R v → post (iI (firstL (fun i => decide (wdC F R v i = x)) 0 (movesL F R v).length)) (cS S o c')) : wp_X4_numberOfWord D post (cS S o c) (o 17) x := by
  have len : ((movesL F R v).length : Int) ≤ 320 := hf
  have at48 : ∀ c', cSim [17, 21] c c' → LK c' F R v → c'.1 17 6 = 1 → WDS c' F R v → wp_X4_numberOfWord_48 D post (cS S o c') (o 17) x := fun c' a1 a2 a3 a4 =>
    ⟨(movesL F R v).length + 1, q_numW_50 h a2 hf a4 ((movesL F R v).length + 1) (movesL F R v).length 0 (by omega) (by omega) (by decide) (k c' a1 a2 a3 a4)⟩
  have e6 : sI (cS S o c) (o 17) 6 = iI (c.1 17 6) := c_i1 h (by decide) (show ((6 : Nat) : Int) = 6 from rfl)
  unfold wp_X4_numberOfWord wp_X4_numberOfWord_0
  rw [e6]
  rcases h6 with h6 | h6
  · rw [h6]
    refine ⟨fun q => absurd rfl q, fun _ => ⟨(movesL F R v).length + 1, ?_⟩⟩
    have := q_numW_9 (D := D) (S := S) (o := o) (post := post) (x := x) h hB hP hv hL hf ?_ ((movesL F R v).length + 1) (movesL F R v).length 0 (by omega) (by omega) (by decide)
    · rw [wdM_0] at this; exact this
    · unfold wp_X4_numberOfWord_43
      refine ⟨nr1, by decide, ?_⟩
      intro S1 e1
      rw [show (1 : Int32) = iI 1 from rfl, c_u1 h (by decide) (show ((6 : Nat) : Int) = 6 from rfl)] at e1
      rw [e1]
      have s1 := wdM_sim c F R v (movesL F R v).length
      have s2 := cI_sim (wdM c F R v (movesL F R v).length) 17 6 1
      have hL1 := hL.sim s1 (by decide) (by decide) (by decide)
      refine at48 _ ((s1.mono (by decide)).trans (s2.mono (by decide))) ⟨s2.P (by decide) hL1.1, s2.R (by decide) hL1.2.1, ?_⟩ (by rw [cI_1, up_at]) (fun j j0 j1 => ?_)
      · rw [cI_1, up_ne _ (Or.inr (by decide))]; exact hL1.2.2
      · show (if 21 = 21 ∧ 0 ≤ j ∧ j < ((movesL F R v).length : Int) then wdC F R v j else c.2 21 j) = _
        rw [if_pos ⟨rfl, j0, j1⟩]
  · rw [h6.1]
    exact ⟨fun _ => at48 c (cSim.refl _ _) hL h6.1 h6.2, fun q => absurd q (by decide)⟩
end
