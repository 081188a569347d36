/-! PHASE 3, proper positions stay proper -/
theorem cnt_two {F R : Int} {v : Int → Int} {p : Int} : ∀ (d : Nat) (k : Int), sumL (fun j => if v j = p then 1 else 0) k d = 1 ↔ ∃ j : Int, k ≤ j ∧ j < k + d ∧ v j = p ∧ ∀ i : Int, k ≤ i → i < k + d → v i = p → i = j
  | 0, k => by
    constructor
    · intro h; exact absurd h (by unfold sumL; decide)
    · rintro ⟨j, h1, h2, _⟩; omega
  | d + 1, k => by
    rw [sumL_S]
    have ih := cnt_two (F := F) (R := R) (v := v) (p := p) d (k + 1)
    have h0 : 0 ≤ sumL (fun j => if v j = p then 1 else 0) (k + 1) d := (sumL_r (f := fun j => if v j = p then 1 else 0) (fun j => by split <;> omega) _ _).1
    by_cases c : v k = p
    · simp only [if_pos c]
      constructor
      · intro h
        have hz : sumL (fun j => if v j = p then 1 else 0) (k + 1) d = 0 := by omega
        refine ⟨k, by omega, by omega, c, fun i i1 i2 i3 => ?_⟩
        apply Classical.byContradiction
        intro hne
        have key : ∀ (d : Nat) (k : Int), k ≤ i → i < k + d → 1 ≤ sumL (fun j => if v j = p then 1 else 0) k d := by
          intro d
          induction d with
          | zero => intro k h1 h2; omega
          | succ d ihd =>
            intro k h1 h2
            rw [sumL_S]
            have h3 := (sumL_r (f := fun j => if v j = p then 1 else 0) (fun j => by split <;> omega) (k + 1) d).1
            by_cases e : k = i
            · simp only [e, i3, if_true]; rw [← e]; omega
            · have := ihd (k + 1) (by omega) (by omega)
              have : (0 : Int) ≤ (if v k = p then 1 else 0) := by split <;> omega
              omega
        have := key d (k + 1) (by omega) (by omega)
        omega
      · rintro ⟨j, j1, j2, j3, j4⟩
        have hk := j4 k (by omega) (by omega) c
        have hz : sumL (fun j => if v j = p then (1 : Int) else 0) (k + 1) d = 0 := sumL_0 d (k + 1) fun i i1 i2 => by
          have : v i ≠ p := fun e => by have := j4 i (by omega) (by omega) e; omega
          exact if_neg this
        omega
    · simp only [if_neg c]
      rw [Int.zero_add, ih]
      constructor
      · rintro ⟨j, j1, j2, j3, j4⟩
        exact ⟨j, by omega, by omega, j3, fun i i1 i2 i3 => j4 i (by
          rcases (show i = k ∨ k + 1 ≤ i by omega) with e | e
          · rw [e] at i3; exact absurd i3 c
          · exact e) (by omega) i3⟩
      · rintro ⟨j, j1, j2, j3, j4⟩
        have : j ≠ k := fun e => by rw [e] at j3; exact c j3
        exact ⟨j, by omega, by omega, j3, fun i i1 i2 i3 => j4 i (by omega) (by omega) i3⟩
theorem cnt_one {F R : Int} {v : Int → Int} {p : Int} (hn : 0 ≤ F * R) : cntB F R v p = 1 ↔ ∃ j : Int, 0 ≤ j ∧ j < F * R ∧ v j = p ∧ ∀ i : Int, 0 ≤ i → i < F * R → v i = p → i = j := by
  unfold cntB
  rw [cnt_two (F := F) (R := R)]
  constructor
  · rintro ⟨j, h1, h2, h3, h4⟩
    exact ⟨j, h1, by omega, h3, fun i i1 i2 i3 => h4 i i1 (by omega) i3⟩
  · rintro ⟨j, h1, h2, h3, h4⟩
    exact ⟨j, h1, by omega, h3, fun i i1 i2 i3 => h4 i i1 (by omega) i3⟩
/-- a proper position of a game -/
abbrev PV (F R : Int) (v : Int → Int) : Prop := okV F R v ∧ clV v ∧ brd F R v ∧ epS F R v ∧ properB F R v = true
theorem proper_parts {F R : Int} {v : Int → Int} (h : properB F R v = true) : cntB F R v 1 = 1 ∧ cntB F R v 7 = 1 ∧ soundB F R v = true ∧ allL (pawnFree F R v) 0 F.toNat = true ∧ chkB F R v (1 - v 64) = false := by
  unfold properB at h
  simp only [Bool.and_eq_true, decide_eq_true_eq, Bool.not_eq_true'] at h
  exact ⟨h.1.1.1.1, h.1.1.1.2, h.1.1.2, h.1.2, h.2⟩
theorem kings_of {F R : Int} {v : Int → Int} (hn : 0 ≤ F * R) (h : properB F R v = true) {s : Int} (hs : s = 0 ∨ s = 1) : kingB F R v s < F * R ∧ oneK F R v s := by
  obtain ⟨h1, h7, -⟩ := proper_parts h
  have hc : cntB F R v (pieceOfB 1 s) = 1 := by rcases hs with rfl | rfl; exact h7; exact h1
  obtain ⟨j, j0, j1, j2, j3⟩ := (cnt_one hn).mp hc
  obtain ⟨k1, k2⟩ := kingB_lt hn j0 j1 j2
  refine ⟨k1, fun i i0 i1 i2 => ?_⟩
  have e1 := j3 i i0 i1 i2
  have e2 := j3 _ (kingB_r v s hn).1 k1 k2
  omega
theorem PV.k {F R : Int} {v : Int → Int} (h4 : 4 ≤ F) (h8 : F ≤ 8) (r4 : 4 ≤ R) (r8 : R ≤ 8) (h : PV F R v) : PK F R v := by
  have hm := FR_r h4 h8 r4 r8
  have hs := h.1.s
  have hk := kings_of (by omega) h.2.2.2.2 (s := v 64) (by omega)
  exact ⟨h.1, h.2.1, h.2.2.1, h.2.2.2.1, (proper_parts h.2.2.2.2).2.2.1, hk.1, hk.2⟩
theorem mk_bec {F R a b c : Int} {v : Int → Int} {j : Int} (hj : j < 64) (hjb : j ≠ b) : mkV F R v a b c j = mkV F R v a b 0 j := by
  rw [mkV_low hj, mkV_low hj]
  unfold mk4 upV
  rw [if_neg hjb, if_neg hjb]
theorem mk_to {F R a b c : Int} {v : Int → Int} (hb : b < 64) : mkV F R v a b c b = if c = 0 then v a else pieceOfB c (v 64) := by
  rw [mkV_low hb]
  exact if_pos rfl
theorem mk_hi {F R a b c : Int} {v : Int → Int} : mkV F R v a b c 64 = 1 - v 64 ∧ mkV F R v a b c 65 = mkR F R v a b ∧ mkV F R v a b c 66 = mkE F R v a b c := by
  refine ⟨?_, ?_, ?_⟩
  · unfold mkV mk6 upV; rw [if_neg (by decide), if_neg (by decide), if_pos rfl]
  · unfold mkV mk6 upV; rw [if_neg (by decide), if_pos rfl]
  · unfold mkV upV; rw [if_pos rfl]
/-- what a square holds behind a move: the piece that moved, nothing, the rook, or what was there -/
theorem mk_any {F R a b c : Int} {v : Int → Int} (h4 : 4 ≤ F) (h8 : F ≤ 8) (r4 : 4 ≤ R) (r8 : R ≤ 8) (hv : PV F R v) (ok : okMv F R v (a, b, c)) {j : Int} (h0 : 0 ≤ j) (hj : j < 64) (hjb : j ≠ b) :
    (mkV F R v a b c j = v j ∧ j ≠ a) ∨ (mkV F R v a b c j = 0 ∧ (j = a ∨ v j = pieceOfB 6 (1 - v 64) ∨ (v j = pieceOfB 3 (v 64) ∧ kindO (v a) = 1))) ∨ (mkV F R v a b c j = pieceOfB 3 (v 64) ∧ v j = 0 ∧ kindO (v a) = 1 ∧ castB F R v a b = true ∧ (j = homeB F R (v 64) 5 ∨ j = homeB F R (v 64) 3)) := by
  have hm := FR_r h4 h8 r4 r8
  obtain ⟨v1, v2, v3, v4, v5⟩ := id hv
  have hsn := (proper_parts v5).2.2.1
  obtain ⟨ha, hb, hc, ho, hl, hbc⟩ := ok
  dsimp only at ha hb hc ho hl hbc
  have hg : goB F R v a b = true := by unfold legB at hl; simp only [Bool.and_eq_true] at hl; exact hl.1
  rw [mk_bec hj hjb]
  cases hcs : castingB F v a b
  · rw [mk_low h4 h8 v1 v4 ⟨ha.1, by omega⟩ ⟨hb.1, by omega⟩ ho hg hcs hj, if_neg hjb]
    by_cases g2 : j = a
    · rw [if_pos g2]; exact Or.inr (Or.inl ⟨rfl, Or.inl g2⟩)
    · rw [if_neg g2]
      cases q : (passC v a && decide (b = v 66) && decide (j = b - upB (v 64) * F))
      · rw [if_neg (by decide)]; exact Or.inl ⟨rfl, g2⟩
      · rw [if_pos rfl]
        simp only [Bool.and_eq_true, decide_eq_true_eq] at q
        refine Or.inr (Or.inl ⟨rfl, Or.inr (Or.inl ?_)⟩)
        rcases v4 with e | e
        · omega
        · rw [q.2, q.1.2]; exact e.2.2
  · have hk1 : kindO (v a) = 1 := by unfold castingB at hcs; simp only [Bool.and_eq_true, decide_eq_true_eq] at hcs; exact hcs.1
    have hcb := (king_go h4 h8 r4 r8 v1 hsn ⟨ha.1, by omega⟩ ⟨hb.1, by omega⟩ hk1 hg).1.mp hcs
    have hcb0 := hcb
    obtain ⟨e8, ea, hd⟩ := cast_data r4 r8 v1 hsn hcb
    subst e8
    rw [mk_cast r4 r8 v1 hsn hcb hk1 hcs hj, if_neg hjb]
    have hh : ∀ f : Int, homeB 8 R (v 64) f = a + (f - 4) := fun f => by rw [ea]; unfold homeB; omega
    by_cases g2 : j = a
    · rw [if_pos g2]; exact Or.inr (Or.inl ⟨rfl, Or.inl g2⟩)
    · rw [if_neg g2]
      by_cases g3 : j = (if a < b then a + 1 else a - 1)
      · rw [if_pos g3]
        refine Or.inr (Or.inr ⟨rfl, ?_, hk1, hcb0, ?_⟩)
        · rcases hd with ⟨eb, z1, z2, z3⟩ | ⟨eb, z1, z2, z3, z4⟩
          · rw [if_pos (by omega)] at g3; rw [g3]; exact z1
          · rw [if_neg (by omega)] at g3; rw [g3]; exact z1
        · rw [hh 5, hh 3]
          split at g3 <;> omega
      · rw [if_neg g3]
        by_cases g4 : j = (if a < b then a + 3 else a - 4)
        · rw [if_pos g4]
          refine Or.inr (Or.inl ⟨rfl, Or.inr (Or.inr ⟨?_, hk1⟩)⟩)
          rcases hd with ⟨eb, z1, z2, z3⟩ | ⟨eb, z1, z2, z3, z4⟩
          · rw [if_pos (by omega)] at g4; rw [g4]; exact z3
          · rw [if_neg (by omega)] at g4; rw [g4]; exact z4
        · rw [if_neg g4]; exact Or.inl ⟨rfl, g2⟩
