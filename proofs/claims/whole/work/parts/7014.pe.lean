/-- behind the passing square stands the pawn that passed -/
def epW (F : Int) (v : Int → Int) : Prop := v 66 = -1 ∨ v (v 66 - upB (v 64) * F) = pieceOfB 6 (1 - v 64)
theorem isOfB_king {p s : Int} (hp : 0 ≤ p ∧ p ≤ 12) (hs : 0 ≤ s ∧ s ≤ 1) (h : isOfB p s = true) (hk : kindO p = 1) : p = pieceOfB 1 s := by
  unfold isOfB at h
  unfold kindO at hk
  unfold pieceOfB
  by_cases c : p ≤ 6
  · rw [if_pos c] at hk
    rw [if_neg (by omega), if_neg (by omega)] at h
    have := of_decide_eq_true h
    rw [if_pos this.symm, hk]
  · rw [if_neg c] at hk
    rw [if_neg (by omega), if_pos (by omega)] at h
    have := of_decide_eq_true h
    rw [if_neg (by omega)]; omega
theorem isOfB_of {k s : Int} (hk : 1 ≤ k ∧ k ≤ 6) (hs : 0 ≤ s ∧ s ≤ 1) : isOfB (pieceOfB k s) s = true := by
  unfold isOfB pieceOfB
  rcases (show s = 0 ∨ s = 1 by omega) with rfl | rfl
  · simp only [show ¬ (0 : Int) = 1 from (by decide), if_false]
    rw [if_neg (by omega), if_pos (by omega)]; decide
  · simp only [if_true]
    rw [if_neg (by omega), if_neg (by omega)]; decide
theorem kindO_of {k s : Int} (hk : 1 ≤ k ∧ k ≤ 6) : kindO (pieceOfB k s) = k := by
  unfold kindO pieceOfB; split <;> split <;> omega
/-- the square of a pawn that is taken as it passes -/
theorem ep_sq {F a b u : Int} (h4 : 4 ≤ F) (h8 : F ≤ 8) (ha : 0 ≤ a ∧ a < 64) (hb : 0 ≤ b ∧ b < 64) (hu : u = 1 ∨ u = -1) (h : b / F - a / F = u) : F * (a / F) + b % F = b - u * F := by
  rcases (show F = 4 ∨ F = 5 ∨ F = 6 ∨ F = 7 ∨ F = 8 by omega) with rfl | rfl | rfl | rfl | rfl <;> rcases hu with rfl | rfl <;> omega
theorem att_pawn {F : Int} {v : Int → Int} {a b : Int} (hk : kindO (v a) = 6) (h : attB F v a b = true) : dist (a % F) (b % F) = 1 ∧ b / F - a / F = (if v a = 6 then 1 else -1) := by
  unfold attB at h
  dsimp only at h
  rw [hk] at h
  simp only [Int.reduceEq, if_false, if_true, Bool.and_eq_true, decide_eq_true_eq] at h
  exact h
theorem pawn_up {p s : Int} (hp : 0 ≤ p ∧ p ≤ 12) (hs : 0 ≤ s ∧ s ≤ 1) (h : isOfB p s = true) (hk : kindO p = 6) : p = pieceOfB 6 s ∧ (if p = 6 then (1 : Int) else -1) = upB s := by
  unfold isOfB at h
  unfold kindO at hk
  unfold pieceOfB upB
  by_cases c : p ≤ 6
  · rw [if_pos c] at hk
    rw [if_neg (by omega), if_neg (by omega)] at h
    have := of_decide_eq_true h
    rw [if_pos this.symm, if_pos this.symm, if_pos hk]; exact ⟨hk, rfl⟩
  · rw [if_neg c] at hk
    rw [if_neg (by omega), if_pos (by omega)] at h
    have := of_decide_eq_true h
    rw [if_neg (by omega), if_neg (by omega), if_neg (by omega)]; omega
theorem findL_lt {p : Int → Bool} {j : Int} (hj : p j = true) : ∀ (d : Nat) (k : Int), k ≤ j → j < k + d → findL p k d < k + d ∧ p (findL p k d) = true := by
  intro d
  induction d with
  | zero => intro k h1 h2; omega
  | succ d ih =>
    intro k h1 h2
    unfold findL
    by_cases c : p k = true
    · rw [if_pos c]; exact ⟨by omega, c⟩
    · rw [if_neg c]
      have : k ≠ j := fun e => c (by rw [e]; exact hj)
      have := ih (k + 1) (by omega) (by omega)
      exact ⟨by omega, this.2⟩
theorem kingB_lt {F R : Int} {v : Int → Int} {its j : Int} (h0 : 0 ≤ F * R) (h1 : 0 ≤ j) (h2 : j < F * R) (h : v j = pieceOfB 1 its) : kingB F R v its < F * R ∧ v (kingB F R v its) = pieceOfB 1 its := by
  have := findL_lt (p := fun j => decide (v j = pieceOfB 1 its)) (j := j) (decide_eq_true h) (F * R).toNat 0 h1 (by omega)
  unfold kingB
  exact ⟨by omega, of_decide_eq_true this.2⟩
theorem mkV_low {F R : Int} {v : Int → Int} {a b c j : Int} (hj : j < 64) : mkV F R v a b c j = mk4 F R v a b c j := by
  unfold mkV mk6 upV
  rw [if_neg (by omega), if_neg (by omega), if_neg (by omega)]
/-- what is taken as it passes is a pawn of the other side -/
theorem ep_taken {F R : Int} {v : Int → Int} {a b : Int} (h4 : 4 ≤ F) (h8 : F ≤ 8) (hv : okV F R v) (he : epW F v) (ha : 0 ≤ a ∧ a < 64) (hb : 0 ≤ b ∧ b < 64) (ho : isOfB (v a) (v 64) = true) (hg : goB F R v a b = true)
    (hk : kindO (v a) = 6) (ht : takesB F v a b = true) (h0 : v b = 0) : v (F * (a / F) + b % F) = pieceOfB 6 (1 - v 64) ∧ b = v 66 := by
  have hs := hv.s
  have hp := hv.p a ha.1 ha.2
  obtain ⟨q1, q2⟩ := pawn_up hp hs ho hk
  unfold goB at hg
  rw [if_pos hk] at hg
  simp only [Bool.and_eq_true] at hg
  have hg := hg.2
  unfold takesB at ht
  simp only [h0, hk, decide_true, Bool.not_true, Bool.false_or, Bool.true_and, Bool.not_eq_true', decide_eq_false_iff_not] at ht
  unfold goPawnB at hg
  by_cases c : attB F v a b = true
  · rw [if_pos c] at hg
    simp only [h0, decide_true, Bool.not_true, Bool.false_or, decide_eq_true_eq] at hg
    obtain ⟨-, r2⟩ := att_pawn hk c
    rw [q2] at r2
    rw [ep_sq h4 h8 ha hb (upB_v _) r2]
    rcases he with e | e
    · omega
    · rw [← hg] at e; exact ⟨e, hg⟩
  · rw [if_neg c] at hg
    simp only [Bool.and_eq_true, decide_eq_true_eq] at hg
    exact absurd hg.1.1 ht
theorem goodG_of {F R : Int} {v : Int → Int} (h4 : 4 ≤ F) (h8 : F ≤ 8) (r4 : 4 ≤ R) (r8 : R ≤ 8) (hv : okV F R v) (hc : clV v) (he : epW F v) (hk : kingB F R v (v 64) < F * R) : goodG F R v := by
  have hn := FR_r h4 h8 r4 r8
  have hs := hv.s
  intro a b c ha1 ha2 hb1 hb2 hc1 hc2 hbec ho hg
  obtain ⟨o4, c4, o6, c6, -⟩ := mk6_ok (bec := c) h4 h8 r4 r8 hv hc ⟨ha1, ha2⟩ ⟨hb1, hb2⟩ ⟨hc1, by omega⟩
  refine ⟨okV_e o6 (by unfold mkE; split <;> omega), ?_⟩
  have hp := hv.p a (by omega) (by omega)
  have kr := kingB_r (F := F) (R := R) v (v 64) (by omega)
  have hkk : v (kingB F R v (v 64)) = pieceOfB 1 (v 64) := by
    have : ∀ (d : Nat) (j : Int), findL (fun j => decide (v j = pieceOfB 1 (v 64))) j d < j + d → v (findL (fun j => decide (v j = pieceOfB 1 (v 64))) j d) = pieceOfB 1 (v 64) := by
      intro d
      induction d with
      | zero => intro j hj; simp [findL] at hj
      | succ d ih =>
        intro j hj
        unfold findL at hj ⊢
        by_cases z : v j = pieceOfB 1 (v 64)
        · simp only [z, decide_true, if_true]
        · simp only [z, decide_false, Bool.false_eq_true, if_false] at hj ⊢
          exact ih (j + 1) (by omega)
    have := this (F * R).toNat 0 (by unfold kingB at hk; omega)
    exact this
  by_cases ck : kindO (v a) = 1
  · have c0 : c = 0 := by omega
    have e := isOfB_king hp hs ho ck
    refine (kingB_lt (by omega) hb1 hb2 ?_).1
    rw [mkV_low (by omega)]
    unfold mk4 upV
    rw [if_pos rfl, if_pos c0, e]
  · have n1 : kingB F R v (v 64) ≠ a := fun e => ck (by rw [← e, hkk]; exact kindO_of (by decide))
    have n2 : kingB F R v (v 64) ≠ b := fun e => by
      unfold goB at hg
      rw [← e, hkk, isOfB_of (by decide) hs] at hg
      simp at hg
    refine (kingB_lt (by omega) kr.1 hk ?_).1
    rw [mkV_low (by omega)]
    unfold mk4 upV
    rw [if_neg n2, if_neg n1]
    have : mk2 F R v a b = mk1 F v a b := if_neg (by unfold castingB; simp [ck])
    rw [this]
    unfold mk1
    split
    · rename_i z
      have n3 : kingB F R v (v 64) ≠ F * (a / F) + b % F := fun e => by
        have q := (ep_taken h4 h8 hv he ⟨ha1, by omega⟩ ⟨hb1, by omega⟩ ho hg z.1 z.2.1 z.2.2).1
        rw [← e, hkk] at q
        unfold pieceOfB at q
        split at q <;> split at q <;> omega
      unfold upV
      rw [if_neg n3]; exact hkk
    · exact hkk
