/-! PHASE 3, what a move changes, pure -/
/-- the passing square is empty, and the pawn that passed stands behind it -/
def epS (F R : Int) (v : Int → Int) : Prop := v 66 = -1 ∨ (((0 ≤ v 66 ∧ v 66 < F * R) ∧ 0 ≤ v 66 - upB (v 64) * F ∧ v 66 - upB (v 64) * F < F * R) ∧ v (v 66) = 0 ∧ v (v 66 - upB (v 64) * F) = pieceOfB 6 (1 - v 64))
theorem epS.w {F R : Int} {v : Int → Int} (h : epS F R v) : epW F v := by
  rcases h with h | h
  · exact Or.inl h
  · exact Or.inr h.2.2
theorem upB_ne (s : Int) : upB s = 1 ∨ upB s = -1 := upB_v s
/-- a pawn's move, by what it can be -/
theorem pawn_go {F R : Int} {v : Int → Int} {a b : Int} (h4 : 4 ≤ F) (h8 : F ≤ 8) (hv : okV F R v) (ha : 0 ≤ a ∧ a < 64) (hb : 0 ≤ b ∧ b < 64) (ho : isOfB (v a) (v 64) = true) (hk : kindO (v a) = 6) (hg : goB F R v a b = true) :
    (dist (a % F) (b % F) = 1 ∧ b / F - a / F = upB (v 64) ∧ (v b ≠ 0 ∨ b = v 66)) ∨
    (a % F = b % F ∧ v b = 0 ∧ b / F - a / F = upB (v 64)) ∨
    (a % F = b % F ∧ v b = 0 ∧ b / F - a / F = 2 * upB (v 64) ∧ 6 ≤ R ∧ a / F = firstB R (v 64) + upB (v 64) ∧ v (a + upB (v 64) * F) = 0) := by
  have hs := hv.s
  have hp := hv.p a ha.1 ha.2
  obtain ⟨q1, q2⟩ := pawn_up hp hs ho hk
  unfold goB at hg
  rw [if_pos hk] at hg
  simp only [Bool.and_eq_true] at hg
  have hg := hg.2
  unfold goPawnB at hg
  by_cases c : attB F v a b = true
  · rw [if_pos c] at hg
    obtain ⟨r1, r2⟩ := att_pawn hk c
    rw [q2] at r2
    refine Or.inl ⟨r1, r2, ?_⟩
    simpa using hg
  · rw [if_neg c] at hg
    simp only [Bool.and_eq_true, Bool.or_eq_true, decide_eq_true_eq] at hg
    obtain ⟨⟨g1, g2⟩, g3⟩ := hg
    have hu := upB_ne (v 64)
    rcases g3 with g3 | ⟨⟨⟨g3, g5⟩, g6⟩, g7⟩
    · refine Or.inr (Or.inl ⟨g1, g2, ?_⟩)
      rcases hu with hu | hu <;> rw [hu] at g3 ⊢ <;> omega
    · refine Or.inr (Or.inr ⟨g1, g2, ?_, g5, g6, g7⟩)
      rcases hu with hu | hu <;> rw [hu] at g3 ⊢ <;> omega
/-- to the passing square a pawn goes just by taking -/
theorem ep_iff {F R : Int} {v : Int → Int} {a b : Int} (h4 : 4 ≤ F) (h8 : F ≤ 8) (hv : okV F R v) (he : epS F R v) (ha : 0 ≤ a ∧ a < 64) (hb : 0 ≤ b ∧ b < 64) (ho : isOfB (v a) (v 64) = true) (hk : kindO (v a) = 6) (hg : goB F R v a b = true) :
    (b = v 66 ↔ takesB F v a b = true ∧ v b = 0) ∧ (b = v 66 → F * (a / F) + b % F = b - upB (v 64) * F) := by
  have hs := hv.s
  have hp := hv.p a ha.1 ha.2
  obtain ⟨q1, q2⟩ := pawn_up hp hs ho hk
  have hop : pieceOfB 6 (v 64) ≠ pieceOfB 6 (1 - v 64) := by unfold pieceOfB; rcases (show v 64 = 0 ∨ v 64 = 1 by omega) with e | e <;> rw [e] <;> decide
  have key : b = v 66 → dist (a % F) (b % F) = 1 ∧ b / F - a / F = upB (v 64) ∧ v b = 0 := by
    intro e
    rcases he with he | ⟨he1, he2, he3⟩
    · omega
    · rw [← e] at he2 he3
      rcases pawn_go h4 h8 hv ha hb ho hk hg with ⟨g1, g2, _⟩ | ⟨g1, g2, g3⟩ | ⟨g1, g2, g3, _, _, g7⟩
      · exact ⟨g1, g2, he2⟩
      · exfalso
        have : b - upB (v 64) * F = a := by
          rcases upB_ne (v 64) with hu | hu <;> rw [hu] at g3 ⊢ <;> rcases F_cases h4 h8 with rfl | rfl | rfl | rfl | rfl <;> omega
        rw [this, q1] at he3
        exact hop he3
      · exfalso
        have : b - upB (v 64) * F = a + upB (v 64) * F := by
          rcases upB_ne (v 64) with hu | hu <;> rw [hu] at g3 ⊢ <;> rcases F_cases h4 h8 with rfl | rfl | rfl | rfl | rfl <;> omega
        rw [this, g7] at he3
        unfold pieceOfB at he3
        split at he3 <;> omega
  refine ⟨⟨fun e => ?_, fun hh => (ep_taken h4 h8 hv he.w ha hb ho hg hk hh.1 hh.2).2⟩, fun e => ?_⟩
  · obtain ⟨g1, g2, g3⟩ := key e
    refine ⟨?_, g3⟩
    unfold takesB
    have : a % F ≠ b % F := fun e => by rw [e] at g1; unfold dist at g1; omega
    simp [hk, this]
  · obtain ⟨g1, g2, g3⟩ := key e
    exact ep_sq h4 h8 ha hb (upB_v _) g2
theorem sound_at {F R : Int} {v : Int → Int} (h : soundB F R v = true) {i : Int} (h0 : 0 ≤ i) (h1 : i < 4) (hb : v 65 / 2 ^ i.toNat % 2 = 1) :
    F = 8 ∧ v (homeB F R (if i < 2 then 1 else 0) 4) = pieceOfB 1 (if i < 2 then 1 else 0) ∧ v (homeB F R (if i < 2 then 1 else 0) (if i % 2 = 0 then 7 else 0)) = pieceOfB 3 (if i < 2 then 1 else 0) := by
  have := allL_iff.mp h i h0 (by omega)
  unfold soundAt at this
  rw [if_pos hb] at this
  simpa [and_assoc] using this
theorem rights_8 {F R : Int} {v : Int → Int} (hr : 0 ≤ v 65 ∧ v 65 ≤ 15) (h : soundB F R v = true) (hne : v 65 ≠ 0) : F = 8 := by
  have : v 65 / 2 ^ 0 % 2 = 1 ∨ v 65 / 2 ^ 1 % 2 = 1 ∨ v 65 / 2 ^ 2 % 2 = 1 ∨ v 65 / 2 ^ 3 % 2 = 1 := by omega
  rcases this with e | e | e | e
  · exact (sound_at h (i := 0) (by decide) (by decide) e).1
  · exact (sound_at h (i := 1) (by decide) (by decide) e).1
  · exact (sound_at h (i := 2) (by decide) (by decide) e).1
  · exact (sound_at h (i := 3) (by decide) (by decide) e).1
/-- what castling says of the board -/
theorem cast_data {F R : Int} {v : Int → Int} {a b : Int} (r4 : 4 ≤ R) (r8 : R ≤ 8) (hv : okV F R v) (hsn : soundB F R v = true) (h : castB F R v a b = true) :
    F = 8 ∧ a = homeB 8 R (v 64) 4 ∧ ((b = a + 2 ∧ v (a + 1) = 0 ∧ v (a + 2) = 0 ∧ v (a + 3) = pieceOfB 3 (v 64)) ∨ (b = a - 2 ∧ v (a - 1) = 0 ∧ v (a - 2) = 0 ∧ v (a - 3) = 0 ∧ v (a - 4) = pieceOfB 3 (v 64))) := by
  have hs := hv.s
  unfold castB at h
  simp only [Bool.and_eq_true, decide_eq_true_eq, Bool.or_eq_true] at h
  obtain ⟨⟨rfl, hb⟩, ht⟩ := h
  unfold castT at ht
  simp only [Bool.and_eq_true, decide_eq_true_eq] at ht
  obtain ⟨⟨⟨g1, g2⟩, g3⟩, -⟩ := ht
  have hh : ∀ f : Int, homeB 8 R (v 64) f = homeB 8 R (v 64) 0 + f := fun f => by unfold homeB; omega
  have h0 : homeB 8 R (v 64) 0 = 0 ∨ homeB 8 R (v 64) 0 = 8 * (R - 1) := by unfold homeB; rcases (show v 64 = 0 ∨ v 64 = 1 by omega) with e | e <;> rw [e] <;> simp
  have hd := hh 4
  refine ⟨rfl, g2, ?_⟩
  by_cases c : b = homeB 8 R (v 64) 6
  · left
    rw [decide_eq_true c] at g1
    rw [if_pos c] at g3
    have e6 := hh 6
    have e7 := hh 7
    have sn := sound_at hsn (i := rbit (v 64) true) (rbit_r _ _).1 (rbit_r _ _).2 g1
    have hs3 : v (homeB 8 R (v 64) 7) = pieceOfB 3 (v 64) := by
      rcases (show v 64 = 0 ∨ v 64 = 1 by omega) with e | e <;> rw [e] at sn ⊢ <;> exact sn.2.2
    have cl : clearO 8 (fun k => !decide (v k = 0)) a (homeB 8 R (v 64) 7) = true := by rw [clearO_v]; exact g3
    have cl := (clearO_iff (F := 8) (a := a) (b := homeB 8 R (v 64) 7) (s := 3) (d := 0) (by decide) (by decide) (by simp only [dfD, Int.reduceEq, if_true, if_false]; rcases h0 with q | q <;> omega) (by simp only [drD, Int.reduceEq, if_true, if_false]; rcases h0 with q | q <;> omega)).mp cl
    have c1 := cl 1 (by decide) (by decide)
    have c2 := cl 2 (by decide) (by decide)
    simp only [dfD, drD, Int.reduceEq, if_true, if_false, Int.reduceMul, Int.reduceAdd, Bool.not_eq_false', decide_eq_true_eq] at c1 c2
    refine ⟨by omega, c1, c2, ?_⟩
    rw [show a + 3 = homeB 8 R (v 64) 7 by omega]; exact hs3
  · right
    have c2 : b = homeB 8 R (v 64) 2 := hb.resolve_left c
    rw [decide_eq_false c] at g1
    rw [if_neg c] at g3
    have e2 := hh 2
    have sn := sound_at hsn (i := rbit (v 64) false) (rbit_r _ _).1 (rbit_r _ _).2 g1
    have hs3 : v (homeB 8 R (v 64) 0) = pieceOfB 3 (v 64) := by
      rcases (show v 64 = 0 ∨ v 64 = 1 by omega) with e | e <;> rw [e] at sn ⊢ <;> exact sn.2.2
    have cl : clearO 8 (fun k => !decide (v k = 0)) a (homeB 8 R (v 64) 0) = true := by rw [clearO_v]; exact g3
    have cl := (clearO_iff (F := 8) (a := a) (b := homeB 8 R (v 64) 0) (s := 4) (d := 2) (by decide) (by decide) (by simp only [dfD, Int.reduceEq, if_true, if_false]; rcases h0 with q | q <;> omega) (by simp only [drD, Int.reduceEq, if_true, if_false]; rcases h0 with q | q <;> omega)).mp cl
    have k1 := cl 1 (by decide) (by decide)
    have k2 := cl 2 (by decide) (by decide)
    have k3 := cl 3 (by decide) (by decide)
    simp only [dfD, drD, Int.reduceEq, if_true, if_false, Int.reduceMul, Int.reduceAdd, Bool.not_eq_false', decide_eq_true_eq, Int.reduceNeg] at k1 k2 k3
    refine ⟨by omega, ?_, ?_, ?_, ?_⟩
    · rw [show a - 1 = a + -1 by omega]; exact k1
    · rw [show a - 2 = a + -2 by omega]; exact k2
    · rw [show a - 3 = a + -3 by omega]; exact k3
    · rw [show a - 4 = homeB 8 R (v 64) 0 by omega]; exact hs3
/-- a king's move is a step or castling -/
theorem king_go {F R : Int} {v : Int → Int} {a b : Int} (h4 : 4 ≤ F) (h8 : F ≤ 8) (r4 : 4 ≤ R) (r8 : R ≤ 8) (hv : okV F R v) (hsn : soundB F R v = true) (ha : 0 ≤ a ∧ a < 64) (hb : 0 ≤ b ∧ b < 64) (hk : kindO (v a) = 1) (hg : goB F R v a b = true) :
    (castingB F v a b = true ↔ castB F R v a b = true) ∧ (b - a = 2 ↔ castingB F v a b = true ∧ a < b) ∧ (a - b = 2 ↔ castingB F v a b = true ∧ ¬ a < b) := by
  have hcb : castB F R v a b = true → castingB F v a b = true ∧ (b = a + 2 ∨ b = a - 2) := by
    intro hc
    have hs := hv.s
    obtain ⟨rfl, e, hd⟩ := cast_data r4 r8 hv hsn hc
    have hh : homeB 8 R (v 64) 4 = 4 ∨ homeB 8 R (v 64) 4 = 8 * (R - 1) + 4 := by unfold homeB; rcases (show v 64 = 0 ∨ v 64 = 1 by omega) with e | e <;> rw [e] <;> simp
    unfold castingB
    rw [decide_eq_true hk, Bool.true_and, decide_eq_true_eq]
    unfold dist
    omega
  unfold goB at hg
  rw [if_neg (by omega)] at hg
  simp only [Bool.and_eq_true, Bool.or_eq_true, decide_eq_true_eq] at hg
  obtain ⟨hne, hg⟩ := hg
  have hat : attB F v a b = true → dist (a % F) (b % F) ≤ 1 ∧ dist (a / F) (b / F) ≤ 1 := by
    intro h
    unfold attB at h
    dsimp only at h
    rw [if_pos hk] at h
    simp only [Bool.and_eq_true, decide_eq_true_eq] at h
    exact ⟨h.1.1, h.1.2⟩
  have hcast : castingB F v a b = true → castB F R v a b = true := by
    intro h
    unfold castingB at h
    simp only [Bool.and_eq_true, decide_eq_true_eq] at h
    rcases hg with hg | hg
    · have := hat hg; omega
    · exact hg.2
  refine ⟨⟨hcast, fun h => (hcb h).1⟩, ?_, ?_⟩
  · constructor
    · intro h
      rcases hg with hg | hg
      · exfalso
        obtain ⟨g1, g2⟩ := hat hg
        unfold dist at g1 g2
        rcases F_cases h4 h8 with rfl | rfl | rfl | rfl | rfl <;> omega
      · exact ⟨(hcb hg.2).1, by omega⟩
    · rintro ⟨h1, h2⟩
      have := (hcb (hcast h1)).2
      omega
  · constructor
    · intro h
      rcases hg with hg | hg
      · exfalso
        obtain ⟨g1, g2⟩ := hat hg
        unfold dist at g1 g2
        rcases F_cases h4 h8 with rfl | rfl | rfl | rfl | rfl <;> omega
      · exact ⟨(hcb hg.2).1, by omega⟩
    · rintro ⟨h1, h2⟩
      have := (hcb (hcast h1)).2
      omega
theorem upV_comm {w : Int → Int} {i j x y : Int} (h : i ≠ j) : upV (upV w i x) j y = upV (upV w j y) i x := by
  funext k
  unfold upV
  by_cases c1 : k = i
  · rw [if_neg (by omega), if_pos c1, if_pos c1]
  · by_cases c2 : k = j
    · rw [if_pos c2, if_neg c1, if_pos c2]
    · rw [if_neg c2, if_neg c1, if_neg c1, if_neg c2]
theorem upV_self {w : Int → Int} {i x : Int} (h : w i = x) : upV w i x = w := by
  funext k
  unfold upV
  split
  · rename_i e; rw [e, h]
  · rfl
/-- one right after the other, as the class goes through them -/
def stepR (la lb x : Int) (i : Int) : Int := if la = 2 ^ i.toNat ∨ lb = 2 ^ i.toNat then clr x (2 ^ i.toNat) else x
theorem rights_steps {r la lb km : Int} (hr : 0 ≤ r ∧ r ≤ 15) (ha : la = 0 ∨ la = 1 ∨ la = 2 ∨ la = 4 ∨ la = 8) (hb : lb = 0 ∨ lb = 1 ∨ lb = 2 ∨ lb = 4 ∨ lb = 8) (hk : km = 0 ∨ km = 3 ∨ km = 12) :
    clr (clr (clr r la) lb) km = stepR la lb (stepR la lb (stepR la lb (stepR la lb (clr r km) 0) 1) 2) 3 := by
  obtain ⟨n, hn, rfl⟩ : ∃ n : Nat, n < 16 ∧ r = n := ⟨r.toNat, by omega, by omega⟩
  clear hr
  have key : ∀ n : Nat, n < 16 → ∀ la ∈ [(0 : Int), 1, 2, 4, 8], ∀ lb ∈ [(0 : Int), 1, 2, 4, 8], ∀ km ∈ [(0 : Int), 3, 12], clr (clr (clr (n : Int) la) lb) km = stepR la lb (stepR la lb (stepR la lb (stepR la lb (clr (n : Int) km) 0) 1) 2) 3 := by decide +kernel
  exact key n hn la (by simp; omega) lb (by simp; omega) km (by simp; omega)
