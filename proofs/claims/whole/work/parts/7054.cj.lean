/-! PHASE 3, proper positions as the class tells them -/
def heldB (r s : Int) : Int := if s = 1 then r % 4 else r / 4
def soundS (F R : Int) (v : Int → Int) (s : Int) : Bool :=
  if heldB (v 65) s = 0 then true
  else decide (F = 8) && decide (v (homeB F R s 4) = pieceOfB 1 s) && (decide (heldB (v 65) s % 2 = 0) || decide (v (homeB F R s 7) = pieceOfB 3 s)) && (decide (heldB (v 65) s / 2 % 2 = 0) || decide (v (homeB F R s 0) = pieceOfB 3 s))
theorem sound_two {F R : Int} {v : Int → Int} (hr : 0 ≤ v 65 ∧ v 65 ≤ 15) : soundB F R v = (soundS F R v 1 && soundS F R v 0) := by
  unfold soundB soundS heldB
  simp only [allL, soundAt, Bool.and_true]
  generalize v 65 = r at hr ⊢
  simp only [Int.reduceEq, Int.reduceLT, Int.reduceAdd, if_true, if_false, show (0 : Int).toNat = 0 by rfl, show ((0 + 1 : Int)).toNat = 1 by rfl, show ((0 + 1 + 1 : Int)).toNat = 2 by rfl, show ((0 + 1 + 1 + 1 : Int)).toNat = 3 by rfl, Int.reduceMod]
  rcases (show r = 0 ∨ r = 1 ∨ r = 2 ∨ r = 3 ∨ r = 4 ∨ r = 5 ∨ r = 6 ∨ r = 7 ∨ r = 8 ∨ r = 9 ∨ r = 10 ∨ r = 11 ∨ r = 12 ∨ r = 13 ∨ r = 14 ∨ r = 15 by omega) with rfl | rfl | rfl | rfl | rfl | rfl | rfl | rfl | rfl | rfl | rfl | rfl | rfl | rfl | rfl | rfl <;>
    simp (decide := true) only [Bool.and_true, Bool.true_and, Bool.and_assoc, if_true, if_false, Bool.false_or, Bool.true_or, decide_true, decide_false] <;>
    (generalize decide (F = 8) = b0; generalize decide (v (homeB F R 1 4) = pieceOfB 1 1) = b1; generalize decide (v (homeB F R 1 7) = pieceOfB 3 1) = b2; generalize decide (v (homeB F R 1 0) = pieceOfB 3 1) = b3; generalize decide (v (homeB F R 0 4) = pieceOfB 1 0) = b4; generalize decide (v (homeB F R 0 7) = pieceOfB 3 0) = b5; generalize decide (v (homeB F R 0 0) = pieceOfB 3 0) = b6; revert b0 b1 b2 b3 b4 b5 b6; decide)
theorem cnt_z {F R : Int} {v : Int → Int} (hn : 0 ≤ F * R ∧ F * R ≤ 64) (hb : brd F R v) {p : Int} (hp : p ≠ 0) : zcnt (fun k => decide (v k = p)) = cntB F R v p := by
  rw [zcnt_board hn.1 hn.2 (fun k h0 h1 => by rw [hb k h0 h1]; exact decide_eq_false fun e => hp e.symm)]
  unfold cntB
  exact sumL_congr _ _ fun j _ _ => by simp only [decide_eq_true_eq]
theorem edge_pawns {F R : Int} {v : Int → Int} (h4 : 4 ≤ F) (h8 : F ≤ 8) (r4 : 4 ≤ R) (r8 : R ≤ 8) : (∀ k : Int, 0 ≤ k → k < 64 → (decide (kindO (v k) = 6) && edgeB F R k) = false) ↔ allL (pawnFree F R v) 0 F.toNat = true := by
  rw [allL_iff]
  unfold pawnFree edgeB
  constructor
  · intro h j h0 h1
    have a := h j h0 (by omega)
    have e1 : j < F * R ∧ j / F = 0 := by rcases F_cases h4 h8 with rfl | rfl | rfl | rfl | rfl <;> omega
    have b := h (F * (R - 1) + j) (by rcases F_cases h4 h8 with rfl | rfl | rfl | rfl | rfl <;> omega) (by rcases F_cases h4 h8 with rfl | rfl | rfl | rfl | rfl <;> omega)
    have e2 : F * (R - 1) + j < F * R ∧ (F * (R - 1) + j) / F = R - 1 := by rcases F_cases h4 h8 with rfl | rfl | rfl | rfl | rfl <;> omega
    rw [decide_eq_true e1.1, decide_eq_true e1.2] at a
    rw [decide_eq_true e2.1, decide_eq_true e2.2] at b
    simp only [Bool.true_or, Bool.or_true, Bool.and_true] at a b
    rw [a, b]; rfl
  · intro h k h0 h1
    by_cases q : k < F * R
    · rw [decide_eq_true q, Bool.true_and]
      by_cases q1 : k / F = 0
      · have := h k h0 (by rcases F_cases h4 h8 with rfl | rfl | rfl | rfl | rfl <;> omega)
        rw [Bool.and_eq_true, Bool.not_eq_true'] at this
        rw [this.1]; rfl
      · by_cases q2 : k / F = R - 1
        · have := h (k - F * (R - 1)) (by rcases F_cases h4 h8 with rfl | rfl | rfl | rfl | rfl <;> omega) (by rcases F_cases h4 h8 with rfl | rfl | rfl | rfl | rfl <;> omega)
          rw [Bool.and_eq_true, Bool.not_eq_true', Bool.not_eq_true', show F * (R - 1) + (k - F * (R - 1)) = k by omega] at this
          rw [this.2]; rfl
        · rw [decide_eq_false q1, decide_eq_false q2]; simp
    · rw [decide_eq_false q]; simp
section
variable {D : wD} {S : wS} {o : Nat → Nat} {c : cM} {F R : Int} {p : Nat} {v : Int → Int}
theorem q_hasSoundRights {post : Int32 → wS → Prop} (h : CC D S o) (hB : BG c F R) (hp : isP p) (hv : okV F R v) (hA : PAt c p v) {s : Int} (hs : s = 0 ∨ s = 1) (k : post (iI (bI (soundS F R v s))) (cS S o c)) :
    wp_X7_hasSoundRights D post (cS S o c) (o p) (iI s) := by
  have hm := hB.m
  have hr := hv.r
  have e6 : sI (cS S o c) (o p) 6 = iI (v 65) := by rw [c_i0 h hp.1]; exact congrArg iI hA.2.2.2.2.2.1
  have hf : sI (cS S o c) (o 1) 0 = iI F := by rw [c_i0 h (by decide)]; exact congrArg iI hB.f
  have hsz : sI (cS S o c) (o 1) 2 = iI (F * R) := by rw [c_i0 h (by decide)]; exact congrArg iI hB.n
  have hH : 0 ≤ heldB (v 65) s ∧ heldB (v 65) s ≤ 3 := by unfold heldB; split <;> omega
  have hpc : ∀ (kd : Int), 1 ≤ kd → kd ≤ 6 → iI kd + iI (if s = 1 then 0 else 6) = iI (pieceOfB kd s) := fun kd _ _ => by
    rw [iI_add]; unfold pieceOfB; congr 1; split <;> omega
  have ok13 : ∀ j : Int, 0 ≤ j → j < 64 → ∀ kd, 1 ≤ kd → kd ≤ 6 → (iI (v j) = iI (pieceOfB kd s)) = (v j = pieceOfB kd s) := fun j h0 h1 kd k1 k2 => by
    have := hv.p j h0 h1
    have h2 := pieceOfB_r (p := kd) (s := s) (by omega)
    rw [iI_eq (by omega) (by omega) (by omega) (by omega)]
  have b1 : (iI (heldB (v 65) s) &&& iI 1 = iI 0) = (heldB (v 65) s % 2 = 0) := by
    rcases (show heldB (v 65) s = 0 ∨ heldB (v 65) s = 1 ∨ heldB (v 65) s = 2 ∨ heldB (v 65) s = 3 by omega) with e | e | e | e <;> rw [e] <;> decide
  have b2 : (iI (heldB (v 65) s) &&& iI 2 = iI 0) = (heldB (v 65) s / 2 % 2 = 0) := by
    rcases (show heldB (v 65) s = 0 ∨ heldB (v 65) s = 1 ∨ heldB (v 65) s = 2 ∨ heldB (v 65) s = 3 by omega) with e | e | e | e <;> rw [e] <;> decide
  -- behind the home square
  have main : ∀ t : Int, (F = 8 → t = homeB F R s 0) → heldB (v 65) s ≠ 0 → wp_X7_hasSoundRights_55 D post (cS S o c) (o p) (iI (heldB (v 65) s)) (iI t) (iI (if s = 1 then 0 else 6)) := by
    intro t ht hne
    unfold wp_X7_hasSoundRights_55
    refine ⟨o 1, c_r h hp.2.2.1, (c_m h (by decide)).mpr trivial, c_k h (by decide), ?_⟩
    rw [hf]
    simp only [iI_lit]
    have lF : (iI F = iI 8) = (F = 8) := by rw [iI_eq (by have := hB.f4; omega) (by have := hB.f8; omega) (by decide) (by decide)]
    rw [lF]
    unfold soundS at k
    rw [if_neg hne] at k
    unfold wp_X7_hasSoundRights_83 wp_X7_hasSoundRights_106
    by_cases c8 : F = 8
    · refine ⟨fun hh => absurd c8 hh, fun _ => ?_⟩
      have e0 := ht c8
      have hh4 := homeB_r2 (F := F) (R := R) (its := s) (f := 4) hB.f4 hB.f8 hB.r4 hB.r8 (by decide)
      have hh7 := homeB_r2 (F := F) (R := R) (its := s) (f := 7) hB.f4 hB.f8 hB.r4 hB.r8 (by decide)
      have hh0 := homeB_r2 (F := F) (R := R) (its := s) (f := 0) hB.f4 hB.f8 hB.r4 hB.r8 (by decide)
      have t4 : iI t + iI 4 = iI (homeB F R s 4) := by rw [iI_add, e0]; congr 1; unfold homeB; omega
      have t7 : iI t + iI 7 = iI (homeB F R s 7) := by rw [iI_add, e0]; congr 1; unfold homeB; omega
      rw [t4, q_pieceOn h hp hv.p hA hh4, hpc 1 (by decide) (by decide), ok13 _ hh4.1 hh4.2 1 (by decide) (by decide)]
      rw [decide_eq_true c8, Bool.true_and] at k
      -- the long right behind the short one
      have long : ∀ b : Bool, (decide (v (homeB F R s 4) = pieceOfB 1 s) = true) → (decide (heldB (v 65) s % 2 = 0) || decide (v (homeB F R s 7) = pieceOfB 3 s)) = b → wp_X7_hasSoundRights_111 D post (cS S o c) (o p) (iI (heldB (v 65) s)) (iI t) (iI (if s = 1 then 0 else 6)) (iI (bI b)) := by
        intro b q1 q2
        rw [q1, q2, Bool.true_and] at k
        unfold wp_X7_hasSoundRights_111 wp_X7_hasSoundRights_131 wp_X7_hasSoundRights_136 wp_X7_hasSoundRights_152 wp_X7_hasSoundRights_153
        simp only [iI_lit]
        rw [b2, e0, q_pieceOn h hp hv.p hA hh0, hpc 3 (by decide) (by decide), ok13 _ hh0.1 hh0.2 3 (by decide) (by decide), nar_0, nar_1]
        by_cases g1 : heldB (v 65) s / 2 % 2 = 0 <;> by_cases g2 : v (homeB F R s 0) = pieceOfB 3 s <;> cases b <;> simp (decide := true) [g1, g2, bI] at k ⊢ <;> exact k
      by_cases g4 : v (homeB F R s 4) = pieceOfB 1 s
      · refine ⟨fun _ => ?_, fun hh => absurd g4 hh⟩
        rw [b1]
        by_cases g1 : heldB (v 65) s % 2 = 0
        · exact ⟨fun _ => long true (decide_eq_true g4) (by rw [decide_eq_true g1]; rfl), fun hh => absurd g1 hh⟩
        · refine ⟨fun hh => absurd hh g1, fun _ => ?_⟩
          rw [t7, q_pieceOn h hp hv.p hA hh7, hpc 3 (by decide) (by decide), ok13 _ hh7.1 hh7.2 3 (by decide) (by decide)]
          by_cases g7 : v (homeB F R s 7) = pieceOfB 3 s
          · exact ⟨fun hh => absurd g7 hh, fun _ => long true (decide_eq_true g4) (by rw [decide_eq_true g7, Bool.or_true])⟩
          · exact ⟨fun _ => long false (decide_eq_true g4) (by rw [decide_eq_false g1, decide_eq_false g7]; rfl), fun hh => absurd hh g7⟩
      · refine ⟨fun hh => absurd hh g4, fun _ => ?_⟩
        rw [decide_eq_false g4] at k
        exact ⟨nr0, by simp only [Bool.false_and] at k; exact k⟩
    · refine ⟨fun _ => ?_, fun hh => absurd hh c8⟩
      rw [decide_eq_false c8] at k
      exact ⟨nr0, by simp only [Bool.false_and] at k; exact k⟩
  have at19 : wp_X7_hasSoundRights_19 D post (cS S o c) (o p) (iI s) (iI (heldB (v 65) s)) := by
    unfold wp_X7_hasSoundRights_19 wp_X7_hasSoundRights_44
    simp only [iI_lit]
    have l0 : (iI (heldB (v 65) s) = iI 0) = (heldB (v 65) s = 0) := by rw [iI_eq (by omega) (by omega) (by decide) (by decide)]
    rw [l0]
    refine ⟨fun hne => ⟨fun hs0 => ⟨o 1, c_r h hp.2.2.1, (c_m h (by decide)).mpr trivial, c_k h (by decide), ?_⟩, fun hs1 => ?_⟩, fun he => ⟨nr1, ?_⟩⟩
    · have s0 : s = 0 := by rcases hs with e | e; exact e; rw [e] at hs0; exact absurd hs0 (by decide)
      rw [hsz, iI_sub]
      refine ⟨fun _ => ?_, fun hh => absurd hs0 hh⟩
      have := main (F * R - 8) (fun c8 => by rw [s0, c8]; unfold homeB; simp; omega) hne
      rw [s0] at this ⊢
      exact this
    · have s1 : s = 1 := by rcases hs with e | e; rw [e] at hs1; exact absurd rfl hs1; exact e
      refine ⟨fun hh => absurd hh hs1, fun _ => ?_⟩
      have := main 0 (fun c8 => by rw [s1]; unfold homeB; simp) hne
      rw [s1] at this ⊢
      exact this
    · unfold soundS at k
      rw [if_pos he] at k
      exact k
  unfold wp_X7_hasSoundRights wp_X7_hasSoundRights_0
  rw [e6]
  simp only [iI_lit]
  have r3 : iI (v 65) &&& iI 3 = iI (v 65 % 4) := by
    generalize v 65 = r at hr
    rcases (show r = 0 ∨ r = 1 ∨ r = 2 ∨ r = 3 ∨ r = 4 ∨ r = 5 ∨ r = 6 ∨ r = 7 ∨ r = 8 ∨ r = 9 ∨ r = 10 ∨ r = 11 ∨ r = 12 ∨ r = 13 ∨ r = 14 ∨ r = 15 by omega) with rfl | rfl | rfl | rfl | rfl | rfl | rfl | rfl | rfl | rfl | rfl | rfl | rfl | rfl | rfl | rfl <;> decide
  have r2 : jiushr (iI (v 65)) (iI 2) = iI (v 65 / 4) := by
    generalize v 65 = r at hr
    rcases (show r = 0 ∨ r = 1 ∨ r = 2 ∨ r = 3 ∨ r = 4 ∨ r = 5 ∨ r = 6 ∨ r = 7 ∨ r = 8 ∨ r = 9 ∨ r = 10 ∨ r = 11 ∨ r = 12 ∨ r = 13 ∨ r = 14 ∨ r = 15 by omega) with rfl | rfl | rfl | rfl | rfl | rfl | rfl | rfl | rfl | rfl | rfl | rfl | rfl | rfl | rfl | rfl <;> decide
  rw [r3, r2]
  rcases hs with rfl | rfl
  · exact ⟨fun _ => at19, fun hh => absurd rfl hh⟩
  · exact ⟨fun hh => absurd hh (by decide), fun _ => at19⟩
end
