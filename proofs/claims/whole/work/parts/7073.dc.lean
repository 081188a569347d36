theorem own_opp {p s : Int} (hp : 0 ≤ p ∧ p ≤ 12) (hs : s = 0 ∨ s = 1) (h : isOfB p s = true) : isOfB p (1 - s) = false ∧ p ≠ 0 ∧ ∀ k : Int, 1 ≤ k → k ≤ 6 → p ≠ pieceOfB k (1 - s) := by
  refine ⟨?_, ?_, ?_⟩
  · rcases hs with e | e <;> rw [e] at h ⊢ <;> rcases kind_cases hp with q | q | q | q | q | q | q | q | q | q | q | q | q <;> rw [q] at h ⊢ <;> first | rfl | exact absurd h (by decide)
  · intro e; rw [e] at h; simp [isOfB] at h
  · intro k k1 k6 e
    rw [e] at h
    rcases hs with q | q <;> rw [q] at h <;> rcases (show k = 1 ∨ k = 2 ∨ k = 3 ∨ k = 4 ∨ k = 5 ∨ k = 6 by omega) with z | z | z | z | z | z <;> rw [z] at h <;> exact absurd h (by decide)
/-- the piece that stands on the square of a move behind it -/
theorem mk_new {F R a b c : Int} {v : Int → Int} (hv : okV F R v) (hn : F * R ≤ 64) (ok : okMv F R v (a, b, c)) : isOfB (mkV F R v a b c b) (v 64) = true ∧ (0 ≤ mkV F R v a b c b ∧ mkV F R v a b c b ≤ 12) := by
  obtain ⟨ha, hb, hc, ho, hl, hbc⟩ := ok
  dsimp only at ha hb hc ho hl hbc
  rw [mk_to (by omega)]
  by_cases c0 : c = 0
  · rw [if_pos c0]; exact ⟨ho, hv.p a ha.1 (by omega)⟩
  · rw [if_neg c0]; exact ⟨isOfB_of (by omega) hv.s, pieceOfB_r (by omega)⟩
theorem no_king {F R a b c : Int} {v : Int → Int} (h4 : 4 ≤ F) (h8 : F ≤ 8) (r4 : 4 ≤ R) (r8 : R ≤ 8) (hv : PV F R v) (ok : okMv F R v (a, b, c)) : isOfB (v b) (v 64) = false ∧ v b ≠ pieceOfB 1 (1 - v 64) := by
  have hm := FR_r h4 h8 r4 r8
  obtain ⟨v1, v2, v3, v4, v5⟩ := id hv
  obtain ⟨p1, p2, p3, p4, p5⟩ := proper_parts v5
  have hs := v1.s
  obtain ⟨ha, hb, hc, ho, hl, hbc⟩ := ok
  dsimp only at ha hb hc ho hl hbc
  have hg : goB F R v a b = true := by unfold legB at hl; simp only [Bool.and_eq_true] at hl; exact hl.1
  have hgo := hg
  refine ⟨by unfold goB at hg; simp only [Bool.and_eq_true, Bool.not_eq_true'] at hg; exact hg.1.2, fun e => ?_⟩
  have hk := (kings_of (F := F) (R := R) (by omega) v5 (s := 1 - v 64) (by omega)).2 b hb.1 hb.2 e
  have pk : pieceOfB 1 (1 - v 64) ≠ 0 := by unfold pieceOfB; split <;> decide
  have hna : attB F v a b = false := by
    have : atkB F R v (kingB F R v (1 - v 64)) (1 - (1 - v 64)) = false := p5
    rw [show 1 - (1 - v 64) = v 64 by omega, ← hk] at this
    exact atk_of ha this ho
  by_cases hk6 : kindO (v a) = 6
  · obtain ⟨q1, q2⟩ := pawn_up (v1.p a ha.1 (by omega)) hs ho hk6
    rcases pawn_go h4 h8 v1 ⟨ha.1, by omega⟩ ⟨hb.1, by omega⟩ ho hk6 hgo with ⟨g1, g2, -⟩ | ⟨-, g2, -⟩ | ⟨-, g2, -⟩
    · have : attB F v a b = true := by
        rw [← attO_v, att_line, hk6, q2]
        simp only [Int.reduceEq, if_false, if_true, g1, g2, decide_true, Bool.and_self]
      rw [hna] at this; exact absurd this (by decide)
    · rw [g2] at e; exact pk e.symm
    · rw [g2] at e; exact pk e.symm
  · unfold goB at hgo
    rw [if_neg hk6, hna] at hgo
    simp only [Bool.and_eq_true, Bool.false_or] at hgo
    obtain ⟨e8, ea, hd⟩ := cast_data r4 r8 v1 p3 hgo.2.2
    have : v b = 0 := by rcases hd with ⟨eb, z1, z2, z3⟩ | ⟨eb, z1, z2, z3, z4⟩ <;> rw [eb] <;> assumption
    rw [this] at e; exact pk e.symm
theorem clr_bit {r k i : Int} (hr : 0 ≤ r ∧ r ≤ 15) (hk : 0 ≤ k ∧ k ≤ 15) (hi : 0 ≤ i ∧ i < 4) (h : clr r k / 2 ^ i.toNat % 2 = 1) : r / 2 ^ i.toNat % 2 = 1 ∧ k / 2 ^ i.toNat % 2 = 0 := by
  obtain ⟨n, hn, rfl⟩ : ∃ n : Nat, n < 16 ∧ r = n := ⟨r.toNat, by omega, by omega⟩
  obtain ⟨q, hq, rfl⟩ : ∃ n : Nat, n < 16 ∧ k = n := ⟨k.toNat, by omega, by omega⟩
  obtain ⟨j, hj, rfl⟩ : ∃ n : Nat, n < 4 ∧ i = n := ⟨i.toNat, by omega, by omega⟩
  clear hr hk hi
  revert h
  have key : ∀ n : Nat, n < 16 → ∀ q : Nat, q < 16 → ∀ j : Nat, j < 4 → clr (n : Int) (q : Int) / 2 ^ ((j : Int)).toNat % 2 = 1 → (n : Int) / 2 ^ ((j : Int)).toNat % 2 = 1 ∧ (q : Int) / 2 ^ ((j : Int)).toNat % 2 = 0 := by decide +kernel
  exact key n hn q hq j hj
theorem corner_lost {R a i : Int} (r4 : 4 ≤ R) (r8 : R ≤ 8) (hi : 0 ≤ i ∧ i < 4) (h : lostB 8 R a / 2 ^ i.toNat % 2 = 0) : a ≠ homeB 8 R (if i < 2 then 1 else 0) (if i % 2 = 0 then 7 else 0) := by
  intro e
  have lc := lost_corner (a := a) r4 r8
  have hz : ∀ k : Int, lostB 8 R a = k → k / 2 ^ i.toNat % 2 = 0 := fun k hk => by rw [← hk]; exact h
  rcases (show i = 0 ∨ i = 1 ∨ i = 2 ∨ i = 3 by omega) with rfl | rfl | rfl | rfl
  · exact absurd (hz _ (lc.1.mpr (by rw [e]; unfold homeB; simp))) (by decide)
  · exact absurd (hz _ (lc.2.1.mpr (by rw [e]; unfold homeB; simp))) (by decide)
  · exact absurd (hz _ (lc.2.2.1.mpr (by rw [e]; unfold homeB; simp; omega))) (by decide)
  · exact absurd (hz _ (lc.2.2.2.1.mpr (by rw [e]; unfold homeB; simp; omega))) (by decide)
theorem chk_bec {F R a b c : Int} {v : Int → Int} (h4 : 4 ≤ F) (h8 : F ≤ 8) (r4 : 4 ≤ R) (r8 : R ≤ 8) (hv : okV F R v) (ok : okMv F R v (a, b, c)) (hk0 : kingB F R (mkV F R v a b 0) (v 64) < F * R) : chkB F R (mkV F R v a b c) (v 64) = chkB F R (mkV F R v a b 0) (v 64) := by
  have hm := FR_r h4 h8 r4 r8
  have hs := hv.s
  obtain ⟨ha, hb, hc, ho, hl, hbc⟩ := id ok
  dsimp only at ha hb hc ho hl hbc
  by_cases c0 : c = 0
  · rw [c0]
  · have hk6 : kindO (v a) = 6 := by
      split at hbc
      · rename_i e; unfold becB at e; simp only [Bool.and_eq_true, decide_eq_true_eq] at e; exact e.1
      · exact absurd hbc c0
    have e1 : mkV F R v a b c b = pieceOfB c (v 64) := by rw [mk_to (by omega), if_neg c0]
    have e0 : mkV F R v a b 0 b = v a := by rw [mk_to (by omega), if_pos rfl]
    have c2 : 2 ≤ c := by
      split at hbc
      · exact hbc
      · exact absurd hbc c0
    have c25 : 2 ≤ c ∧ c ≤ 5 := ⟨c2, hc.2⟩
    have n1 : pieceOfB c (v 64) ≠ pieceOfB 1 (v 64) := by unfold pieceOfB; split <;> omega
    have n0 : v a ≠ pieceOfB 1 (v 64) := fun e => by rw [e, kindO_of (by decide)] at hk6; omega
    have hK : kingB F R (mkV F R v a b c) (v 64) = kingB F R (mkV F R v a b 0) (v 64) := by
      unfold kingB
      refine findL_congr _ _ fun j j0 j1 => ?_
      by_cases e : j = b
      · rw [e, e1, e0, decide_eq_false n1, decide_eq_false n0]
      · rw [mk_bec (by omega) e]
    unfold chkB atkB
    rw [hK]
    have hKr := kingB_r (F := F) (R := R) (mkV F R v a b 0) (v 64) (by omega)
    have occ : ∀ j : Int, 0 ≤ j → j < 64 → occB (mkV F R v a b c) j = occB (mkV F R v a b 0) j := fun j j0 j1 => by
      unfold occB
      by_cases e : j = b
      · rw [e, e1, e0, decide_eq_false (show ¬ pieceOfB c (v 64) = 0 by unfold pieceOfB; split <;> omega), decide_eq_false (own_opp (hv.p a ha.1 (by omega)) (by omega) ho).2.1]
      · rw [mk_bec (by omega) e]
    apply Bool.eq_iff_iff.mpr
    have bit : ∀ j : Int, 0 ≤ j → j < F * R → (isOfB (mkV F R v a b c j) (1 - v 64) && attB F (mkV F R v a b c) j (kingB F R (mkV F R v a b 0) (v 64))) = (isOfB (mkV F R v a b 0 j) (1 - v 64) && attB F (mkV F R v a b 0) j (kingB F R (mkV F R v a b 0) (v 64))) := fun j j0 j1 => by
      by_cases e : j = b
      · rw [e, e1, e0]
        rw [(own_opp (pieceOfB_r (p := c) (s := v 64) (by omega)) (by omega) (isOfB_of (by omega) hs)).1, (own_opp (hv.p a ha.1 (by omega)) (by omega) ho).1]; rfl
      · rw [mk_bec (by omega) e]
        congr 1
        rw [← attO_v, ← attO_v]
        exact att_cong h4 h8 r4 r8 hm.2 ⟨j0, j1⟩ ⟨hKr.1, hk0⟩ (mk_bec (by omega) e) occ
    rw [anyL_iff, anyL_iff]
    constructor
    · rintro ⟨j, j0, j1, j2⟩
      exact ⟨j, j0, j1, by rw [← bit j j0 (by omega)]; exact j2⟩
    · rintro ⟨j, j0, j1, j2⟩
      exact ⟨j, j0, j1, by rw [bit j j0 (by omega)]; exact j2⟩
