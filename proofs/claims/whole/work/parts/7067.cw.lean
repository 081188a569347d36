/-! PHASE 3, castling -/
/-- behind castling the squares are as before, but for king and rook -/
theorem mk_cast {F R a b : Int} {v : Int → Int} (r4 : 4 ≤ R) (r8 : R ≤ 8) (hv : okV F R v) (hsn : soundB F R v = true) (hcb : castB F R v a b = true) (hk1 : kindO (v a) = 1) (hcs : castingB F v a b = true) {j : Int} (hj : j < 64) :
    mkV F R v a b 0 j = if j = b then v a else if j = a then 0 else if j = (if a < b then a + 1 else a - 1) then pieceOfB 3 (v 64) else if j = (if a < b then a + 3 else a - 4) then 0 else v j := by
  obtain ⟨rfl, ea, hd⟩ := cast_data r4 r8 hv hsn hcb
  rw [mkV_low hj]
  unfold mk4 mk2
  rw [if_pos hcs, if_pos rfl]
  have m1 : mk1 8 v a b = v := if_neg (by omega)
  rw [m1]
  have hf : ∀ f : Int, homeB 8 R (v 64) f = a + (f - 4) := fun f => by rw [ea]; unfold homeB; omega
  rw [hf, hf]
  unfold upV
  by_cases g1 : j = b
  · rw [if_pos g1, if_pos g1]
  · rw [if_neg g1, if_neg g1]
    by_cases g2 : j = a
    · rw [if_pos g2, if_pos g2]
    · rw [if_neg g2, if_neg g2]
      by_cases hlt : a < b
      · simp only [if_pos hlt]
        rw [show a + (5 - 4 : Int) = a + 1 by omega, show a + (7 - 4 : Int) = a + 3 by omega]
      · simp only [if_neg hlt]
        rw [show a + (3 - 4 : Int) = a - 1 by omega, show a + (0 - 4 : Int) = a - 4 by omega]
/-- a row that leaves the home rank, or a piece that doesn't slide: nothing new attacks the king behind castling -/
theorem cast_safe {F R a b : Int} {v : Int → Int} (r4 : 4 ≤ R) (r8 : R ≤ 8) (hv : okV F R v) (hbr : brd F R v) (hsn : soundB F R v = true) (hk : kingB F R v (v 64) < F * R) (hone : oneK F R v (v 64)) (ha : 0 ≤ a ∧ a < F * R) (hb : 0 ≤ b ∧ b < F * R)
    (ho : isOfB (v a) (v 64) = true) (hk1 : kindO (v a) = 1) (hcb : castB F R v a b = true) (hcs : castingB F v a b = true) : chkB F R (mkV F R v a b 0) (v 64) = false := by
  have hcb0 := hcb
  obtain ⟨rfl, ea, hd⟩ := cast_data r4 r8 hv hsn hcb
  have hm := FR_r (show (4 : Int) ≤ 8 by decide) (show (8 : Int) ≤ 8 by decide) r4 r8
  have hs := hv.s
  have hva := isOfB_king (hv.p a ha.1 (by omega)) hs ho hk1
  have ml : ∀ j : Int, j < 64 → _ := fun j hj => mk_cast r4 r8 hv hsn hcb hk1 hcs hj
  have pk : pieceOfB 1 (v 64) ≠ 0 ∧ pieceOfB 3 (v 64) ≠ 0 ∧ pieceOfB 3 (v 64) ≠ pieceOfB 1 (v 64) := by
    rcases (show v 64 = 0 ∨ v 64 = 1 by omega) with e | e <;> rw [e] <;> decide
  have hh : a = 4 ∨ a = 8 * (R - 1) + 4 := by rw [ea]; unfold homeB; rcases (show v 64 = 0 ∨ v 64 = 1 by omega) with e | e <;> rw [e] <;> simp
  have hab : b = a + 2 ∨ b = a - 2 := by omega
  have o1 : isOfB (pieceOfB 1 (v 64)) (1 - v 64) = false ∧ isOfB (pieceOfB 3 (v 64)) (1 - v 64) = false := by
    rcases (show v 64 = 0 ∨ v 64 = 1 by omega) with e | e <;> rw [e] <;> decide
  -- the king stands on b
  have hK : kingB 8 R (mkV 8 R v a b 0) (v 64) = b := by
    refine king_is (by omega) hb.1 hb.2 (by rw [ml b (by omega), if_pos rfl, hva]) fun i i0 i1 hi => ?_
    rw [ml i (by omega)] at hi
    by_cases g1 : i = b
    · exact g1
    · rw [if_neg g1] at hi
      by_cases g2 : i = a
      · rw [if_pos g2] at hi; exact absurd hi.symm pk.1
      · rw [if_neg g2] at hi
        by_cases g3 : i = (if a < b then a + 1 else a - 1)
        · rw [if_pos g3] at hi; exact absurd hi pk.2.2
        · rw [if_neg g3] at hi
          by_cases g4 : i = (if a < b then a + 3 else a - 4)
          · rw [if_pos g4] at hi; exact absurd hi.symm pk.1
          · rw [if_neg g4] at hi
            have := hone i i0 i1 hi
            have := hone a ha.1 ha.2 hva
            omega
  -- b is not attacked before
  have hatk : atkB 8 R v b (1 - v 64) = false := by
    unfold castB castT at hcb
    simp only [Bool.and_eq_true, Bool.not_eq_true'] at hcb
    exact hcb.2.2.2
  cases hq : chkB 8 R (mkV 8 R v a b 0) (v 64)
  · rfl
  · exfalso
    unfold chkB atkB at hq
    rw [hK] at hq
    obtain ⟨t, t0, t1, t2⟩ := anyL_iff.mp hq
    have htF : t < 8 * R := by omega
    simp only [Bool.and_eq_true] at t2
    obtain ⟨to, ta⟩ := t2
    have mt : mkV 8 R v a b 0 t = v t ∧ t ≠ b ∧ t ≠ a ∧ t ≠ (if a < b then a + 1 else a - 1) ∧ t ≠ (if a < b then a + 3 else a - 4) := by
      rw [ml t (by omega)] at to ⊢
      by_cases g1 : t = b
      · rw [if_pos g1, hva, o1.1] at to; exact absurd to (by decide)
      · rw [if_neg g1] at to ⊢
        by_cases g2 : t = a
        · rw [if_pos g2] at to; simp [isOfB] at to
        · rw [if_neg g2] at to ⊢
          by_cases g3 : t = (if a < b then a + 1 else a - 1)
          · rw [if_pos g3, o1.2] at to; exact absurd to (by decide)
          · rw [if_neg g3] at to ⊢
            by_cases g4 : t = (if a < b then a + 3 else a - 4)
            · rw [if_pos g4] at to; simp [isOfB] at to
            · rw [if_neg g4]; exact ⟨rfl, g1, g2, g3, g4⟩
    rw [mt.1] at to
    have tn : attO 8 v (occB v) t b = false := by
      have := atk_of ⟨t0, htF⟩ hatk to
      rw [← attO_v] at this; exact this
    have ta2 : attO 8 v (occB (mkV 8 R v a b 0)) t b = true := by
      rw [← ta, ← attO_v]
      exact att_cong (by decide) (by decide) r4 r8 hm.2 ⟨t0, htF⟩ hb mt.1.symm (fun j _ _ => rfl)
    obtain ⟨st, sk, sl, sc, sn⟩ := slide_new tn ta2
    have sl2 : lineB 8 st b t = true := by rw [line_symm]; exact sl
    rw [← clear_symm sl2] at sc sn
    obtain ⟨d, s, hdd, d1, d2, s1, q4, q5⟩ := line_on (R := R) sl2
    have s7 := s_le7 (by decide) (by decide) ⟨hb.1, by omega⟩ ⟨t0, by omega⟩ hm.2 r8 hb.2 htF hdd s1 q4 q5
    rw [clearO_iff s1 hdd q4 q5] at sc
    by_cases hr : drD d = 0
    · -- along the home rank
      rw [hr, Int.mul_zero, Int.add_zero] at sc q5
      have hd0 : dfD d = 1 ∨ dfD d = -1 := by
        rcases dir_cases hdd.1 hdd.2 with rfl | rfl | rfl | rfl | rfl | rfl | rfl | rfl <;> simp (decide := true) only [drD, Int.reduceEq, if_true, if_false] at hr <;> decide
      have htb : t = b + s * dfD d := by omega
      rcases hd with ⟨eb, z1, z2, z3⟩ | ⟨eb, z1, z2, z3, z4⟩
      · -- short: the rook stands on the left, the edge on the right
        have hlt : a < b := by omega
        rw [if_pos hlt, if_pos hlt] at mt
        rcases hd0 with e | e
        · rw [e] at htb q4
          have : b % 8 = 6 := by omega
          omega
        · rw [e] at htb
          have s2 : 1 < s := by omega
          have := sc 1 (by decide) s2
          rw [e, show b + 1 * -1 = a + 1 by omega] at this
          unfold occB at this
          rw [ml (a + 1) (by omega), if_neg (by omega), if_neg (by omega), if_pos hlt, if_pos rfl, decide_eq_false pk.2.1] at this
          exact absurd this (by decide)
      · have hlt : ¬ a < b := by omega
        rw [if_neg hlt, if_neg hlt] at mt
        rcases hd0 with e | e
        · rw [e] at htb
          have s2 : 1 < s := by omega
          have := sc 1 (by decide) s2
          rw [e, show b + 1 * 1 = a - 1 by omega] at this
          unfold occB at this
          rw [ml (a - 1) (by omega), if_neg (by omega), if_neg (by omega), if_neg hlt, if_pos rfl, decide_eq_false pk.2.1] at this
          exact absurd this (by decide)
        · rw [e] at htb q4
          -- on the left stand b1 (empty) and a1 (the rook's)
          have : b % 8 = 2 := by omega
          have hs12 : s = 1 ∨ s = 2 := by omega
          rcases hs12 with e1 | e1
          · have : t = a - 3 := by omega
            rw [this, z3] at to
            simp [isOfB] at to
          · omega
    · -- away from the home rank: nothing has changed there
      have : clearO 8 (occB v) b t = true := (clearO_iff s1 hdd q4 q5).mpr fun u u1 u2 => by
        have h1 := sc u u1 u2
        obtain ⟨m1, m2⟩ := step_mid (by decide) (by decide) r4 r8 hb hdd ⟨t0, htF⟩ s7 u1 (by omega) q4 q5
        obtain ⟨m3, -⟩ := (ray_iff (by decide) (by decide) r4 r8 m1).mp m2
        obtain ⟨w', x1, x2, x3, x4, x5, x6⟩ := ray_step (by decide) (by decide) r4 r8 hb hdd m1 m2
        have hne := step_ne (F := 8) (by decide) (by decide) hdd
        have hw : w' = u := by
          have : w' * (dfD d + 8 * drD d) = u * (dfD d + 8 * drD d) := by omega
          exact Int.eq_of_mul_eq_mul_right hne this
        rw [hw] at x6
        have hdr : drD d = 1 ∨ drD d = -1 := by
          rcases dir_cases hdd.1 hdd.2 with rfl | rfl | rfl | rfl | rfl | rfl | rfl | rfl <;> simp (decide := true) only [drD, Int.reduceEq, if_true, if_false] at hr ⊢
        have hrank : (b + u * (dfD d + 8 * drD d)) / 8 ≠ a / 8 := by
          have : b / 8 = a / 8 := by omega
          rw [x6]
          rcases hdr with e | e <;> rw [e] <;> omega
        generalize b + u * (dfD d + 8 * drD d) = y at h1 hrank m1 m3 ⊢
        unfold occB at h1 ⊢
        have e1 : (if a < b then a + 1 else a - 1) / 8 = a / 8 := by split <;> omega
        have e2 : (if a < b then a + 3 else a - 4) / 8 = a / 8 := by split <;> omega
        rw [ml y (by omega), if_neg (fun e => hrank (by rw [e]; omega)), if_neg (fun e => hrank (by rw [e])), if_neg (fun e => hrank (by rw [e]; exact e1)), if_neg (fun e => hrank (by rw [e]; exact e2))] at h1
        exact h1
      rw [sn] at this
      exact absurd this (by decide)
/-- castling is a legal move -/
theorem cast_leg {F R a b : Int} {v : Int → Int} (h4 : 4 ≤ F) (h8 : F ≤ 8) (r4 : 4 ≤ R) (r8 : R ≤ 8) (hv : okV F R v) (hbr : brd F R v) (hsn : soundB F R v = true) (hk : kingB F R v (v 64) < F * R) (hone : oneK F R v (v 64)) (ha : 0 ≤ a ∧ a < F * R) (hb : 0 ≤ b ∧ b < F * R)
    (ho : isOfB (v a) (v 64) = true) (hk1 : kindO (v a) = 1) : (legB F R v a b && castingB F v a b) = castB F R v a b := by
  cases hc : castB F R v a b
  · cases hl : legB F R v a b
    · rfl
    · have hg : goB F R v a b = true := by unfold legB at hl; simp only [Bool.and_eq_true] at hl; exact hl.1
      have := king_go h4 h8 r4 r8 hv hsn ⟨ha.1, by have := FR_r h4 h8 r4 r8; omega⟩ ⟨hb.1, by have := FR_r h4 h8 r4 r8; omega⟩ hk1 hg
      cases z : castingB F v a b
      · rfl
      · rw [this.1.mp z] at hc; exact absurd hc (by decide)
  · have hc0 := hc
    obtain ⟨e8, ea, hd⟩ := cast_data r4 r8 hv hsn hc
    have hs := hv.s
    have hvb : v b = 0 := by rcases hd with ⟨eb, z1, z2, z3⟩ | ⟨eb, z1, z2, z3, z4⟩ <;> rw [eb] <;> assumption
    have hg : goB F R v a b = true := by
      unfold goB
      rw [if_neg (by omega), hc, decide_eq_true hk1, hvb, decide_eq_false (show ¬ a = b by omega)]
      simp [isOfB]
    have hm := FR_r h4 h8 r4 r8
    have hcs := (king_go h4 h8 r4 r8 hv hsn ⟨ha.1, by omega⟩ ⟨hb.1, by omega⟩ hk1 hg).1.mpr hc
    unfold legB
    rw [hg, hcs, cast_safe r4 r8 hv hbr hsn hk hone ha hb ho hk1 hc hcs]
    rfl
