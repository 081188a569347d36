theorem chk_at {F R : Int} {v : Int → Int} {s t : Int} (ht : 0 ≤ t ∧ t < F * R) (h : chkB F R v s = false) (ho : isOfB (v t) (1 - s) = true) : attB F v t (kingB F R v s) = false := by
  cases q : attB F v t (kingB F R v s)
  · rfl
  · exfalso
    have : chkB F R v s = true := by
      unfold chkB atkB
      exact anyL_iff.mpr ⟨t, ht.1, by omega, by rw [ho, q]; rfl⟩
    rw [h] at this; exact absurd this (by decide)
theorem atk_of {F R : Int} {v : Int → Int} {sq s t : Int} (ht : 0 ≤ t ∧ t < F * R) (h : atkB F R v sq s = false) (ho : isOfB (v t) s = true) : attB F v t sq = false := by
  cases q : attB F v t sq
  · rfl
  · exfalso
    have : atkB F R v sq s = true := by
      unfold atkB
      exact anyL_iff.mpr ⟨t, ht.1, by omega, by rw [ho, q]; rfl⟩
    rw [h] at this; exact absurd this (by decide)
/-- an attack that comes just by what is empty now goes along a row -/
theorem slide_new {F : Int} {v : Int → Int} {o1 o2 : Int → Bool} {t q : Int} (h1 : attO F v o1 t q = false) (h2 : attO F v o2 t q = true) :
    ∃ st : Bool, (if st then kindO (v t) = 2 ∨ kindO (v t) = 3 else kindO (v t) = 2 ∨ kindO (v t) = 4) ∧ lineB F st t q = true ∧ clearO F o2 t q = true ∧ clearO F o1 t q = false := by
  rw [att_line] at h1 h2
  split at h2
  · rename_i e; rw [if_pos e, h2] at h1; exact absurd h1 (by decide)
  · rename_i n1
    rw [if_neg n1] at h1
    split at h2
    · rename_i e
      rw [if_pos e] at h1
      simp only [Bool.and_eq_true, Bool.or_eq_true] at h2
      obtain ⟨hl, hc⟩ := h2
      have hcf : clearO F o1 t q = false := by
        cases z : clearO F o1 t q
        · rfl
        · rw [z] at h1
          rcases hl with hl | hl <;> rw [hl] at h1 <;> simp at h1
      rcases hl with hl | hl
      · exact ⟨true, Or.inl e, hl, hc, hcf⟩
      · exact ⟨false, Or.inl e, hl, hc, hcf⟩
    · rename_i n2
      rw [if_neg n2] at h1
      split at h2
      · rename_i e
        rw [if_pos e] at h1
        simp only [Bool.and_eq_true] at h2
        rw [h2.1, Bool.true_and] at h1
        exact ⟨true, Or.inr e, h2.1, h2.2, h1⟩
      · rename_i n3
        rw [if_neg n3] at h1
        split at h2
        · rename_i e
          rw [if_pos e] at h1
          simp only [Bool.and_eq_true] at h2
          rw [h2.1, Bool.true_and] at h1
          exact ⟨false, Or.inr e, h2.1, h2.2, h1⟩
        · rename_i n4
          rw [if_neg n4] at h1
          rw [h1] at h2; exact absurd h2 (by decide)
/-- a slider with a free row attacks -/
theorem slide_att {F : Int} {v : Int → Int} {oc : Int → Bool} {t q : Int} {st : Bool} (hk : if st then kindO (v t) = 2 ∨ kindO (v t) = 3 else kindO (v t) = 2 ∨ kindO (v t) = 4) (hl : lineB F st t q = true) (hc : clearO F oc t q = true) : attO F v oc t q = true := by
  rw [att_line]
  cases st
  · simp only [Bool.false_eq_true, if_false] at hk
    rcases hk with e | e
    · rw [if_neg (by omega), if_pos e, hl, hc]; simp
    · rw [if_neg (by omega), if_neg (by omega), if_neg (by omega), if_pos e, hl, hc]; rfl
  · simp only [if_true] at hk
    rcases hk with e | e
    · rw [if_neg (by omega), if_pos e, hl, hc]; simp
    · rw [if_neg (by omega), if_neg (by omega), if_pos e, hl, hc]; rfl
theorem step_ne {F d : Int} (h4 : 4 ≤ F) (h8 : F ≤ 8) (hd : 0 ≤ d ∧ d < 8) : dfD d + F * drD d ≠ 0 := by
  rcases dir_cases hd.1 hd.2 with rfl | rfl | rfl | rfl | rfl | rfl | rfl | rfl <;> rcases F_cases h4 h8 with rfl | rfl | rfl | rfl | rfl <;> decide
theorem fast_safe {F R a b : Int} {v : Int → Int} (h4 : 4 ≤ F) (h8 : F ≤ 8) (r4 : 4 ≤ R) (r8 : R ≤ 8) (hv : okV F R v) (hbr : brd F R v) (he : epS F R v) (hk : kingB F R v (v 64) < F * R) (hone : oneK F R v (v 64)) (ha : 0 ≤ a ∧ a < F * R) (hb : 0 ≤ b ∧ b < F * R)
    (ho : isOfB (v a) (v 64) = true) (hg : goB F R v a b = true) (hc : castingB F v a b = false) (hf : fastB F R v a = true) : chkB F R (mkV F R v a b 0) (v 64) = false := by
  have hm := FR_r h4 h8 r4 r8
  have hs := hv.s
  have hkr := kingB_r v (v 64) (show 0 ≤ F * R by omega)
  have ml : ∀ j : Int, j < 64 → _ := fun j hj => mk_low (R := R) h4 h8 hv he ⟨ha.1, by omega⟩ ⟨hb.1, by omega⟩ ho hg hc hj
  have hva0 : v a ≠ 0 := fun e => by rw [e] at ho; simp [isOfB] at ho
  unfold fastB at hf
  simp only [Bool.and_eq_true, Bool.not_eq_true', decide_eq_false_iff_not] at hf
  obtain ⟨⟨⟨hchk, hpc⟩, hk1⟩, hsh⟩ := hf
  have hK := king_mk h4 h8 r4 r8 hv he hk hone ha hb ho hg hc
  rw [if_neg hk1] at hK
  have hopp : isOfB (v a) (1 - v 64) = false := by
    have := hv.p a ha.1 (by omega)
    rcases (show v 64 = 0 ∨ v 64 = 1 by omega) with e | e <;> rw [e] at ho ⊢ <;> rcases kind_cases this with q | q | q | q | q | q | q | q | q | q | q | q | q <;> rw [q] at ho ⊢ <;> first | rfl | exact absurd ho (by decide)
  have ml2 : ∀ j : Int, j < 64 → mkV F R v a b 0 j = if j = b then v a else if j = a then 0 else v j := fun j hj => by
    rw [ml j hj, hpc]; simp
  cases hq : chkB F R (mkV F R v a b 0) (v 64)
  · rfl
  · exfalso
    have hq2 : atkB F R (mkV F R v a b 0) (kingB F R v (v 64)) (1 - v 64) = true := by rw [← hK]; exact hq
    obtain ⟨t, t0, t1, t2⟩ := anyL_iff.mp hq2
    have htF : t < F * R := by omega
    simp only [Bool.and_eq_true] at t2
    obtain ⟨to, ta⟩ := t2
    have tb : t ≠ b := fun e => by rw [ml2 t (by omega), if_pos e, hopp] at to; exact absurd to (by decide)
    have tna : t ≠ a := fun e => by rw [ml2 t (by omega), if_neg tb, if_pos e] at to; simp [isOfB] at to
    have mt : mkV F R v a b 0 t = v t := by rw [ml2 t (by omega), if_neg tb, if_neg tna]
    rw [mt] at to
    have ta2 : attO F v (occB (mkV F R v a b 0)) t (kingB F R v (v 64)) = true := by
      rw [← ta, ← attO_v]
      exact att_cong h4 h8 r4 r8 hm.2 ⟨t0, htF⟩ ⟨hkr.1, hk⟩ mt.symm (fun j _ _ => rfl)
    have tn : attO F v (occB v) t (kingB F R v (v 64)) = false := by
      have := chk_at ⟨t0, htF⟩ hchk to
      rw [← attO_v] at this; exact this
    obtain ⟨st, sk, sl, sc, sn⟩ := slide_new tn ta2
    have sl2 : lineB F st (kingB F R v (v 64)) t = true := by rw [line_symm]; exact sl
    rw [← clear_symm sl2] at sc sn
    obtain ⟨d, s, hd, d1, d2, s1, q4, q5⟩ := line_on (R := R) sl2
    have s7 := s_le7 h4 h8 ⟨hkr.1, by omega⟩ ⟨t0, by omega⟩ hm.2 r8 hk htF hd s1 q4 q5
    have hne := step_ne h4 h8 hd
    rw [clearO_iff s1 hd q4 q5] at sc
    have hex : ∃ u : Int, 1 ≤ u ∧ u < s ∧ occB v (kingB F R v (v 64) + u * (dfD d + F * drD d)) = true := by
      apply Classical.byContradiction
      intro hno
      have : clearO F (occB v) (kingB F R v (v 64)) t = true := (clearO_iff s1 hd q4 q5).mpr fun u u1 u2 => by
        cases z : occB v (kingB F R v (v 64) + u * (dfD d + F * drD d))
        · rfl
        · exact absurd ⟨u, u1, u2, z⟩ hno
      rw [sn] at this; exact absurd this (by decide)
    have on : ∀ u : Int, 1 ≤ u → u < s → 0 ≤ kingB F R v (v 64) + u * (dfD d + F * drD d) ∧ kingB F R v (v 64) + u * (dfD d + F * drD d) < F * R ∧ (kingB F R v (v 64) + u * (dfD d + F * drD d)) % F = kingB F R v (v 64) % F + u * dfD d ∧ (kingB F R v (v 64) + u * (dfD d + F * drD d)) / F = kingB F R v (v 64) / F + u * drD d := fun u u1 u2 => by
      obtain ⟨m1, m2⟩ := step_mid h4 h8 r4 r8 ⟨hkr.1, hk⟩ hd ⟨t0, htF⟩ s7 u1 (by omega) q4 q5
      obtain ⟨m3, w, w1, w2, w3, w4⟩ := (ray_iff h4 h8 r4 r8 m1).mp m2
      obtain ⟨w', x1, x2, x3, x4, x5, x6⟩ := ray_step h4 h8 r4 r8 ⟨hkr.1, hk⟩ hd m1 m2
      have : w' = u := by
        have : w' * (dfD d + F * drD d) = u * (dfD d + F * drD d) := by omega
        exact Int.eq_of_mul_eq_mul_right hne this
      rw [this] at x5 x6
      exact ⟨m1, m3, x5, x6⟩
    -- what is not the piece itself stays as it was
    have stay : ∀ u : Int, 1 ≤ u → u < s → kingB F R v (v 64) + u * (dfD d + F * drD d) ≠ a → occB v (kingB F R v (v 64) + u * (dfD d + F * drD d)) = false := fun u u1 u2 u3 => by
      have h1 := sc u u1 u2
      obtain ⟨n1, n2, -, -⟩ := on u u1 u2
      unfold occB at h1 ⊢
      rw [ml2 _ (by omega)] at h1
      by_cases g : kingB F R v (v 64) + u * (dfD d + F * drD d) = b
      · rw [if_pos g, decide_eq_false hva0] at h1; exact absurd h1 (by decide)
      · rw [if_neg g, if_neg u3] at h1; exact h1
    obtain ⟨u, u1, u2, u3⟩ := hex
    have hua : kingB F R v (v 64) + u * (dfD d + F * drD d) = a := by
      apply Classical.byContradiction
      intro hno
      rw [stay u u1 u2 hno] at u3
      exact absurd u3 (by decide)
    obtain ⟨n1, n2, n3, n4⟩ := on u u1 u2
    rw [hua] at n3 n4
    have hseen : slideB F R (occB v) (kingB F R v (v 64)) st a = true := by
      rw [slide_iff h4 h8 r4 r8 hm.2 ⟨hkr.1, hk⟩ ⟨ha.1, by omega⟩, decide_eq_true ha.2, dir_line (st := st) d1 d2 u1 n3 n4, Bool.true_and, Bool.true_and]
      refine (clearO_iff u1 hd n3 n4).mpr fun w w1 w2 => stay w w1 (by omega) fun e => ?_
      rw [← hua] at e
      have : w * (dfD d + F * drD d) = u * (dfD d + F * drD d) := by omega
      have := Int.eq_of_mul_eq_mul_right hne this
      omega
    have hs0 : sh0 F R v a = true := by
      unfold sh0 reachC
      rw [if_neg (by decide), if_pos rfl, ho, Bool.and_true, Bool.or_eq_true]
      cases st
      · exact Or.inr hseen
      · exact Or.inl hseen
    have hnone : noneB (foundB F R v (fun u => occB v u && !sh0 F R v u) (1 - v 64) (kingB F R v (v 64))) = false := by
      cases z : noneB (foundB F R v (fun u => occB v u && !sh0 F R v u) (1 - v 64) (kingB F R v (v 64)))
      · rfl
      · exfalso
        have := allL_iff.mp z t t0 (by omega)
        rw [found_iff h4 h8 r4 r8 hm.2 ⟨hkr.1, hk⟩ ⟨t0, by omega⟩ (by omega) (hv.p t t0 (by omega)) (fun g => hbr t g (by omega)), to] at this
        have hat : attO F v (fun u => occB v u && !sh0 F R v u) t (kingB F R v (v 64)) = true := by
          refine slide_att sk sl ?_
          rw [← clear_symm sl2]
          refine (clearO_iff s1 hd q4 q5).mpr fun w w1 w2 => ?_
          by_cases g : kingB F R v (v 64) + w * (dfD d + F * drD d) = a
          · rw [g, hs0]; simp
          · rw [stay w w1 w2 g]; rfl
        rw [hat] at this
        exact absurd this (by decide)
    unfold shB at hsh
    rw [hnone, hs0] at hsh
    exact absurd hsh (by decide)
theorem tgt_leg {F R a b : Int} {v : Int → Int} (h4 : 4 ≤ F) (h8 : F ≤ 8) (r4 : 4 ≤ R) (r8 : R ≤ 8) (hv : okV F R v) (hbr : brd F R v) (he : epS F R v) (hsn : soundB F R v = true) (hk : kingB F R v (v 64) < F * R) (hone : oneK F R v (v 64)) (ha : 0 ≤ a ∧ a < F * R) (hb : 0 ≤ b ∧ b < F * R)
    (ho : isOfB (v a) (v 64) = true) : tgtB F R v a b = (legB F R v a b && !castingB F v a b) := by
  have hm := FR_r h4 h8 r4 r8
  have hai := aims_iff h4 h8 r4 r8 hm.2 hv he ha hb ho
  -- the aims are the moves that are no castling
  have hgo : aimsB F R v a b = (goB F R v a b && !castingB F v a b) := by
    rw [hai]
    by_cases hk6 : kindO (v a) = 6
    · rw [if_pos hk6]
      have : castingB F v a b = false := by unfold castingB; rw [decide_eq_false (by omega)]; rfl
      rw [this]; simp
    · rw [if_neg hk6]
      have hab : attB F v a b = true → decide (a = b) = false := fun e => decide_eq_false (att_ne e)
      by_cases hk1 : kindO (v a) = 1
      · cases hat : attB F v a b
        · rw [Bool.false_and]
          cases hg : goB F R v a b
          · rfl
          · have := king_go h4 h8 r4 r8 hv hsn ⟨ha.1, by omega⟩ ⟨hb.1, by omega⟩ hk1 hg
            unfold goB at hg
            rw [if_neg hk6, hat] at hg
            simp only [Bool.and_eq_true, Bool.false_or] at hg
            rw [this.1.mpr hg.2.2]; rfl
        · have hnc : castingB F v a b = false := by
            cases z : castingB F v a b
            · rfl
            · exfalso
              unfold castingB at z
              simp only [Bool.and_eq_true, decide_eq_true_eq] at z
              rw [← attO_v, att_line, if_pos hk1] at hat
              simp only [Bool.and_eq_true, decide_eq_true_eq] at hat
              omega
          unfold goB
          rw [if_neg hk6, hat, hnc, hab hat]; simp
      · have hnc : castingB F v a b = false := by unfold castingB; rw [decide_eq_false hk1]; rfl
        unfold goB
        rw [if_neg hk6, hnc, decide_eq_false hk1]
        cases hat : attB F v a b
        · simp
        · rw [hab hat]; simp
  unfold tgtB legB
  rw [hgo]
  cases hc : castingB F v a b
  · cases hg : goB F R v a b
    · simp
    · simp only [Bool.not_false, Bool.and_true, Bool.true_and]
      by_cases hf : fastB F R v a = true
      · rw [if_pos hf, fast_safe h4 h8 r4 r8 hv hbr he hk hone ha hb ho hg hc hf]; rfl
      · rw [if_neg hf, safe_iff h4 h8 r4 r8 hv hbr he hk hone ha hb ho hg hc]
  · simp
