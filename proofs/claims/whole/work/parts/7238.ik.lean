section
variable {F R kd : Int} {v : Int → Int}
theorem clear_end (b : BFR F R) {q t w : Int} (hq : 0 ≤ q ∧ q < F * R) (ht : 0 ≤ t ∧ t < F * R) {st : Bool} (hl : lineB F st q t = true) (h3 : ∀ j, 0 ≤ j → j < 64 → v j ≠ 0 → j = w ∨ j = t ∨ j = q) (hc : clearO F (fun k => decide (k = w) || decide (k = t)) q t = true) : clearO F (fun k => !decide (v k = 0)) q t = true := by
  have hn := FR_r b.1.1 b.1.2 b.2.1 b.2.2
  obtain ⟨d, s, hd, -, -, q3, q4, q5⟩ := line_on (R := R) hl
  have s7 := s_le7 b.1.1 b.1.2 ⟨hq.1, by omega⟩ ⟨ht.1, by omega⟩ hn.2 b.2.2 hq.2 ht.2 hd q3 q4 q5
  rw [clearO_iff q3 hd q4 q5] at hc ⊢
  intro s1 k1 k2
  obtain ⟨m1, m2⟩ := step_mid b.1.1 b.1.2 b.2.1 b.2.2 hq hd ht s7 k1 (by omega) q4 q5
  have m3 := ((ray_iff b.1.1 b.1.2 b.2.1 b.2.2 m1).mp m2).1
  have c1 := hc s1 k1 k2
  rw [Bool.or_eq_false_iff, decide_eq_false_iff_not, decide_eq_false_iff_not] at c1
  by_cases z : v (q + s1 * (dfD d + F * drD d)) = 0
  · rw [decide_eq_true z]; rfl
  · exfalso
    rcases h3 _ m1 (by omega) z with e | e | e
    · exact c1.1 e
    · exact c1.2 e
    · have e0 : s1 * (dfD d + F * drD d) = 0 := by omega
      rcases Int.mul_eq_zero.mp e0 with y | y
      · omega
      · have h4 := b.1.1
        rcases dir_cases hd.1 hd.2 with rfl | rfl | rfl | rfl | rfl | rfl | rfl | rfl <;> simp only [dfD, drD, Int.reduceEq, if_true, if_false] at y <;> omega
/-- the ending on the board is one of the table's legal places -/
theorem end_legal (b : BFR F R) (hv : okV F R v) (hb : brd F R v) (hk : kofB F R v ≠ -1) : ofEnd F (kofB F R v) (1 - v 64) (kingB F R v 1) (kingB F R v 0) (lowO v) = true := by
  have hn := FR_r b.1.1 b.1.2 b.2.1 b.2.2
  obtain ⟨⟨k1, k2, k3, k4, k5⟩, k6, k7, k8⟩ := kofB_p hk
  obtain ⟨g1, g2, g3⟩ := (kof_en (sol := fun _ => 0) b hv hb).2 hk
  obtain ⟨o1, o2, o3, -⟩ := oth_ex (v := v) (by omega)
  have K1 := kings_of (F := F) (R := R) (v := v) (by omega) k5 (s := 1) (.inr rfl)
  have K0 := kings_of (F := F) (R := R) (v := v) (by omega) k5 (s := 0) (.inl rfl)
  have r1 := kingB_r (F := F) (R := R) v 1 (by omega)
  have r0 := kingB_r (F := F) (R := R) v 0 (by omega)
  have v1 : v (kingB F R v 1) = 1 := king_at (by omega) K1.1
  have v0 : v (kingB F R v 0) = 7 := king_at (by omega) K0.1
  have hs : v 64 = 0 ∨ v 64 = 1 := by have := hv.s; omega
  have chk := (proper_parts k5).2.2.2.2
  generalize hq : lowO v = q at *
  generalize hkd : kofB F R v = kd at *
  have only3 : ∀ j, 0 ≤ j → j < 64 → v j ≠ 0 → j = kingB F R v 1 ∨ j = kingB F R v 0 ∨ j = q := by
    intro j j0 j1 hj
    have jN : j < F * R := by
      by_cases l : j < F * R
      · exact l
      · exact absurd (hb j (by omega) j1) hj
    by_cases c1 : v j = 1
    · exact .inl (K1.2 j j0 jN c1)
    · by_cases c7 : v j = 7
      · exact .inr (.inl (K0.2 j j0 jN c7))
      · refine .inr (.inr (uniq_cnt k1 ⟨o2, o1⟩ ⟨j0, j1⟩ o3 ?_))
        have r := hv.p j j0 j1
        unfold othB occB
        have kn : kindO (v j) ≠ 1 := by unfold kindO; split <;> omega
        rw [decide_eq_false kn, decide_eq_false hj]; rfl
  generalize hk1' : kingB F R v 1 = w at *
  generalize hk0' : kingB F R v 0 = bk at *
  have ne1 : w ≠ bk := fun z => by rw [z, v0] at v1; omega
  have ne2 : w ≠ q := fun z => by rw [z, g2] at v1; omega
  have ne3 : bk ≠ q := fun z => by rw [z, g2] at v0; omega
  have d0 : ∀ x y : Int, 0 ≤ dist x y ∧ (dist x y = 0 → x = y) := fun x y => by unfold dist; split <;> omega
  -- nobody of the mover's attacks the other king
  have noatt : ∀ j, 0 ≤ j → j < F * R → isOfB (v j) (v 64) = true → attB F v j (kingB F R v (1 - v 64)) = false := by
    intro j j0 j1 jo
    unfold chkB atkB at chk
    rw [show 1 - (1 - v 64) = v 64 by omega] at chk
    cases z : attB F v j (kingB F R v (1 - v 64))
    · rfl
    · exfalso
      have : anyL (fun j => isOfB (v j) (v 64) && attB F v j (kingB F R v (1 - v 64))) 0 (F * R).toNat = true := by
        rw [anyL_iff]
        exact ⟨j, j0, by omega, by rw [jo, z]; rfl⟩
      rw [this] at chk; exact nomatch chk
  have katt : ∀ x y : Int, x ≠ y → kindO (v x) = 1 → nearB F x y = true → attB F v x y = true := by
    intro x y hxy hkx hnr
    unfold nearB at hnr
    unfold attB
    simp only [Bool.and_eq_true, decide_eq_true_eq] at hnr
    simp only [hkx, if_true, Bool.and_eq_true, decide_eq_true_eq]
    refine ⟨hnr, ?_⟩
    have h1 := d0 (x % F) (y % F)
    have h2 := d0 (x / F) (y / F)
    by_cases z : dist (x % F) (y % F) = 0 ∧ dist (x / F) (y / F) = 0
    · exact absurd (fr_ext (h1.2 z.1) (h2.2 z.2)) hxy
    · omega
  have notnear : nearB F w bk = false := by
    cases z : nearB F w bk
    · rfl
    · exfalso
      rcases hs with hs | hs
      · have := noatt bk r0.1 K0.1 (by rw [v0, hs]; decide)
        rw [hs] at this
        have kb : kingB F R v (1 - 0) = w := hk1'
        rw [kb, katt bk w (fun y => ne1 y.symm) (by rw [v0]; decide) (by rw [near_symm]; exact z)] at this
        exact nomatch this
      · have := noatt w r1.1 K1.1 (by rw [v1, hs]; decide)
        rw [hs] at this
        have kb : kingB F R v (1 - 1) = bk := hk0'
        rw [kb, katt w bk ne1 (by rw [v1]; decide) z] at this
        exact nomatch this
  unfold ofEnd
  rw [decide_eq_false ne1, decide_eq_false ne2, decide_eq_false ne3, notnear]
  simp only [Bool.not_false, Bool.true_and, Bool.or_eq_true, decide_eq_true_eq, Bool.not_eq_true']
  rcases hs with hs | hs
  · left; omega
  · right
    cases z : strkB F kd q bk w
    · rfl
    · exfalso
      have kq : kindO (v q) = kd := by rw [g2]; unfold kindO; rw [if_pos (by omega)]
      have own : isOfB (v q) (v 64) = true := by rw [g2, hs]; unfold isOfB; rw [if_neg (by omega), if_neg (by omega)]; rfl
      have na := noatt q g3.1 g3.2 own
      rw [hs] at na
      have kb : kingB F R v (1 - 1) = bk := hk0'
      rw [kb, ← attO_v, att_line, kq] at na
      have fr := free_self b g3 ⟨r0.1, K0.1⟩ z
      rcases (show kd = 2 ∨ kd = 3 ∨ kd = 4 ∨ kd = 5 by omega) with e | e | e | e
      · have both : (strkB F kd q bk w && freeB F kd q bk bk) = true := by rw [z, fr]; rfl
        rw [strk_free (by omega), e, lineK_2, Bool.and_eq_true, Bool.or_eq_true] at both
        rw [if_neg (by omega), if_pos e] at na
        rcases both.1 with l | l
        · rw [l, clear_end b g3 ⟨r0.1, K0.1⟩ l only3 both.2] at na; exact nomatch na
        · rw [l, clear_end b g3 ⟨r0.1, K0.1⟩ l only3 both.2, Bool.or_true] at na; exact nomatch na
      · have both : (strkB F kd q bk w && freeB F kd q bk bk) = true := by rw [z, fr]; rfl
        rw [strk_free (by omega), e, lineK_3, Bool.and_eq_true] at both
        rw [if_neg (by omega), if_neg (by omega), if_pos e, both.1, clear_end b g3 ⟨r0.1, K0.1⟩ both.1 only3 both.2] at na
        exact nomatch na
      · have both : (strkB F kd q bk w && freeB F kd q bk bk) = true := by rw [z, fr]; rfl
        rw [strk_free (by omega), e, lineK_4, Bool.and_eq_true] at both
        rw [if_neg (by omega), if_neg (by omega), if_neg (by omega), if_pos e, both.1, clear_end b g3 ⟨r0.1, K0.1⟩ both.1 only3 both.2] at na
        exact nomatch na
      · unfold strkB at z
        rw [if_pos e] at z
        rw [if_neg (by omega), if_neg (by omega), if_neg (by omega), if_neg (by omega), if_pos e, z] at na
        exact nomatch na
/-- THE VALUE OF THE PRESENT POSITION, by both -/
theorem ev_eq (b : BFR F R) (h25 : F * R ≤ 25) (hv : okV F R v) (hb : brd F R v) (hk : kofB F R v ≠ -1) {e : xM} {T sol Z : Int → Int} (hT : ∀ i, 31250 * (kofB F R v - 2) ≤ i → i < 31250 * (kofB F R v - 2) + 31250 → T i = tabE F (F * R) (kofB F R v) Z i)
    (he : ∀ i, VIx (F * R) i → valE (kofB F R v) e i = tabE F (F * R) (kofB F R v) Z (31250 * (kofB F R v - 2) + swI i)) (hs : sol (kofB F R v) ≠ 0) : enV F R sol T v = evC F R (kofB F R v) e v := by
  have hn := FR_r b.1.1 b.1.2 b.2.1 b.2.2
  have hN : 0 ≤ F * R ∧ F * R ≤ 25 := by omega
  obtain ⟨e1, e2⟩ := kof_en (sol := sol) b hv hb
  rw [if_pos ⟨hk, hs⟩] at e1
  obtain ⟨g1, g2, g3⟩ := e2 hk
  have lg := end_legal b hv hb hk
  obtain ⟨⟨-, -, -, -, k5⟩, -, -, -⟩ := kofB_p hk
  have K1 := (kings_of (F := F) (R := R) (v := v) (by omega) k5 (s := 1) (.inr rfl)).1
  have K0 := (kings_of (F := F) (R := R) (v := v) (by omega) k5 (s := 0) (.inl rfl)).1
  have r1 := kingB_r (F := F) (R := R) v 1 (by omega)
  have r0 := kingB_r (F := F) (R := R) v 0 (by omega)
  have q3 : in3 (F * R) (kingB F R v 1) (kingB F R v 0) (lowO v) := ⟨⟨r1.1, K1⟩, ⟨r0.1, K0⟩, g3⟩
  have hs1 : v 64 = 0 ∨ v 64 = 1 := by have := hv.s; omega
  have hs2 : 1 - v 64 = 0 ∨ 1 - v 64 = 1 := by omega
  unfold enV evC
  rw [e1, g1]
  have bl := vl_blk (kd := kofB F R v) hN.2 hs2 q3
  rw [hT _ bl.1 bl.2, he _ (VIx.of hN.2 hs1 q3.1 q3.2.1 q3.2.2), sw_vl hs1 hN.2 q3]
  have lq := tab_LQ (F := F) (kd := kofB F R v) hN Z _ _ _ q3.1 q3.2.1 q3.2.2
  have ge : -1 ≤ tabE F (F * R) (kofB F R v) Z (vlIx (kofB F R v) (1 - v 64) (kingB F R v 1) (kingB F R v 0) (lowO v)) := by
    obtain ⟨⟨l1, l2, l3, l4⟩, -⟩ := lq
    dsimp only at l1 l2 l3 l4
    rcases hs2 with y | y
    · rw [y] at lg ⊢
      have : tabE F (F * R) (kofB F R v) Z (vlIx (kofB F R v) 0 (kingB F R v 1) (kingB F R v 0) (lowO v)) ≠ -2 := fun z => by rw [l1.mp z] at lg; exact nomatch lg
      omega
    · rw [y] at lg ⊢
      have : tabE F (F * R) (kofB F R v) Z (vlIx (kofB F R v) 1 (kingB F R v 1) (kingB F R v 0) (lowO v)) ≠ -2 := fun z => by rw [l2.mp z] at lg; exact nomatch lg
      omega
  split <;> omega
end
