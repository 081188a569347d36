section
variable {D : wD} {S : wS} {o : Nat → Nat} {c : cM} {F R : Int} {p r : Nat} {v : Int → Int}
theorem isP_n {p : Nat} (hp : isP p) : ∀ n ∈ [10, 38, 39, 40, 41], p ≠ n := by
  intro n hn e
  have := hp.2.1
  simp at hn
  rcases hn with rfl | rfl | rfl | rfl | rfl <;> rw [e] at this <;> exact absurd this (by decide)
theorem q_three_18 {post : Int32 → wS → Prop} (h : CC D S o) (hp : isP p) (hp42 : p ≠ 42) (hp43 : p ≠ 43) (hv : PV F R v) (hf : few F R v) (hf2 : ∀ t ∈ movesL F R v, few F R (mkT F R v t)) {c0 : cM} (k : ∀ c', cSim [10, 39, 40, 42, 43] c0 c' → post (iI (rows3 F R v)) (cS S o c')) :
    ∀ (n d j : Nat) (s : Int) (c : cM), d < n → j + d = (movesL F R v).length → BG c F R → PAt c p v → RAt c 39 (movesL F R v) → cSim [10, 39, 40, 42, 43] c0 c →
    s + (((movesL F R v).drop j).map fun t => rows2 F R (mkT F R v t)).sum = rows3 F R v →
    wp_X9_rowsOfThree_18 D post n (cS S o c) (o 38) (o p) (iI s) (iI (movesL F R v).length) (iI j) := by
  intro n
  induction n with
  | zero => intro d j s c hd; omega
  | succ n ih =>
    intro d j s c hd hjd hB hA hL hS hsum
    have hm := hB.m
    have h4 := hB.f4; have h8 := hB.f8; have r4 := hB.r4; have r8 := hB.r8
    unfold wp_X9_rowsOfThree_18 wp_X9_rowsOfThree_73
    have l1 : (iI (movesL F R v).length ≤ iI (j : Int)) = ((movesL F R v).length ≤ (j : Int)) := by rw [iI_le (by omega) (by omega) (by omega) (by omega)]
    rw [l1]
    refine ⟨fun q => ?_, fun q => ⟨o 39, c_r h rfl, (c_m h (by decide)).mpr trivial, c_k h (by decide), ?_⟩⟩
    · rw [List.drop_eq_nil_of_le (by omega)] at hsum
      have : s = rows3 F R v := by rw [← hsum]; simp
      rw [this]; exact k c hS
    · have l2 : (iI 1728 ≤ iI (j : Int)) = False := by rw [iI_le (by decide) (by decide) (by omega) (by omega)]; exact eq_false (by omega)
      rw [sN_R h (Or.inr (Or.inl rfl)), l2]
      refine ⟨fun z => z.elim, fun _ => ⟨o 42, c_r h rfl, (c_m h (by decide)).mpr trivial, c_k h (by decide), ?_⟩⟩
      have hj : j < (movesL F R v).length := by omega
      have ok := movesL_mem (F := F) (R := R) (v := v) (by omega) (getD_mem (L := movesL F R v) (k := (j : Int)) ⟨by omega, by omega⟩)
      have hfn := hf2 _ (getD_mem (L := movesL F R v) (k := (j : Int)) ⟨by omega, by omega⟩)
      have hs : v 64 = 0 ∨ v 64 = 1 := by have := hv.1.s; omega
      refine q_copyP h (p := 42) (by decide) hp hp42 hs hA ?_
      refine ⟨o 42, c_r h rfl, (c_m h (by decide)).mpr trivial, c_k h (by decide), o 39, c_r h rfl, (c_m h (by decide)).mpr trivial, c_k h (by decide), (c_n h (n := 39) (by decide)).symm ▸ (iI_in (by omega) (by omega) (by show (j : Int) < ((1728 : Nat) : Int); omega) : vp_in (iI (j : Int)) 1728), ?_⟩
      rw [c_i h (n := 39) (by decide) (by omega) (by omega), putP_1 c v (show 39 ≠ 42 by decide), hL j (by omega) (by omega)]
      refine q_apply h (hB.put (p := 42) (by decide) v) (by decide) hv.1 hv.2.1 hv.2.2.1 hv.2.2.2.1 (proper_parts hv.2.2.2.2).2.2.1 (putP_at c 42 v) ok ?_
      rw [putP_putP]
      have hv2 := PV_mk h4 h8 r4 r8 hv ok
      rw [show ((j : Int)).toNat = j by omega] at hv2 hfn ⊢
      rw [getD_dropL hj] at hsum
      generalize (movesL F R v).getD j (0, 0, 0) = t at hv2 hfn hsum ⊢
      refine ⟨o 42, c_r h rfl, (c_m h (by decide)).mpr trivial, c_k h (by decide), ?_⟩
      refine q_rowsOfTwoC h (hB.put (p := 42) (by decide) _) (by decide) (by decide) hv2 hfn (putP_at c 42 _) fun c' hc' => ?_
      intro x16 e16 x17 e17
      rw [e16, e17, iI_add, show (1 : Int32) = iI 1 from rfl, iI_add]
      have sim : cSim [10, 40, 42, 43] c c' := ((putP_sim c 42 _).mono (by decide)).trans (hc'.mono (by decide))
      have hpn : p ∉ [10, 40, 42, 43] := by
        have := isP_n hp
        simp at this ⊢
        exact ⟨this.1, this.2.2.2.1, hp42, hp43⟩
      refine ih (d - 1) (j + 1) _ _ (by omega) (by omega) (sim.B (by decide) hB) (sim.P hpn hA) (sim.R (by decide) hL) (hS.trans (sim.mono (by decide))) ?_
      rw [← hsum]
      simp only [List.map_cons, List.sum_cons]
      omega
theorem q_rowsOfThreeC {post : Int32 → wS → Prop} (h : CC D S o) (hB : BG c F R) (hp : isP p) (hp42 : p ≠ 42) (hp43 : p ≠ 43) (hv : PV F R v) (hf : few F R v) (hf2 : ∀ t ∈ movesL F R v, few F R (mkT F R v t)) (hA : PAt c p v) (k : ∀ c', cSim [10, 39, 40, 42, 43] c c' → post (iI (rows3 F R v)) (cS S o c')) :
    wp_X9_rowsOfThree D post (cS S o c) (o 38) (o p) := by
  have h4 := hB.f4; have h8 := hB.f8; have r4 := hB.r4; have r8 := hB.r8
  have hpn : p ∉ [10, 39] := by have := isP_n hp; simp at this ⊢; exact ⟨this.1, this.2.2.1⟩
  unfold wp_X9_rowsOfThree wp_X9_rowsOfThree_0
  refine ⟨o 10, c_r h rfl, (c_m h (by decide)).mpr trivial, c_k h (by decide), o 39, c_r h rfl, (c_m h (by decide)).mpr trivial, c_k h (by decide), ?_⟩
  refine q_generate (r := 39) h (by decide) hB hp (PV.k h4 h8 r4 r8 hv) hA (by omega) ?_
  refine ⟨(movesL F R v).length + 1, ?_⟩
  have sim : cSim [10, 39] c (putR (lookM c F R v) 39 (movesL F R v)) := ((lookM_sim c F R v).mono (by decide)).trans ((putR_sim _ 39 _).mono (by decide))
  rw [show (0 : Int32) = iI ((0 : Nat) : Int) from rfl]
  exact q_three_18 h hp hp42 hp43 hv hf hf2 (c0 := c) k ((movesL F R v).length + 1) (movesL F R v).length 0 0 _ (by omega) (by omega) (sim.B (by decide) hB) (sim.P hpn hA) (putR_at _ 39 _) (sim.mono (by decide)) (by rw [List.drop_zero]; unfold rows3; simp)
theorem q_rowsOfMovesC {post : Int32 → wS → Prop} (h : CC D S o) (hB : BG c F R) (hp : isP p) (hp42 : p ≠ 42) (hp43 : p ≠ 43) (hv : PV F R v) (hf : few F R v) (hf2 : ∀ t ∈ movesL F R v, few F R (mkT F R v t)) (hA : PAt c p v) {d : Int} (hd : 1 ≤ d ∧ d ≤ 3)
    (k : ∀ c', cSim [10, 39, 40, 42, 43] c c' → post (iI (countB F R v d)) (cS S o c')) : wp_X9_rowsOfMoves D post (cS S o c) (o 38) (o p) (iI d) := by
  have h4 := hB.f4; have h8 := hB.f8; have r4 := hB.r4; have r8 := hB.r8
  unfold wp_X9_rowsOfMoves wp_X9_rowsOfMoves_0 wp_X9_rowsOfMoves_32
  rcases (show d = 1 ∨ d = 2 ∨ d = 3 by omega) with rfl | rfl | rfl
  · refine ⟨fun z => absurd z (by decide), fun _ => ⟨o 10, c_r h rfl, (c_m h (by decide)).mpr trivial, c_k h (by decide), ?_⟩⟩
    exact q_numberOfMoves h hB hp (PV.k h4 h8 r4 r8 hv) hA (k _ ((lookM_sim c F R v).mono (by decide)))
  · exact ⟨fun _ => ⟨fun z => absurd rfl z, fun _ => q_rowsOfTwoC h hB hp hp43 hv hf hA fun c' hc' => k c' (hc'.mono (by decide))⟩, fun z => absurd (by decide) z⟩
  · exact ⟨fun _ => ⟨fun _ => q_rowsOfThreeC h hB hp hp42 hp43 hv hf hf2 hA k, fun z => absurd z (by decide)⟩, fun z => absurd (by decide) z⟩
theorem q_isMateC {post : Int32 → wS → Prop} (h : CC D S o) (hB : BG c F R) (hp : isP p) (hv : PV F R v) (hA : PAt c p v) (k : ∀ c', cSim [10] c c' → post (iI (bI (mateB F R v))) (cS S o c')) : wp_X9_isMate D post (cS S o c) (o 38) (o p) := by
  have h4 := hB.f4; have h8 := hB.f8; have r4 := hB.r4; have r8 := hB.r8
  have hk := PV.k h4 h8 r4 r8 hv
  unfold wp_X9_isMate wp_X9_isMate_0 wp_X9_isMate_22 wp_X9_isMate_23
  refine q_isInCheckC h hB hp hv.1 hv.2.2.1 hA hk.2.2.2.2.2.1 ?_
  rw [bF]
  unfold mateB at k
  refine ⟨fun z => ⟨nr0, ?_⟩, fun z => ⟨o 10, c_r h rfl, (c_m h (by decide)).mpr trivial, c_k h (by decide), ?_⟩⟩
  · have := k c (cSim.refl _ _)
    rw [z] at this
    exact this
  · have z : chkB F R v (v 64) = true := by simpa using z
    refine q_hasMove h hB hp hk hA ?_
    have := k _ (lookM_sim c F R v)
    rw [z, Bool.true_and] at this
    rw [bF]
    cases q : decide ((movesL F R v).length = 0)
    · rw [q] at this
      exact ⟨fun _ => ⟨nr0, this⟩, fun y => absurd y (by decide)⟩
    · rw [q] at this
      exact ⟨fun y => absurd rfl y, fun _ => ⟨nr1, this⟩⟩
theorem q_can_15 {post : Int32 → wS → Prop} (h : CC D S o) (hp : isP p) (hp44 : p ≠ 44) (hv : PV F R v) (hf : few F R v) {c0 : cM} (k : ∀ c', cSim [10, 41, 44] c0 c' → post (iI (bI (mate1 F R v))) (cS S o c')) :
    ∀ (n d j : Nat) (c : cM), d < n → j + d = (movesL F R v).length → BG c F R → PAt c p v → RAt c 41 (movesL F R v) → cSim [10, 41, 44] c0 c →
    mate1 F R v = (((movesL F R v).drop j).any fun t => mateB F R (mkT F R v t)) →
    wp_X9_canMate_15 D post n (cS S o c) (o 38) (o p) (iI (movesL F R v).length) (iI j) := by
  intro n
  induction n with
  | zero => intro d j c hd; omega
  | succ n ih =>
    intro d j c hd hjd hB hA hL hS hany
    have hm := hB.m
    have h4 := hB.f4; have h8 := hB.f8; have r4 := hB.r4; have r8 := hB.r8
    unfold wp_X9_canMate_15 wp_X9_canMate_82
    have l1 : (iI (movesL F R v).length ≤ iI (j : Int)) = ((movesL F R v).length ≤ (j : Int)) := by rw [iI_le (by omega) (by omega) (by omega) (by omega)]
    rw [l1]
    refine ⟨fun q => ⟨nr0, ?_⟩, fun q => ⟨o 41, c_r h rfl, (c_m h (by decide)).mpr trivial, c_k h (by decide), ?_⟩⟩
    · rw [List.drop_eq_nil_of_le (by omega)] at hany
      have := k c hS
      rw [hany] at this
      exact this
    · have l2 : (iI 1728 ≤ iI (j : Int)) = False := by rw [iI_le (by decide) (by decide) (by omega) (by omega)]; exact eq_false (by omega)
      rw [sN_R h (Or.inr (Or.inr (Or.inr rfl))), l2]
      refine ⟨fun z => z.elim, fun _ => ⟨o 44, c_r h rfl, (c_m h (by decide)).mpr trivial, c_k h (by decide), ?_⟩⟩
      have hj : j < (movesL F R v).length := by omega
      have ok := movesL_mem (F := F) (R := R) (v := v) (by omega) (getD_mem (L := movesL F R v) (k := (j : Int)) ⟨by omega, by omega⟩)
      have hs : v 64 = 0 ∨ v 64 = 1 := by have := hv.1.s; omega
      refine q_copyP h (p := 44) (by decide) hp hp44 hs hA ?_
      refine ⟨o 44, c_r h rfl, (c_m h (by decide)).mpr trivial, c_k h (by decide), o 41, c_r h rfl, (c_m h (by decide)).mpr trivial, c_k h (by decide), (c_n h (n := 41) (by decide)).symm ▸ (iI_in (by omega) (by omega) (by show (j : Int) < ((1728 : Nat) : Int); omega) : vp_in (iI (j : Int)) 1728), ?_⟩
      rw [c_i h (n := 41) (by decide) (by omega) (by omega), putP_1 c v (show 41 ≠ 44 by decide), hL j (by omega) (by omega)]
      refine q_apply h (hB.put (p := 44) (by decide) v) (by decide) hv.1 hv.2.1 hv.2.2.1 hv.2.2.2.1 (proper_parts hv.2.2.2.2).2.2.1 (putP_at c 44 v) ok ?_
      rw [putP_putP]
      have hv2 := PV_mk h4 h8 r4 r8 hv ok
      rw [show ((j : Int)).toNat = j by omega] at hv2 ⊢
      rw [getD_dropL hj] at hany
      generalize (movesL F R v).getD j (0, 0, 0) = t at hv2 hany ⊢
      simp only [List.any_cons] at hany
      have hk2 := PV.k h4 h8 r4 r8 hv2
      refine ⟨o 44, c_r h rfl, (c_m h (by decide)).mpr trivial, c_k h (by decide), ?_⟩
      have hBp := hB.put (p := 44) (by decide) (mkT F R v t)
      refine q_isInCheckC h hBp (by decide) hv2.1 hv2.2.2.1 (putP_at c 44 _) hk2.2.2.2.2.2.1 ?_
      have next : ∀ c1 : cM, cSim [10, 44] c c1 → mateB F R (mkT F R v t) = false → wp_X9_canMate_76 D post (wp_X9_canMate_15 D post n) (cS S o c1) (o 38) (o p) (iI (movesL F R v).length) (iI j) := by
        intro c1 sim hno
        rw [hno, Bool.false_or] at hany
        unfold wp_X9_canMate_76
        intro x1 ex
        rw [ex, show (1 : Int32) = iI 1 from rfl, iI_add]
        have hpn : p ∉ [10, 44] := by have := isP_n hp; simp at this ⊢; exact ⟨this.1, hp44⟩
        exact ih (d - 1) (j + 1) c1 (by omega) (by omega) (sim.B (by decide) hB) (sim.P hpn hA) (sim.R (by decide) hL) (hS.trans (sim.mono (by decide))) hany
      rw [bF]
      refine ⟨fun z => next _ ((putP_sim c 44 _).mono (by decide)) (by unfold mateB; rw [z]; rfl), fun z => ⟨o 10, c_r h rfl, (c_m h (by decide)).mpr trivial, c_k h (by decide), o 44, c_r h rfl, (c_m h (by decide)).mpr trivial, c_k h (by decide), ?_⟩⟩
      have z : chkB F R (mkT F R v t) (mkT F R v t 64) = true := by simpa using z
      refine q_hasMove h hBp (by decide) hk2 (putP_at c 44 _) ?_
      have sim : cSim [10, 44] c (lookM (putP c 44 (mkT F R v t)) F R (mkT F R v t)) := ((putP_sim c 44 _).mono (by decide)).trans ((lookM_sim _ F R _).mono (by decide))
      rw [bF]
      refine ⟨fun y => next _ sim ?_, fun y => ⟨nr1, ?_⟩⟩
      · unfold mateB
        have : decide ((movesL F R (mkT F R v t)).length = 0) = false := by simpa using y
        rw [this, Bool.and_false]
      · have y : decide ((movesL F R (mkT F R v t)).length = 0) = true := by simpa using y
        have : mateB F R (mkT F R v t) = true := by unfold mateB; rw [z, y]; rfl
        rw [this, Bool.true_or] at hany
        have := k _ (hS.trans (sim.mono (by decide)))
        rw [hany] at this
        exact this
theorem q_canMateC {post : Int32 → wS → Prop} (h : CC D S o) (hB : BG c F R) (hp : isP p) (hp44 : p ≠ 44) (hv : PV F R v) (hf : few F R v) (hA : PAt c p v) (k : ∀ c', cSim [10, 41, 44] c c' → post (iI (bI (mate1 F R v))) (cS S o c')) :
    wp_X9_canMate D post (cS S o c) (o 38) (o p) := by
  have h4 := hB.f4; have h8 := hB.f8; have r4 := hB.r4; have r8 := hB.r8
  have hpn : p ∉ [10, 41] := by have := isP_n hp; simp at this ⊢; exact ⟨this.1, this.2.2.2.2⟩
  unfold wp_X9_canMate wp_X9_canMate_0
  refine ⟨o 10, c_r h rfl, (c_m h (by decide)).mpr trivial, c_k h (by decide), o 41, c_r h rfl, (c_m h (by decide)).mpr trivial, c_k h (by decide), ?_⟩
  refine q_generate (r := 41) h (by decide) hB hp (PV.k h4 h8 r4 r8 hv) hA (by omega) ?_
  refine ⟨(movesL F R v).length + 1, ?_⟩
  have sim : cSim [10, 41] c (putR (lookM c F R v) 41 (movesL F R v)) := ((lookM_sim c F R v).mono (by decide)).trans ((putR_sim _ 41 _).mono (by decide))
  rw [show (0 : Int32) = iI ((0 : Nat) : Int) from rfl]
  exact q_can_15 h hp hp44 hv hf (c0 := c) k ((movesL F R v).length + 1) (movesL F R v).length 0 _ (by omega) (by omega) (sim.B (by decide) hB) (sim.P hpn hA) (putR_at _ 41 _) (sim.mono (by decide)) (by rw [List.drop_zero]; rfl)
end
