/-! PHASE 3: solve, longest, endingValue -/
section
variable {D : wD} {S : wS} {o : Nat → Nat} {c : cM} {F R kd : Int} {v : Int → Int} {post : Int32 → wS → Prop} {xp : String → wS → Prop}
theorem wrkM_46 (c : cM) (t : eT) : (wrkM c kd t).1 46 kd = 1 := by
  unfold wrkM
  rw [cI_1, up_ne _ (Or.inl (by decide)), cI_1, up_ne _ (Or.inl (by decide)), cI_1, up_at]
theorem wrkM_46n (c : cM) (t : eT) {k : Int} (hk : k ≠ kd) : (wrkM c kd t).1 46 k = c.1 46 k := by
  unfold wrkM
  rw [cI_1, up_ne _ (Or.inl (by decide)), cI_1, up_ne _ (Or.inl (by decide)), cI_1, up_ne _ (Or.inr hk), cI_1, up_ne _ (Or.inl (by decide))]
theorem wrkM_47 (c : cM) (t : eT) : (wrkM c kd t).1 47 kd = t.2 := by
  unfold wrkM
  rw [cI_1, up_ne _ (Or.inl (by decide)), cI_1, up_at]
theorem wrkM_47n (c : cM) (t : eT) {k : Int} (hk : k ≠ kd) : (wrkM c kd t).1 47 k = c.1 47 k := by
  unfold wrkM
  rw [cI_1, up_ne _ (Or.inl (by decide)), cI_1, up_ne _ (Or.inr hk), cI_1, up_ne _ (Or.inl (by decide)), cI_1, up_ne _ (Or.inl (by decide))]
theorem wrkM_48 (c : cM) (t : eT) : (wrkM c kd t).1 48 kd = grtE kd t := by
  unfold wrkM
  rw [cI_1, up_at]
theorem wrkM_48n (c : cM) (t : eT) {k : Int} (hk : k ≠ kd) : (wrkM c kd t).1 48 k = c.1 48 k := by
  unfold wrkM
  rw [cI_1, up_ne _ (Or.inr hk), cI_1, up_ne _ (Or.inl (by decide)), cI_1, up_ne _ (Or.inl (by decide)), cI_1, up_ne _ (Or.inl (by decide))]
theorem wrkM_sim (c : cM) (t : eT) : cSim [45, 46, 47, 48] c (wrkM c kd t) :=
  (((cI_sim c 45 7 t.2).mono (by decide)).trans ((cI_sim _ 46 kd 1).mono (by decide))).trans (((cI_sim _ 47 kd t.2).mono (by decide)).trans ((cI_sim _ 48 kd _).mono (by decide)))
theorem SLV.wrk (hS : SLV c) (t : eT) : SLV (wrkM c kd t) := fun k k0 k1 => by
  by_cases z : k = kd
  · rw [z, wrkM_46]; exact Or.inr rfl
  · rw [wrkM_46n _ _ z]; exact hS k k0 k1
theorem q_solveC {bc bs : Nat} {W0 : Int} (hW0 : 0 ≤ W0 ∧ W0 ≤ 500000000) (h : CC D S o) (hB : BG c F R) (hS : SLV c) (hi : i32 kd) (hb : 2 ≤ bc ∧ 12 ≤ bs)
    (hE : (∃ y, EC D S o y ∧ EB (e0S S y, 0) 40000 W0) ∨ (ENo D S o ∧ 4 ≤ bc ∧ 171881 ≤ bs))
    (k0 : inB kd 2 5 = false → xp "java/lang/IllegalArgumentException" (cS S o c)) (k1 : inB kd 2 5 = true → 25 < F * R → xp "java/lang/IllegalStateException" (cS S o c))
    (k2 : inB kd 2 5 = true → F * R ≤ 25 → c.1 46 kd = 1 → post (iI (c.1 47 kd)) (cS S o c))
    (k3 : inB kd 2 5 = true → F * R ≤ 25 → c.1 46 kd = 0 → ∀ y, EC D S o y → post (iI (solveE F R kd (e0S S y)).2) (cS (eS S y (solveE F R kd (e0S S y)).1) o (wrkM c kd (solveE F R kd (e0S S y)))))
    (k4 : inB kd 2 5 = true → F * R ≤ 25 → c.1 46 kd = 0 → ENo D S o → ∀ U y, CC D U o → EX D (cS S o c) (cS U o c) [o 45] → EC D U o y → (∀ k, k < 4 → sR U (o 45) k = sR S (o 45) k) → (∀ k, k < 3 → ¬ wM D S (y k)) → post (iI (solveE F R kd (e0S U y)).2) (cS (eS U y (solveE F R kd (e0S U y)).1) o (wrkM c kd (solveE F R kd (e0S U y))))) : wp_X11_solve D post xp bc bs (cS S o c) (o 0) (iI kd) := by
  have hm := hB.m
  unfold wp_X11_solve wp_X11_solve_0
  refine ⟨by omega, by omega, ?_⟩
  refine q_endKind hi k0 fun z => ?_
  have k1 := k1 z
  have k2 := k2 z
  have k3 := k3 z
  have k4 := k4 z
  have hk := inB_iff.mp z
  refine ⟨o 1, c_r h rfl, (c_m h (by decide)).mpr trivial, c_k h (by decide), ?_⟩
  rw [c_i1 h (by decide) (show ((2 : Nat) : Int) = 2 from rfl), hB.n, show (25 : Int32) = iI 25 from rfl, iI_le (by omega) (by omega) (by decide) (by decide)]
  refine ⟨fun q => ⟨o 45, c_r h rfl, (c_m h (by decide)).mpr trivial, c_k h (by decide), bc - 1, bs - 6, Nat.le_refl _, Nat.le_refl _, ?_⟩, fun q => ⟨by omega, by omega, k1 (by omega)⟩⟩
  have k2 := k2 q
  have k3 := k3 q
  have k4 := k4 q
  refine q_workOut hW0 h hB q hS hk (hE.imp id (fun w => ⟨w.1, by omega, by omega⟩)) (fun w => ?_) (fun w y hy => ?_) (fun w hN U y u1 u2 u3 u4 u5 => ?_)
  · refine ⟨o 45, c_r h rfl, (c_m h (by decide)).mpr trivial, c_k h (by decide), ?_⟩
    exact q_winsOf h hS hk w (k2 w)
  · have h' := ccE h y
    refine ⟨o 45, c_r (h' _) rfl, (c_m (h' _) (by decide)).mpr trivial, c_k (h' _) (by decide), ?_⟩
    refine q_winsOf (h' _) (hS.wrk _) hk (wrkM_46 _ _) ?_
    rw [wrkM_47]
    exact k3 w y hy
  · have h' := ccE u1 y
    refine ⟨o 45, c_r (h' _) rfl, (c_m (h' _) (by decide)).mpr trivial, c_k (h' _) (by decide), ?_⟩
    refine q_winsOf (h' _) (hS.wrk _) hk (wrkM_46 _ _) ?_
    rw [wrkM_47]
    exact k4 w hN U y u1 u2 u3 u4 u5
theorem q_longestC (h : CC D S o) (hS : SLV c) (hi : i32 kd)
    (k0 : inB kd 2 5 = false → xp "java/lang/IllegalArgumentException" (cS S o c)) (k1 : inB kd 2 5 = true → c.1 46 kd = 0 → xp "java/lang/IllegalStateException" (cS S o c))
    (k2 : inB kd 2 5 = true → c.1 46 kd = 1 → post (iI (c.1 48 kd)) (cS S o c)) : wp_X11_longest D post xp (cS S o c) (o 0) (iI kd) := by
  unfold wp_X11_longest wp_X11_longest_0
  refine q_endKind hi k0 fun z => ?_
  have hk := inB_iff.mp z
  refine ⟨o 45, c_r h rfl, (c_m h (by decide)).mpr trivial, c_k h (by decide), ?_⟩
  refine q_isWorkedOut h hS hk ?_
  have s01 := hS kd (by omega) (by omega)
  rw [show (0 : Int32) = iI 0 from rfl, iI_eq (by omega) (by omega) (by decide) (by decide)]
  refine ⟨fun q => ⟨o 45, c_r h rfl, (c_m h (by decide)).mpr trivial, c_k h (by decide), ?_⟩, fun q => k1 z q⟩
  exact q_greatestOf h hS hk (by omega) (k2 z (by omega))
/-- the pieces that are no kings; the first of them; the kind of the ending -/
def othB (v : Int → Int) (k : Int) : Bool := occB v k && !decide (kindO (v k) = 1)
def lowO (v : Int → Int) : Int := findL (othB v) 0 64
def kofB (F R : Int) (v : Int → Int) : Int :=
  if (zcnt (othB v) = 1 ∧ noneB (fun k => othB v k && isOfB (v k) 1) = false ∧ v 65 = 0 ∧ v 66 = -1 ∧ properB F R v = true) ∧ 2 ≤ kindO (v (lowO v)) ∧ kindO (v (lowO v)) ≤ 5 then kindO (v (lowO v)) else -1
theorem oth_ex (h : zcnt (othB v) ≠ 0) : lowO v < 64 ∧ 0 ≤ lowO v ∧ othB v (lowO v) = true ∧ ∀ j : Int, 0 ≤ j → j < lowO v → othB v j = false := by
  have : ∃ j : Int, 0 ≤ j ∧ j < 64 ∧ othB v j = true := by
    by_cases z : ∃ j : Int, 0 ≤ j ∧ j < 64 ∧ othB v j = true
    · exact z
    · exact absurd (zcnt_0 (P := othB v) fun k k0 k1 => (Bool.not_eq_true _).mp fun w => z ⟨k, k0, k1, w⟩) h
  obtain ⟨j, j0, j1, hj⟩ := this
  have f := findL_lt (p := othB v) hj 64 0 j0 (by omega)
  exact ⟨by unfold lowO; omega, (findL_r (othB v) 0 64).1, f.2, findL_min (othB v) 64 0⟩
theorem q_others {post : Int64 → wS → Prop} {p : Nat} (h : CC D S o) (hp : isP p) (hv : okP v) (hA : PAt c p v) (k : post (zS (othB v)) (cS S o c)) : wp_X7_occupied D (fun r_1 S_2 => wp_X7_ofKind D (fun r_3 S_4 => ∀ x_5 : Int64, x_5 = (r_1 &&& (r_3 ^^^ (-1 : Int64))) → post x_5 S_4) S_2 (o p) (1 : Int32)) (cS S o c) (o p) := by
  rw [q_occupied h hp hv hA, show (1 : Int32) = iI 1 from rfl, q_ofKind h hp hv hA (by decide)]
  intro x5 e5
  rw [e5, zS_not, zS_and]
  exact k
theorem q_kindOfE (h : CC D S o) (hB : BG c F R) (hv : okV F R v) (hb : brd F R v) (hA : PAt c 11 v) (k : post (iI (kofB F R v)) (cS S o c)) : wp_X2_kindOf D post (cS S o c) (o 45) (o 11) := by
  have hm := hB.m
  unfold wp_X2_kindOf wp_X2_kindOf_0
  refine q_others (post := fun x_5 S_4 => wp_J13_bitCount_95d88 D (fun r_6 S_7 => ((¬ r_6 = (1 : Int32) → wp_X2_kindOf_39 D post S_7 (o 11) x_5) ∧ (r_6 = (1 : Int32) → wp_X7_ofSide D (fun r_9 S_10 => (((lg_cmp (x_5 &&& r_9) (0 : Int64)) = 0 → wp_X2_kindOf_39 D post S_10 (o 11) x_5) ∧ (¬ (lg_cmp (x_5 &&& r_9) (0 : Int64)) = 0 → wp_X2_kindOf_40 D post S_10 (o 11) x_5 (1 : Int32)))) S_7 (o 11) (1 : Int32)))) S_4 x_5) h isP11 hv.p hA ?_
  unfold kofB at k
  have at69 : ¬ (zcnt (othB v) = 1 ∧ noneB (fun k => othB v k && isOfB (v k) 1) = false ∧ v 65 = 0 ∧ v 66 = -1 ∧ properB F R v = true) → wp_X2_kindOf_69 D post (cS S o c) := fun q => by
    rw [if_neg (fun w => q w.1)] at k; exact k
  have at39 : ¬ (zcnt (othB v) = 1 ∧ noneB (fun k => othB v k && isOfB (v k) 1) = false ∧ v 65 = 0 ∧ v 66 = -1 ∧ properB F R v = true) → wp_X2_kindOf_39 D post (cS S o c) (o 11) (zS (othB v)) := fun q => by
    unfold wp_X2_kindOf_39 wp_X2_kindOf_40
    exact ⟨fun _ => at69 q, fun w => absurd rfl w⟩
  rw [q_bitCount]
  have zr := zcnt_r (othB v)
  rw [show (1 : Int32) = iI 1 from rfl, iI_eq (by omega) (by omega) (by decide) (by decide)]
  refine ⟨fun q => at39 fun w => q w.1, fun q => ?_⟩
  rw [q_ofSide h isP11 hv.p hA (Or.inr rfl), zS_and]
  simp only [lg_cmp_eq]
  rw [none_z]
  refine ⟨fun z => at39 fun w => by rw [z] at w; exact absurd w.2.1 (by decide), fun z => ?_⟩
  have z : noneB (fun k => othB v k && isOfB (v k) 1) = false := (Bool.not_eq_true _).mp z
  unfold wp_X2_kindOf_40
  have r65 := hv.r
  have r66 := hv.e
  have e6 : sI (cS S o c) (o 11) 6 = iI (v 65) := by rw [c_i1 h (by decide) (show ((6 : Nat) : Int) = 6 from rfl)]; exact congrArg iI hA.2.2.2.2.2.1
  have e7 : sI (cS S o c) (o 11) 7 = iI (v 66) := by rw [c_i1 h (by decide) (show ((7 : Nat) : Int) = 7 from rfl)]; exact congrArg iI hA.2.2.2.2.2.2
  rw [e6, e7, show (0 : Int32) = iI 0 from rfl, show (-1 : Int32) = iI (-1) from rfl, iI_eq (a := v 65) (by omega) (by omega) (by decide) (by decide), iI_eq (a := v 66) (by omega) (by omega) (by decide) (by decide)]
  refine ⟨fun w => absurd w (by decide), fun _ => ⟨fun w => at69 fun u => w u.2.2.1, fun w1 => ⟨fun w => at69 fun u => w u.2.2.2.1, fun w2 => ?_⟩⟩⟩
  refine q_isLawful h hB isP11 hv hb hA ?_
  rw [bI_z]
  refine ⟨fun w => ?_, fun w => at69 fun u => by rw [w] at u; exact absurd u.2.2.2.2 (by decide)⟩
  have w : properB F R v = true := (Bool.not_eq_false _).mp w
  obtain ⟨l64, l0, lt, lm⟩ := oth_ex (v := v) (by omega)
  refine q_low ⟨l0, l64⟩ lt lm ?_
  rw [q_kindOn h isP11 hv.p hA ⟨l0, l64⟩]
  have kr := kindO_r (hv.p _ l0 l64)
  unfold wp_X2_kindOf_98 wp_X2_kindOf_99
  rw [show (2 : Int32) = iI 2 from rfl, show (5 : Int32) = iI 5 from rfl, show (-1 : Int32) = iI (-1) from rfl, iI_lt (by omega) (by omega) (by decide) (by decide), iI_lt (by decide) (by decide) (by omega) (by omega)]
  refine ⟨fun u => ?_, fun u => ⟨fun u2 => ?_, fun u2 => ?_⟩⟩
  · rw [if_neg (fun g => by omega)] at k; exact k
  · rw [if_neg (fun g => by omega)] at k; exact k
  · rw [if_pos ⟨⟨q, z, w1, w2, w⟩, by omega, by omega⟩] at k; exact k
/-- the value of the present position in the class's rows -/
def evC (F R kd : Int) (e : xM) (v : Int → Int) : Int := if valE kd e (eIx (v 64) (kingB F R v 1) (kingB F R v 0) (lowO v)) < 0 then -1 else valE kd e (eIx (v 64) (kingB F R v 1) (kingB F R v 0) (lowO v))
theorem kofB_p (h : kofB F R v ≠ -1) : (zcnt (othB v) = 1 ∧ noneB (fun k => othB v k && isOfB (v k) 1) = false ∧ v 65 = 0 ∧ v 66 = -1 ∧ properB F R v = true) ∧ kofB F R v = kindO (v (lowO v)) ∧ 2 ≤ kofB F R v ∧ kofB F R v ≤ 5 := by
  unfold kofB at h ⊢
  by_cases z : (zcnt (othB v) = 1 ∧ noneB (fun k => othB v k && isOfB (v k) 1) = false ∧ v 65 = 0 ∧ v 66 = -1 ∧ properB F R v = true) ∧ 2 ≤ kindO (v (lowO v)) ∧ kindO (v (lowO v)) ≤ 5
  · rw [if_pos z]; exact ⟨z.1, rfl, z.2⟩
  · rw [if_neg z] at h; exact absurd rfl h
theorem q_endingValueC {W0 : Int} (h : CC D S o) (hB : BG c F R) (hv : okV F R v) (hb : brd F R v) (hA : PAt c 11 v) (hS : SLV c) (h25 : ∀ k : Int, 2 ≤ k → k ≤ 5 → c.1 46 k = 1 → F * R ≤ 25 ∧ ∃ y, EC D S o y ∧ EB (e0S S y, 0) 40000 W0)
    (k0 : kofB F R v = -1 ∨ c.1 46 (kofB F R v) = 0 → xp "java/lang/IllegalStateException" (cS S o c))
    (k1 : kofB F R v ≠ -1 → c.1 46 (kofB F R v) = 1 → ∀ y, EC D S o y → post (iI (evC F R (kofB F R v) (e0S S y) v)) (cS S o c)) : wp_X11_endingValue D post xp (cS S o c) (o 0) := by
  have hm := hB.m
  unfold wp_X11_endingValue wp_X11_endingValue_0 wp_X11_endingValue_28
  refine ⟨o 45, c_r h rfl, (c_m h (by decide)).mpr trivial, c_k h (by decide), o 11, c_r h rfl, (c_m h (by decide)).mpr trivial, c_k h (by decide), ?_⟩
  refine q_kindOfE h hB hv hb hA ?_
  have kr : kofB F R v = -1 ∨ (2 ≤ kofB F R v ∧ kofB F R v ≤ 5) := by
    by_cases z : kofB F R v = -1
    · exact Or.inl z
    · exact Or.inr (kofB_p z).2.2
  rw [show (-1 : Int32) = iI (-1) from rfl, show (0 : Int32) = iI 0 from rfl, iI_eq (by omega) (by omega) (by decide) (by decide)]
  refine ⟨fun q => k0 (Or.inl q), fun q => ⟨o 45, c_r h rfl, (c_m h (by decide)).mpr trivial, c_k h (by decide), ?_⟩⟩
  have kp := kofB_p q
  refine q_isWorkedOut h hS kp.2.2 ?_
  have s01 := hS (kofB F R v) (by omega) (by omega)
  rw [iI_eq (by omega) (by omega) (by decide) (by decide)]
  refine ⟨fun z => ⟨o 45, c_r h rfl, (c_m h (by decide)).mpr trivial, c_k h (by decide), o 11, c_r h rfl, (c_m h (by decide)).mpr trivial, c_k h (by decide), ?_⟩, fun z => k0 (Or.inr z)⟩
  have z : c.1 46 (kofB F R v) = 1 := by omega
  obtain ⟨h25, y, hE, hEB⟩ := h25 _ kp.2.2.1 kp.2.2.2 z
  have k1 := k1 q z y hE
  generalize hkd : kofB F R v = kd at k1 kp z ⊢
  unfold wp_X2_valueOf wp_X2_valueOf_0
  refine q_others (post := fun x_5 S_4 => ((¬ (lg_cmp x_5 (0 : Int64)) = 0 → wp_X7_kingOf D (fun r_7 S_8 => wp_X7_kingOf D (fun r_9 S_10 => wp_X11_lowest D (fun r_11 S_12 => wp_X2_indexOf D (fun r_13 S_14 => wp_X2_valueAt D (fun r_15 S_16 => ((iI 0 ≤ r_15 → wp_X2_valueOf_62 D (fun r_12 S_13 => post r_12 S_13) S_16 r_15) ∧ (¬ iI 0 ≤ r_15 → wp_X2_valueOf_62 D (fun r_12 S_13 => post r_12 S_13) S_16 (-1 : Int32)))) S_14 (o 45) (iI kd) r_13) S_12 (sI S_4 (o 11) 5) r_7 r_9 r_11) S_10 x_5) S_8 (o 11) (0 : Int32)) S_4 (o 11) (1 : Int32)) ∧ ((lg_cmp x_5 (0 : Int64)) = 0 → post (-1 : Int32) S_4))) h isP11 hv.p hA ?_
  simp only [lg_cmp_eq]
  rw [none_z]
  have ko := kp.1
  obtain ⟨l64, l0, lt, lm⟩ := oth_ex (v := v) (by omega)
  refine ⟨fun _ => ?_, fun w => ?_⟩
  · have hn : 0 ≤ F * R ∧ F * R ≤ 64 := ⟨by omega, hm.2⟩
    have kw := kings_of hn.1 ko.2.2.2.2 (s := 1) (Or.inr rfl)
    have kb := kings_of hn.1 ko.2.2.2.2 (s := 0) (Or.inl rfl)
    have rw1 := kingB_r v 1 hn.1
    have rb1 := kingB_r v 0 hn.1
    rw [show (1 : Int32) = iI 1 from rfl, show (0 : Int32) = iI 0 from rfl]
    refine q_kingOfC h hn isP11 hv.p hb hA (Or.inr rfl) ?_
    refine q_kingOfC h hn isP11 hv.p hb hA (Or.inl rfl) ?_
    refine q_low ⟨l0, l64⟩ lt lm ?_
    have e5 : sI (cS S o c) (o 11) 5 = iI (v 64) := by rw [c_i1 h (by decide) (show ((5 : Nat) : Int) = 5 from rfl)]; exact congrArg iI hA.2.2.2.2.1
    rw [e5]
    have k64 : v 64 = 0 ∨ v 64 = 1 := by have := hv.s; omega
    refine q_indexOf k64 ?_
    have lN : lowO v < F * R := by
      by_cases z : lowO v < F * R
      · exact z
      · exfalso
        have := hb (lowO v) (by omega) l64
        unfold othB occB at lt
        rw [this] at lt
        exact absurd lt (by decide)
    rw [show kingC F R v 1 = kingB F R v 1 from if_pos kw.1, show kingC F R v 0 = kingB F R v 0 from if_pos kb.1]
    have ir := eIx_r (its := v 64) (w := kingB F R v 1) (b := kingB F R v 0) (p := lowO v) (by omega) (by omega) (by omega)
    have := q_valueAtE (D := D) (S := S) (o := o) (y := y) (c := c) (e := e0S S y) (kd := kd) (i := eIx (v 64) (kingB F R v 1) (kingB F R v 0) (lowO v)) (post := fun r_15 S_16 => ((iI 0 ≤ r_15 → wp_X2_valueOf_62 D (fun r_12 S_13 => post r_12 S_13) S_16 r_15) ∧ (¬ iI 0 ≤ r_15 → wp_X2_valueOf_62 D (fun r_12 S_13 => post r_12 S_13) S_16 (-1 : Int32)))) hE kp.2.2 ⟨by omega, by omega⟩ ?_
    · rw [eS_self] at this; exact this
    · rw [eS_self]
      have vr := hEB.2.1 ((kd - 2) * 31250 + eIx (v 64) (kingB F R v 1) (kingB F R v 0) (lowO v)) (by omega) (by omega)
      have vr : -2 ≤ valE kd (e0S S y) (eIx (v 64) (kingB F R v 1) (kingB F R v 0) (lowO v)) ∧ valE kd (e0S S y) (eIx (v 64) (kingB F R v 1) (kingB F R v 0) (lowO v)) ≤ 40000 := vr
      unfold evC at k1
      generalize valE kd (e0S S y) (eIx (v 64) (kingB F R v 1) (kingB F R v 0) (lowO v)) = x at vr k1 ⊢
      rw [iI_le (by decide) (by decide) (by omega) (by omega)]
      unfold wp_X2_valueOf_62
      refine ⟨fun u => ?_, fun u => ?_⟩
      · rw [if_neg (by omega)] at k1; exact k1
      · rw [if_pos (by omega)] at k1; exact k1
  · exfalso
    unfold noneB at w
    have := allL_iff.mp w (lowO v) l0 (by omega)
    rw [lt] at this
    exact absurd this (by decide)
end
