/-- the main move of a position on a shelf: its number, -1 for none -/
def madV (m : xM) (s g c : Int) (v : Int → Int) : Bool := anyL (fun k => decide (m 32 (80 * slotB s g + k) = c) && sameB (sv m s g k) v) 0 (m 33 (slotB s g)).toNat
def gmV (m : xM) (s : Int) (L : List Mv) (v : Int → Int) (k : Int) : Int := sumL (fun g => if madV m s g (codeT (L.getD k.toNat (0, 0, 0))) v then 1 else 0) 0 (m 30 s).toNat
def mainV (F R : Int) (m : xM) (s : Int) (v : Int → Int) : Int := mainF (gmV m s (movesL F R v) v) (wdB F R v) (-1) 0 (movesL F R v).length
/-- the main moves that are made -/
def pmL (F R : Int) (m : xM) (s : Int) : Nat → (Int → Int) → List Mv
  | 0, _ => []
  | n + 1, v => if mainV F R m s v = -1 then [] else (movesL F R v).getD (mainV F R m s v).toNat (0, 0, 0) :: pmL F R m s n (mkT F R v ((movesL F R v).getD (mainV F R m s v).toNat (0, 0, 0)))
def playMs (F R : Int) (m : xM) : List Mv → xM
  | [] => m
  | t :: ts => playMs F R (playM F R m (movesL F R (pv m)) t) ts
section
variable {D : wD} {S : wS} {x : Nat} {A : Nat → Nat} {m m' : xM} {F R s : Int}
theorem playM_8 {L : List Mv} {t : Mv} (hu : clV (mkT F R (pv m) t)) (j : Int) : playM F R m L t 8 j = if 67 * (m 50 11 + 1) ≤ j ∧ j < 67 * (m 50 11 + 1) + 67 then mkT F R (pv m) t (j - 67 * (m 50 11 + 1)) else m 8 j := by
  have e8 : playM F R m L t 8 = cpy (up (lsM (play1 F m t) 0 L (mkT F R (pv m) t)) 50 11 (m 50 11 + 1)) 3 67 8 (67 * (m 50 11 + 1)) 67 8 := by unfold playM ldm; exact putV_r _ _ _ rfl
  rw [e8]
  by_cases c : 67 * (m 50 11 + 1) ≤ j ∧ j < 67 * (m 50 11 + 1) + 67
  · rw [if_pos c, cpy_at _ c.1 c.2, up_f _ _ _ _ rfl]
    have el : lv (lsM (play1 F m t) 0 L (mkT F R (pv m) t)) 1 = mkT F R (pv m) t := lsM_next hu
    rw [← congrFun el (j - 67 * (m 50 11 + 1))]
    unfold lv vec
    rw [if_pos ⟨by omega, by omega⟩]
    congr 1
  · rw [if_neg c, cpy_out _ (by omega), up_f _ _ _ _ rfl, lsM_f _ _ _ _ _ rfl]
    unfold play1
    rw [up_f _ _ _ _ rfl, up_f _ _ _ _ rfl]
theorem SIM_play (h : SIM m m') {L L' : List Mv} {t : Mv} (hu : clV (mkT F R (pv m) t)) : SIM (playM F R m L t) (playM F R m' L' t) := by
  have ep := h.pv
  have e11 := h.o (j := 11) rfl
  intro r j hk
  by_cases r8 : r = 8
  · subst r8
    rw [playM_8 (by rw [ep]; exact hu), playM_8 hu, e11, ep, h.row (r := 8) rfl]
  · by_cases r9 : r = 9
    · subst r9
      rw [playM_9, playM_9, e11, h.row (r := 9) rfl]
    · by_cases r10 : r = 10
      · subst r10
        rw [playM_10, playM_10, e11, ep, h.row (r := 10) rfl]
      · by_cases r50 : r = 50
        · subst r50
          by_cases j11 : j = 11
          · rw [j11, playM_made, playM_made, e11]
          · rw [playM_50 j11, playM_50 j11]; exact h 50 j hk
        · have hr : (r == 3 || r == 4 || r == 5 || r == 6 || r == 7 || r == 8 || r == 9 || r == 10 || r == 50) = false := by
            have : r ≠ 3 ∧ r ≠ 4 ∧ r ≠ 5 ∧ r ≠ 6 ∧ r ≠ 7 := by
              refine ⟨?_, ?_, ?_, ?_, ?_⟩ <;> (rintro rfl; cases hk)
            simp [this, r8, r9, r10, r50]
          rw [playM_f j hr, playM_f j hr]
          exact h r j hk
theorem playM_shelf {L : List Mv} {t : Mv} (s : Int) (L2 : List Mv) (v : Int → Int) : gmV (playM F R m L t) s L2 v = gmV m s L2 v := by
  have er : ∀ r, (r == 3 || r == 4 || r == 5 || r == 6 || r == 7 || r == 8 || r == 9 || r == 10 || r == 50) = false → playM F R m L t r = m r := fun r hr => funext fun j => playM_f j hr
  have es : ∀ g k, sv (playM F R m L t) s g k = sv m s g k := fun g k => vec_row (er 31 rfl) _
  funext k
  unfold gmV madV
  rw [er 30 rfl, er 32 rfl, er 33 rfl]
  simp only [es]
theorem SIM.gmV (h : SIM m m') (s : Int) (L2 : List Mv) (v : Int → Int) : gmV m' s L2 v = gmV m s L2 v := by
  funext k
  unfold Jvm.Pilot.COpeningsCabinetLaw_law_r5693_3db0e9.gmV Jvm.Pilot.COpeningsCabinetLaw_law_r5693_3db0e9.madV
  rw [h.row (r := 30) rfl, h.row (r := 32) rfl, h.row (r := 33) rfl]
  simp only [h.sv]
theorem SIM.mainV (h : SIM m m') (s : Int) (v : Int → Int) : mainV F R m' s v = mainV F R m s v := by
  unfold Jvm.Pilot.COpeningsCabinetLaw_law_r5693_3db0e9.mainV
  rw [h.gmV]
theorem pmL_congr {m2 : xM} (h : ∀ v, Jvm.Pilot.COpeningsCabinetLaw_law_r5693_3db0e9.mainV F R m2 s v = Jvm.Pilot.COpeningsCabinetLaw_law_r5693_3db0e9.mainV F R m s v) : ∀ (n : Nat) (v : Int → Int), pmL F R m2 s n v = pmL F R m s n v := by
  intro n
  induction n with
  | zero => intro v; rfl
  | succ n ih => intro v; unfold pmL; rw [h v, ih]
theorem mainV_play {L : List Mv} {t : Mv} (v : Int → Int) : mainV F R (playM F R m L t) s v = mainV F R m s v := by
  unfold mainV; rw [playM_shelf]
theorem mainF_r (g : Int → Int) (W : Int → List Int) : ∀ (d : Nat) (b k : Int), 0 ≤ k → (b = -1 ∨ (0 ≤ b ∧ b < k)) → mainF g W b k d = -1 ∨ (0 ≤ mainF g W b k d ∧ mainF g W b k d < k + d) := by
  intro d
  induction d with
  | zero => intro b k _ hb; unfold mainF; omega
  | succ d ih =>
    intro b k h hb
    unfold mainF
    have := ih (if 0 < g k ∧ (b = -1 ∨ g b < g k ∨ (g k = g b ∧ ahead (W k) (W b) = true)) then k else b) (k + 1) (by omega) (by split <;> omega)
    omega
/-- the moves are made one after another, each a move of the position then -/
def linB (F R : Int) (v : Int → Int) : List Mv → Prop
  | [] => True
  | t :: ts => t ∈ movesL F R v ∧ linB F R (mkT F R v t) ts
theorem SIM_playMs {GP : (Int → Int) → Prop} (hGP : ∀ v, GP v → okV F R v ∧ clV v ∧ mvOK F R v ∧ ∀ t ∈ movesL F R v, stOK F R (mkT F R v t) ∧ GP (mkT F R v t)) : ∀ {m m' : xM}, SIM m m' → GP (pv m) → ∀ ts, linB F R (pv m) ts → SIM (playMs F R m ts) (playMs F R m' ts) := by
  intro m m' h hP ts
  induction ts generalizing m m' with
  | nil => intro _; exact h
  | cons t ts ih =>
    intro hl
    have g := (hGP _ hP).2.2.2 t hl.1
    have hcl := (hGP _ g.2).2.1
    unfold playMs
    refine ih (SIM_play h hcl) ?_ ?_
    · rw [playM_pv hcl]; exact g.2
    · rw [playM_pv hcl]; exact hl.2
theorem pmL_ok {GP : (Int → Int) → Prop} (hGP : ∀ v, GP v → okV F R v ∧ clV v ∧ mvOK F R v ∧ ∀ t ∈ movesL F R v, stOK F R (mkT F R v t) ∧ GP (mkT F R v t)) {s : Int} : ∀ {v : Int → Int} (_ : GP v) (n : Nat), linB F R v (pmL F R m s n v) := by
  intro v hP n
  induction n generalizing v with
  | zero => exact trivial
  | succ n ih =>
    unfold pmL
    split
    · exact trivial
    · next c =>
      have hr := mainF_r (gmV m s (movesL F R v) v) (wdB F R v) (movesL F R v).length (-1) 0 (by decide) (Or.inl rfl)
      have hmv : 0 ≤ mainV F R m s v ∧ mainV F R m s v < (movesL F R v).length := by unfold mainV at c ⊢; omega
      have hmem := getD_mem hmv
      exact ⟨hmem, ih ((hGP _ hP).2.2.2 _ hmem).2⟩
theorem q_mainMove {post : Int32 → wS → Prop} (h : XC D S x A) (hG : RG m F R) (hS : SG m F R) (hC : ∀ j, 0 ≤ j → j < 6400 → i32 (m 32 j)) {s : Int} (hs : 0 ≤ s ∧ s ≤ 1) (hK : mvOK F R (pv m)) (hst : ∀ t ∈ movesL F R (pv m), stOK F R (mkT F R (pv m) t))
    (k : ∀ m', SIM m m' → m' 50 0 = m 50 0 → lv m' 0 = pv m → Ls m' (movesL F R (pv m)) → post (iI (mainV F R m s (pv m))) (xS S x A m')) : wp_X12_mainMove D post (xS S x A m) x (iI s) := by
  unfold wp_X12_mainMove wp_X12_mainMove_0
  refine q_lays h hG hS hC hs hK hst (fun m2 hT => ?_)
  have hcw := CT.cw hT (hS.1 s hs.1 hs.2) hK.2
  try simp (discharger := omega) only [nlit, iI_lit, iI_add, iI_sub, iI_mul, iI_neg, bI_z, bI_o, i10, i01, eq_self, bI_nar, nar_0, nar_1, bI_t, bI_f, Option.some.injEq, exists_eq_left', true_and, and_true, forall_eq, not_true_eq_false, not_false_eq_true, forall_const, false_implies, true_implies, Classical.not_not, if_true, if_false, Int.reduceEq, Int.reduceLT, Int.reduceLE, Int.reduceGT, Int.reduceGE, Int.reduceAdd, Int.reduceSub, Int.reduceMul, Int.reduceNeg, Int.reduceNe, Bool.true_and, Bool.and_true, Bool.false_and, Bool.and_false, BEq.rfl, Bool.true_eq_false, Bool.false_eq_true]
  have hL := hK.2
  refine ⟨321, q_mainMove_9 h hcw 321 (movesL F R (pv m)).length (-1) 0 (by omega) (by omega) (by decide) (Or.inl rfl) ?_⟩
  exact k m2 hT.1 hT.2.2.2.2.2 hT.2.1 hT.2.2.1
theorem q_playMain_50 {post : Int32 → wS → Prop} (h : XC D S x A) {GP : (Int → Int) → Prop} (hGP : ∀ v, GP v → okV F R v ∧ clV v ∧ mvOK F R v ∧ ∀ t ∈ movesL F R v, stOK F R (mkT F R v t) ∧ GP (mkT F R v t)) {s most : Int} (hs : 0 ≤ s ∧ s ≤ 1) (hm : 1 ≤ most ∧ most ≤ 80) : ∀ (n d : Nat) (e : Int) (m : xM),
    d < n → (d : Int) = min (most - e) (80 - m 50 11) → 0 ≤ e ∧ e ≤ most → RG m F R → SG m F R → (∀ j, 0 ≤ j → j < 6400 → i32 (m 32 j)) → GP (pv m) → lv m 0 = pv m → Ls m (movesL F R (pv m)) →
    (∀ m', SIM (playMs F R m (pmL F R m s d (pv m))) m' → m' 50 0 = m 50 0 → post (iI (e + (pmL F R m s d (pv m)).length)) (xS S x A m')) →
    wp_X12_playMain_50 D post n (xS S x A m) x (iI s) (iI most) (iI e) (iI (mainV F R m s (pv m))) := by
  intro n
  induction n with
  | zero => intro d e m hd; omega
  | succ n ih =>
    intro d e m hd hde he hG hS hC hP hlv hLs k
    have hm0 := hG.m0
    have g := hGP _ hP
    have hL := g.2.2.1.2
    have hr := mainF_r (gmV m s (movesL F R (pv m)) (pv m)) (wdB F R (pv m)) (movesL F R (pv m)).length (-1) 0 (by decide) (Or.inl rfl)
    have hmv : mainV F R m s (pv m) = -1 ∨ (0 ≤ mainV F R m s (pv m) ∧ mainV F R m s (pv m) < (movesL F R (pv m)).length) := by unfold mainV; omega
    unfold wp_X12_playMain_50
    rw [show (-1 : Int32) = iI (-1) from rfl, iI_eq (by omega) (by omega) (by decide) (by decide)]
    by_cases c1 : mainV F R m s (pv m) = -1
    · have e0 : pmL F R m s d (pv m) = [] := by cases d with | zero => rfl | succ d => unfold pmL; rw [if_pos c1]
      rw [e0] at k
      simp (discharger := omega) only [nlit, iI_lit, iI_add, iI_sub, iI_mul, iI_neg, bI_z, bI_o, i10, i01, eq_self, bI_nar, nar_0, nar_1, bI_t, bI_f, Option.some.injEq, exists_eq_left', true_and, and_true, forall_eq, not_true_eq_false, not_false_eq_true, forall_const, false_implies, true_implies, Classical.not_not, if_true, if_false, Int.reduceEq, Int.reduceLT, Int.reduceLE, Int.reduceGT, Int.reduceGE, Int.reduceAdd, Int.reduceSub, Int.reduceMul, Int.reduceNeg, Int.reduceNe, Bool.true_and, Bool.and_true, Bool.false_and, Bool.and_false, BEq.rfl, Bool.true_eq_false, Bool.false_eq_true, c1, wp_X12_playMain_89]
      have := k m (SIM.rf m) rfl
      simpa using this
    · simp (discharger := omega) only [nlit, iI_lit, iI_add, iI_sub, iI_mul, iI_neg, bI_z, bI_o, i10, i01, eq_self, bI_nar, nar_0, nar_1, bI_t, bI_f, Option.some.injEq, exists_eq_left', true_and, and_true, forall_eq, not_true_eq_false, not_false_eq_true, forall_const, false_implies, true_implies, Classical.not_not, if_true, if_false, Int.reduceEq, Int.reduceLT, Int.reduceLE, Int.reduceGT, Int.reduceGE, Int.reduceAdd, Int.reduceSub, Int.reduceMul, Int.reduceNeg, Int.reduceNe, Bool.true_and, Bool.and_true, Bool.false_and, Bool.and_false, BEq.rfl, Bool.true_eq_false, Bool.false_eq_true, c1]
      simp (discharger := first | decide | omega) only [x_own h, x_kd h, x_r h, x_m h, x_l h, x_k h, x_n h, x_i0, x_i h, x_u0 h, x_u h, xLen, xKd, nlit, iI_lit, iI_add, iI_sub, iI_mul, iI_neg, bI_z, bI_o, i10, i01, eq_self, bI_nar, nar_0, nar_1, up_at, up_f, Option.some.injEq, exists_eq_left', true_and, and_true, forall_eq, not_true_eq_false, not_false_eq_true, forall_const, false_implies, true_implies, Classical.not_not, if_true, if_false, Int.reduceEq, Int.reduceLT, Int.reduceLE, Int.reduceGT, Int.reduceGE, Int.reduceAdd, Int.reduceSub, Int.reduceMul, Int.reduceNeg, Int.reduceNe]
      rw [show m 50 11 = m 50 11 from rfl, iI_le (by omega) (by omega) (by omega) (by omega), iI_le (by omega) (by omega) (by omega) (by omega)]
      cases d with
      | zero =>
        have z : most ≤ e ∨ 80 ≤ m 50 11 := by omega
        have := k m (SIM.rf m) rfl
        simp [pmL] at this
        by_cases z1 : most ≤ e
        · simp (discharger := omega) only [nlit, iI_lit, iI_add, iI_sub, iI_mul, iI_neg, bI_z, bI_o, i10, i01, eq_self, bI_nar, nar_0, nar_1, bI_t, bI_f, Option.some.injEq, exists_eq_left', true_and, and_true, forall_eq, not_true_eq_false, not_false_eq_true, forall_const, false_implies, true_implies, Classical.not_not, if_true, if_false, Int.reduceEq, Int.reduceLT, Int.reduceLE, Int.reduceGT, Int.reduceGE, Int.reduceAdd, Int.reduceSub, Int.reduceMul, Int.reduceNeg, Int.reduceNe, Bool.true_and, Bool.and_true, Bool.false_and, Bool.and_false, BEq.rfl, Bool.true_eq_false, Bool.false_eq_true, z1, wp_X12_playMain_89]; exact this
        · have z2 : 80 ≤ m 50 11 := by omega
          simp (discharger := omega) only [nlit, iI_lit, iI_add, iI_sub, iI_mul, iI_neg, bI_z, bI_o, i10, i01, eq_self, bI_nar, nar_0, nar_1, bI_t, bI_f, Option.some.injEq, exists_eq_left', true_and, and_true, forall_eq, not_true_eq_false, not_false_eq_true, forall_const, false_implies, true_implies, Classical.not_not, if_true, if_false, Int.reduceEq, Int.reduceLT, Int.reduceLE, Int.reduceGT, Int.reduceGE, Int.reduceAdd, Int.reduceSub, Int.reduceMul, Int.reduceNeg, Int.reduceNe, Bool.true_and, Bool.and_true, Bool.false_and, Bool.and_false, BEq.rfl, Bool.true_eq_false, Bool.false_eq_true, z1, z2, wp_X12_playMain_89]; exact this
      | succ d =>
        have z1 : ¬ most ≤ e := by omega
        have z2 : ¬ 80 ≤ m 50 11 := by omega
        have hmv : 0 ≤ mainV F R m s (pv m) ∧ mainV F R m s (pv m) < (movesL F R (pv m)).length := by omega
        have els := Ls_lsM hLs
        simp (discharger := omega) only [nlit, iI_lit, iI_add, iI_sub, iI_mul, iI_neg, bI_z, bI_o, i10, i01, eq_self, bI_nar, nar_0, nar_1, bI_t, bI_f, Option.some.injEq, exists_eq_left', true_and, and_true, forall_eq, not_true_eq_false, not_false_eq_true, forall_const, false_implies, true_implies, Classical.not_not, if_true, if_false, Int.reduceEq, Int.reduceLT, Int.reduceLE, Int.reduceGT, Int.reduceGE, Int.reduceAdd, Int.reduceSub, Int.reduceMul, Int.reduceNeg, Int.reduceNe, Bool.true_and, Bool.and_true, Bool.false_and, Bool.and_false, BEq.rfl, Bool.true_eq_false, Bool.false_eq_true, z1, z2]
        unfold pmL at k
        rw [if_neg c1] at k
        generalize ht : (movesL F R (pv m)).getD (mainV F R m s (pv m)).toNat (0, 0, 0) = t at k
        have k : ∀ m', SIM (playMs F R (playM F R m (movesL F R (pv m)) t) (pmL F R m s d (mkT F R (pv m) t))) m' → m' 50 0 = m 50 0 → post (iI (e + (t :: pmL F R m s d (mkT F R (pv m) t)).length)) (xS S x A m') := k
        have hmem : t ∈ movesL F R (pv m) := by rw [← ht]; exact getD_mem hmv
        have gt := g.2.2.2 t hmem
        have hcl := (hGP _ gt.2).2.1
        rw [← els]
        refine q_plays h hG hlv (by omega) hL hmv ht.symm ?_
        have hG1 := RG_play hG (by omega) (L := movesL F R (pv m)) hcl (hGP _ gt.2).1
        have ep : pv (playM F R m (movesL F R (pv m)) t) = mkT F R (pv m) t := playM_pv hcl
        have er : ∀ r, (r == 3 || r == 4 || r == 5 || r == 6 || r == 7 || r == 8 || r == 9 || r == 10 || r == 50) = false → playM F R m (movesL F R (pv m)) t r = m r := fun r hr => funext fun j => playM_f j hr
        have hS1 : SG (playM F R m (movesL F R (pv m)) t) F R := by
          refine ⟨?_, ?_, ?_⟩
          · rw [er 30 rfl]; exact hS.1
          · rw [er 33 rfl, er 34 rfl, er 35 rfl]; exact hS.2.1
          · intro s g k a b c d e f
            have es : sv (playM F R m (movesL F R (pv m)) t) s g k = sv m s g k := vec_row (er 31 rfl) _
            rw [er 30 rfl] at d
            rw [er 33 rfl] at f
            rw [es]; exact hS.2.2 s g k a b c d e f
        have e0 : playM F R m (movesL F R (pv m)) t 50 0 = m 50 0 := playM_50 (by decide)
        have e11 : playM F R m (movesL F R (pv m)) t 50 11 = m 50 11 + 1 := playM_made
        have e32 : playM F R m (movesL F R (pv m)) t 32 = m 32 := er 32 rfl
        have epm := fun v n => pmL_congr (F := F) (R := R) (s := s) (m := m) (m2 := playM F R m (movesL F R (pv m)) t) (fun v => mainV_play v) n v
        have hmain := fun v => mainV_play (F := F) (R := R) (m := m) (s := s) (L := movesL F R (pv m)) (t := t) v
        generalize playM F R m (movesL F R (pv m)) t = m1 at hG1 ep hS1 e0 e11 e32 epm hmain k
        try simp (discharger := omega) only [nlit, iI_lit, iI_add, iI_sub, iI_mul, iI_neg, bI_z, bI_o, i10, i01, eq_self, bI_nar, nar_0, nar_1, bI_t, bI_f, Option.some.injEq, exists_eq_left', true_and, and_true, forall_eq, not_true_eq_false, not_false_eq_true, forall_const, false_implies, true_implies, Classical.not_not, if_true, if_false, Int.reduceEq, Int.reduceLT, Int.reduceLE, Int.reduceGT, Int.reduceGE, Int.reduceAdd, Int.reduceSub, Int.reduceMul, Int.reduceNeg, Int.reduceNe, Bool.true_and, Bool.and_true, Bool.false_and, Bool.and_false, BEq.rfl, Bool.true_eq_false, Bool.false_eq_true]
        refine q_mainMove h hG1 hS1 (by rw [e32]; exact hC) hs (by rw [ep]; exact (hGP _ gt.2).2.2.1) (by rw [ep]; exact fun u hu => ((hGP _ gt.2).2.2.2 u hu).1) (fun m2 s2 q0 q1 q2 => ?_)
        have ep2 : pv m2 = pv m1 := s2.pv
        have hd1 : ((d + 1 : Nat) : Int) = d + 1 := by omega
        rw [← s2.mainV, ← ep2]
        have epm2 := pmL_congr (F := F) (R := R) (s := s) (m := m1) (m2 := m2) (fun v => s2.mainV s v)
        refine ih d (e + 1) m2 (by omega) (by rw [s2.o rfl, e11]; omega) (by omega) (s2.RG hG1) (s2.SG hS1) (by rw [s2.row rfl, e32]; exact hC) (by rw [ep2, ep]; exact gt.2) (by rw [ep2]; exact q1) (by rw [ep2]; exact q2) (fun m' w w0 => ?_)
        rw [epm2, ep2, ep, epm]
        rw [epm2, ep2, ep, epm] at w
        have hw := SIM_playMs (F := F) (R := R) hGP s2 (by rw [ep]; exact gt.2) (pmL F R m s d (mkT F R (pv m) t)) (by rw [ep]; exact pmL_ok hGP gt.2 d)
        have := k m' (hw.tr w) (by rw [w0, q0, e0])
        rw [List.length_cons] at this
        rw [show e + 1 + ((pmL F R m s d (mkT F R (pv m) t)).length : Int) = e + (((pmL F R m s d (mkT F R (pv m) t)).length + 1 : Nat) : Int) by omega]
        exact this
theorem q_playMain {post : Int32 → wS → Prop} (h : XC D S x A) (hG : RG m F R) (hS : SG m F R) (hC : ∀ j, 0 ≤ j → j < 6400 → i32 (m 32 j)) {GP : (Int → Int) → Prop} (hGP : ∀ v, GP v → okV F R v ∧ clV v ∧ mvOK F R v ∧ ∀ t ∈ movesL F R v, stOK F R (mkT F R v t) ∧ GP (mkT F R v t)) (hP : properB F R (gv m 0) = true → GP (pv m)) {s most : Int} (hs : i32 s) (hm : i32 most)
    (k0 : inB s 0 1 = false → ∀ m', SIM m m' → m' 50 0 = 1 → post (iI 0) (xS S x A m'))
    (k1 : inB s 0 1 = true → inB most 1 80 = false → ∀ m', SIM m m' → m' 50 0 = 2 → post (iI 0) (xS S x A m'))
    (k2 : inB s 0 1 = true → inB most 1 80 = true → properB F R (gv m 0) = false → ∀ m', SIM m m' → m' 50 0 = 3 → post (iI 0) (xS S x A m'))
    (k3 : inB s 0 1 = true → inB most 1 80 = true → properB F R (gv m 0) = true → ∀ ts, ts = pmL F R m s (min most (80 - m 50 11)).toNat (pv m) → linB F R (pv m) ts → ∀ m', SIM (playMs F R m ts) m' → m' 50 0 = 0 → post (iI ts.length) (xS S x A m')) : wp_X12_playMain D post (xS S x A m) x (iI s) (iI most) := by
  unfold wp_X12_playMain wp_X12_playMain_0
  rw [q_isShelf hs]
  try simp (discharger := omega) only [nlit, iI_lit, iI_add, iI_sub, iI_mul, iI_neg, bI_z, bI_o, i10, i01, eq_self, bI_nar, nar_0, nar_1, bI_t, bI_f, Option.some.injEq, exists_eq_left', true_and, and_true, forall_eq, not_true_eq_false, not_false_eq_true, forall_const, false_implies, true_implies, Classical.not_not, if_true, if_false, Int.reduceEq, Int.reduceLT, Int.reduceLE, Int.reduceGT, Int.reduceGE, Int.reduceAdd, Int.reduceSub, Int.reduceMul, Int.reduceNeg, Int.reduceNe, Bool.true_and, Bool.and_true, Bool.false_and, Bool.and_false, BEq.rfl, Bool.true_eq_false, Bool.false_eq_true]
  rw [q_can h]
  simp (discharger := omega) only [nlit, iI_lit, iI_add, iI_sub, iI_mul, iI_neg, bI_z, bI_o, i10, i01, eq_self, bI_nar, nar_0, nar_1, bI_t, bI_f, Option.some.injEq, exists_eq_left', true_and, and_true, forall_eq, not_true_eq_false, not_false_eq_true, forall_const, false_implies, true_implies, Classical.not_not, if_true, if_false, Int.reduceEq, Int.reduceLT, Int.reduceLE, Int.reduceGT, Int.reduceGE, Int.reduceAdd, Int.reduceSub, Int.reduceMul, Int.reduceNeg, Int.reduceNe, Bool.true_and, Bool.and_true, Bool.false_and, Bool.and_false, BEq.rfl, Bool.true_eq_false, Bool.false_eq_true, wp_X12_playMain_39]
  cases c : inB s 0 1
  · try simp (discharger := omega) only [nlit, iI_lit, iI_add, iI_sub, iI_mul, iI_neg, bI_z, bI_o, i10, i01, eq_self, bI_nar, nar_0, nar_1, bI_t, bI_f, Option.some.injEq, exists_eq_left', true_and, and_true, forall_eq, not_true_eq_false, not_false_eq_true, forall_const, false_implies, true_implies, Classical.not_not, if_true, if_false, Int.reduceEq, Int.reduceLT, Int.reduceLE, Int.reduceGT, Int.reduceGE, Int.reduceAdd, Int.reduceSub, Int.reduceMul, Int.reduceNeg, Int.reduceNe, Bool.true_and, Bool.and_true, Bool.false_and, Bool.and_false, BEq.rfl, Bool.true_eq_false, Bool.false_eq_true]
    exact k0 c _ ((SIM.rf m).up0 1) (up_at _ _ _ _)
  · have k1 := k1 c
    have k2 := k2 c
    have k3 := k3 c
    have hc := c
    unfold inB at hc
    simp at hc
    rw [cn_true]
    try simp (discharger := omega) only [nlit, iI_lit, iI_add, iI_sub, iI_mul, iI_neg, bI_z, bI_o, i10, i01, eq_self, bI_nar, nar_0, nar_1, bI_t, bI_f, Option.some.injEq, exists_eq_left', true_and, and_true, forall_eq, not_true_eq_false, not_false_eq_true, forall_const, false_implies, true_implies, Classical.not_not, if_true, if_false, Int.reduceEq, Int.reduceLT, Int.reduceLE, Int.reduceGT, Int.reduceGE, Int.reduceAdd, Int.reduceSub, Int.reduceMul, Int.reduceNeg, Int.reduceNe, Bool.true_and, Bool.and_true, Bool.false_and, Bool.and_false, BEq.rfl, Bool.true_eq_false, Bool.false_eq_true]
    rw [q_in hm (by decide) (by decide)]
    try simp (discharger := omega) only [nlit, iI_lit, iI_add, iI_sub, iI_mul, iI_neg, bI_z, bI_o, i10, i01, eq_self, bI_nar, nar_0, nar_1, bI_t, bI_f, Option.some.injEq, exists_eq_left', true_and, and_true, forall_eq, not_true_eq_false, not_false_eq_true, forall_const, false_implies, true_implies, Classical.not_not, if_true, if_false, Int.reduceEq, Int.reduceLT, Int.reduceLE, Int.reduceGT, Int.reduceGE, Int.reduceAdd, Int.reduceSub, Int.reduceMul, Int.reduceNeg, Int.reduceNe, Bool.true_and, Bool.and_true, Bool.false_and, Bool.and_false, BEq.rfl, Bool.true_eq_false, Bool.false_eq_true]
    rw [q_can h]
    try simp (discharger := omega) only [nlit, iI_lit, iI_add, iI_sub, iI_mul, iI_neg, bI_z, bI_o, i10, i01, eq_self, bI_nar, nar_0, nar_1, bI_t, bI_f, Option.some.injEq, exists_eq_left', true_and, and_true, forall_eq, not_true_eq_false, not_false_eq_true, forall_const, false_implies, true_implies, Classical.not_not, if_true, if_false, Int.reduceEq, Int.reduceLT, Int.reduceLE, Int.reduceGT, Int.reduceGE, Int.reduceAdd, Int.reduceSub, Int.reduceMul, Int.reduceNeg, Int.reduceNe, Bool.true_and, Bool.and_true, Bool.false_and, Bool.and_false, BEq.rfl, Bool.true_eq_false, Bool.false_eq_true]
    have s1 : ∀ z, SIM m (up (up m 50 0 0) 50 0 z) := fun z => ((SIM.rf m).up0 0).up0 z
    cases c1 : inB most 1 80
    · try simp (discharger := omega) only [nlit, iI_lit, iI_add, iI_sub, iI_mul, iI_neg, bI_z, bI_o, i10, i01, eq_self, bI_nar, nar_0, nar_1, bI_t, bI_f, Option.some.injEq, exists_eq_left', true_and, and_true, forall_eq, not_true_eq_false, not_false_eq_true, forall_const, false_implies, true_implies, Classical.not_not, if_true, if_false, Int.reduceEq, Int.reduceLT, Int.reduceLE, Int.reduceGT, Int.reduceGE, Int.reduceAdd, Int.reduceSub, Int.reduceMul, Int.reduceNeg, Int.reduceNe, Bool.true_and, Bool.and_true, Bool.false_and, Bool.and_false, BEq.rfl, Bool.true_eq_false, Bool.false_eq_true]
      exact k1 c1 _ (s1 2) (up_at _ _ _ _)
    · have k2 := k2 c1
      have k3 := k3 c1
      have hc1 := c1
      unfold inB at hc1
      simp at hc1
      rw [cn_true]
      try simp (discharger := omega) only [nlit, iI_lit, iI_add, iI_sub, iI_mul, iI_neg, bI_z, bI_o, i10, i01, eq_self, bI_nar, nar_0, nar_1, bI_t, bI_f, Option.some.injEq, exists_eq_left', true_and, and_true, forall_eq, not_true_eq_false, not_false_eq_true, forall_const, false_implies, true_implies, Classical.not_not, if_true, if_false, Int.reduceEq, Int.reduceLT, Int.reduceLE, Int.reduceGT, Int.reduceGE, Int.reduceAdd, Int.reduceSub, Int.reduceMul, Int.reduceNeg, Int.reduceNe, Bool.true_and, Bool.and_true, Bool.false_and, Bool.and_false, BEq.rfl, Bool.true_eq_false, Bool.false_eq_true]
      refine q_isAskable h ((s1 0).RG hG) ?_
      rw [(s1 0).gv]
      try simp (discharger := omega) only [nlit, iI_lit, iI_add, iI_sub, iI_mul, iI_neg, bI_z, bI_o, i10, i01, eq_self, bI_nar, nar_0, nar_1, bI_t, bI_f, Option.some.injEq, exists_eq_left', true_and, and_true, forall_eq, not_true_eq_false, not_false_eq_true, forall_const, false_implies, true_implies, Classical.not_not, if_true, if_false, Int.reduceEq, Int.reduceLT, Int.reduceLE, Int.reduceGT, Int.reduceGE, Int.reduceAdd, Int.reduceSub, Int.reduceMul, Int.reduceNeg, Int.reduceNe, Bool.true_and, Bool.and_true, Bool.false_and, Bool.and_false, BEq.rfl, Bool.true_eq_false, Bool.false_eq_true]
      rw [q_can h]
      try simp (discharger := omega) only [nlit, iI_lit, iI_add, iI_sub, iI_mul, iI_neg, bI_z, bI_o, i10, i01, eq_self, bI_nar, nar_0, nar_1, bI_t, bI_f, Option.some.injEq, exists_eq_left', true_and, and_true, forall_eq, not_true_eq_false, not_false_eq_true, forall_const, false_implies, true_implies, Classical.not_not, if_true, if_false, Int.reduceEq, Int.reduceLT, Int.reduceLE, Int.reduceGT, Int.reduceGE, Int.reduceAdd, Int.reduceSub, Int.reduceMul, Int.reduceNeg, Int.reduceNe, Bool.true_and, Bool.and_true, Bool.false_and, Bool.and_false, BEq.rfl, Bool.true_eq_false, Bool.false_eq_true]
      have s2 : ∀ z, SIM m (up (ldm (up (up m 50 0 0) 50 0 0)) 50 0 z) := fun z => (s1 0).ldm.up0 z
      cases cp : properB F R (gv m 0)
      · try simp (discharger := omega) only [nlit, iI_lit, iI_add, iI_sub, iI_mul, iI_neg, bI_z, bI_o, i10, i01, eq_self, bI_nar, nar_0, nar_1, bI_t, bI_f, Option.some.injEq, exists_eq_left', true_and, and_true, forall_eq, not_true_eq_false, not_false_eq_true, forall_const, false_implies, true_implies, Classical.not_not, if_true, if_false, Int.reduceEq, Int.reduceLT, Int.reduceLE, Int.reduceGT, Int.reduceGE, Int.reduceAdd, Int.reduceSub, Int.reduceMul, Int.reduceNeg, Int.reduceNe, Bool.true_and, Bool.and_true, Bool.false_and, Bool.and_false, BEq.rfl, Bool.true_eq_false, Bool.false_eq_true]
        exact k2 cp _ (s2 3) (up_at _ _ _ _)
      · have k3 := k3 cp
        have hP := hP cp
        have g := hGP _ hP
        rw [cn_true]
        try simp (discharger := omega) only [nlit, iI_lit, iI_add, iI_sub, iI_mul, iI_neg, bI_z, bI_o, i10, i01, eq_self, bI_nar, nar_0, nar_1, bI_t, bI_f, Option.some.injEq, exists_eq_left', true_and, and_true, forall_eq, not_true_eq_false, not_false_eq_true, forall_const, false_implies, true_implies, Classical.not_not, if_true, if_false, Int.reduceEq, Int.reduceLT, Int.reduceLE, Int.reduceGT, Int.reduceGE, Int.reduceAdd, Int.reduceSub, Int.reduceMul, Int.reduceNeg, Int.reduceNe, Bool.true_and, Bool.and_true, Bool.false_and, Bool.and_false, BEq.rfl, Bool.true_eq_false, Bool.false_eq_true]
        have s3 := s2 0
        have e0 : up (ldm (up (up m 50 0 0) 50 0 0)) 50 0 0 50 0 = 0 := up_at _ _ _ _
        generalize up (ldm (up (up m 50 0 0) 50 0 0)) 50 0 0 = m1 at s3 e0
        have ep := s3.pv
        refine q_mainMove h (s3.RG hG) (s3.SG hS) (by rw [s3.row rfl]; exact hC) hc (by rw [ep]; exact g.2.2.1) (by rw [ep]; exact fun u hu => (g.2.2.2 u hu).1) (fun m2 s4 q0 q1 q2 => ?_)
        have s5 := s3.tr s4
        have ep2 := s5.pv
        have hm0 := hG.m0
        have e11 : m2 50 11 = m 50 11 := s5.o rfl
        have epm := pmL_congr (F := F) (R := R) (s := s) (m := m) (m2 := m2) (fun v => s5.mainV s v)
        rw [← s4.mainV, ← s4.pv]
        try simp (discharger := omega) only [nlit, iI_lit, iI_add, iI_sub, iI_mul, iI_neg, bI_z, bI_o, i10, i01, eq_self, bI_nar, nar_0, nar_1, bI_t, bI_f, Option.some.injEq, exists_eq_left', true_and, and_true, forall_eq, not_true_eq_false, not_false_eq_true, forall_const, false_implies, true_implies, Classical.not_not, if_true, if_false, Int.reduceEq, Int.reduceLT, Int.reduceLE, Int.reduceGT, Int.reduceGE, Int.reduceAdd, Int.reduceSub, Int.reduceMul, Int.reduceNeg, Int.reduceNe, Bool.true_and, Bool.and_true, Bool.false_and, Bool.and_false, BEq.rfl, Bool.true_eq_false, Bool.false_eq_true]
        refine ⟨82, q_playMain_50 h hGP hc hc1 82 (min most (80 - m 50 11)).toNat 0 m2 (by omega) (by rw [e11]; omega) (by omega) (s5.RG hG) (s5.SG hS) (by rw [s5.row rfl]; exact hC) (by rw [ep2]; exact hP) (by rw [q1, s4.pv]) (by rw [s4.pv]; exact q2) (fun m' w w0 => ?_)⟩
        rw [epm, ep2, Int.zero_add]
        rw [epm, ep2] at w
        have hok := pmL_ok (m := m) (s := s) hGP hP (min most (80 - m 50 11)).toNat
        exact k3 _ rfl hok m' ((SIM_playMs hGP s5 hP _ hok).tr w) (by rw [w0, q0, e0])
end
