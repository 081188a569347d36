/-! the continuations -/
def gmB (m : xM) (s : Int) (L : List Mv) (k : Int) : Int := sumL (fun g => if madeB m s g (codeT (L.getD k.toNat (0, 0, 0))) then 1 else 0) 0 (m 30 s).toNat
def wdB (F R : Int) (v : Int → Int) (k : Int) : List Int := sanW F R v (movesL F R v) ((movesL F R v).getD k.toNat (0, 0, 0))
abbrev CT (m0 m : xM) (F R s n : Int) : Prop := SIM m0 m ∧ lv m 0 = pv m0 ∧ Ls m (movesL F R (pv m0)) ∧ (∀ k, 0 ≤ k → k < n → m 19 k = gmB m0 s (movesL F R (pv m0)) k) ∧ (∀ k, 0 ≤ k → k < n → 0 < gmB m0 s (movesL F R (pv m0)) k → Spl m k (wdB F R (pv m0) k)) ∧ m 50 0 = m0 50 0
section
variable {D : wD} {S : wS} {x : Nat} {A : Nat → Nat} {m m0 m' : xM} {F R s : Int} {L : List Mv}
theorem SIM.row (h : SIM m m') {r : Nat} (hr : [8, 9, 10, 12, 14, 30, 31, 32, 33, 34, 35, 36, 37, 38, 40, 41, 42].contains r = true) : m' r = m r := funext fun j => h r j (by unfold kpB; rw [hr]; rfl)
theorem SIM.o (h : SIM m m') {j : Int} (hj : [1, 2, 11, 13, 15, 16, 39].contains j = true) : m' 50 j = m 50 j := h 50 j (by unfold kpB; rw [hj]; rfl)
theorem SIM.gv (h : SIM m m') (k : Int) : gv m' k = gv m k := vec_row (h.row rfl) _
theorem SIM.pv (h : SIM m m') : pv m' = pv m := by
  unfold Jvm.Pilot.COpeningsCabinetLaw_law_r5693_3db0e9.pv
  rw [h.o rfl, h.gv]
theorem SIM.sv (h : SIM m m') (s g k : Int) : sv m' s g k = sv m s g k := vec_row (h.row rfl) _
theorem SIM.XB (h : SIM m m') (q : XB m F R) : XB m' F R := ⟨by rw [h.o rfl]; exact q.1, by rw [h.o rfl]; exact q.2.1, q.2.2⟩
theorem SIM.RG (h : SIM m m') (q : RG m F R) : RG m' F R := ⟨h.XB q.1, by rw [h.o rfl]; exact q.2.1, fun k a b => by rw [h.gv]; rw [h.o rfl] at b; exact q.2.2 k a b⟩
theorem SIM.SG (h : SIM m m') (q : SG m F R) : SG m' F R :=
  ⟨fun s a b => by rw [h.row rfl]; exact q.1 s a b, fun k a b => by rw [h.row (r := 33) rfl, h.row (r := 34) rfl, h.row (r := 35) rfl]; exact q.2.1 k a b, fun s g k a b c d e f => by
    rw [h.sv]; rw [h.row rfl] at d f; exact q.2.2 s g k a b c d e f⟩
theorem SIM.madeB (h : SIM m m') (s g c : Int) : madeB m' s g c = madeB m s g c := by
  unfold Jvm.Pilot.COpeningsCabinetLaw_law_r5693_3db0e9.madeB
  rw [h.row (r := 33) rfl, h.row (r := 32) rfl, h.pv]
  simp only [h.sv]
theorem SIM.scM (h : SIM m m') {m2 : xM} {l : Int} (q : scrM l m' m2) : SIM m m2 := fun r j k => by
  rw [q r j (by rintro ⟨rfl, _⟩; cases k) (by rintro ⟨rfl | rfl | rfl, _⟩ <;> cases k) (by rintro ⟨rfl, _⟩; cases k)]
  exact h r j k
theorem SIM.sc (h : SIM m m') {m2 : xM} (q : scr m' m2) : SIM m m2 := fun r j k => by
  rw [q r j (by rintro ⟨rfl, _⟩; cases k) (by rintro ⟨rfl | rfl | rfl, _⟩ <;> cases k) (by rintro ⟨rfl, _⟩; cases k)]
  exact h r j k
theorem SIM.up (h : SIM m m') {r : Nat} {a v : Int} (q : kpB r a = false) : SIM m (up m' r a v) := fun g j k => by
  rw [up_ne]
  · exact h g j k
  · by_cases e : g = r
    · by_cases f : j = a
      · rw [e, f, q] at k; cases k
      · exact Or.inr f
    · exact Or.inl e
theorem SIM.up0 (h : SIM m m') (v : Int) : SIM m (Jvm.Pilot.COpeningsCabinetLaw_law_r5693_3db0e9.up m' 50 0 v) := h.up rfl
theorem SIM.ldm (h : SIM m m') : SIM m (ldm m') := fun r j k => by
  rw [ldm_f _ _ (by cases hr : r == 3 with | false => rfl | true => have := eq_of_beq hr; subst this; cases k)]
  exact h r j k
theorem SIM.sp (h : SIM m m') (mv : Int) (W : List Int) : SIM m (spM m' mv W) := fun r j k => by
  unfold spM
  rw [if_neg (by rintro ⟨rfl, _⟩; cases k), if_neg (by rintro ⟨rfl, _⟩; cases k)]
  exact h r j k
theorem gmB_r (h30 : 0 ≤ m 30 s ∧ m 30 s ≤ 40) (L : List Mv) (k : Int) : 0 ≤ gmB m s L k ∧ gmB m s L k ≤ 40 := by
  have := sum_rr (f := fun g => if madeB m s g (codeT (L.getD k.toNat (0, 0, 0))) then 1 else 0) (c := 1) (m 30 s).toNat 0 (fun j _ _ => by split <;> decide)
  unfold gmB
  omega
theorem Ls.up (h : Ls m L) {r : Nat} {a v : Int} (hr : (r == 7 || r == 4 || r == 5 || r == 6) = false) : Ls (up m r a v) L := by
  simp at hr
  refine ⟨by rw [up_ne _ (Or.inl (by omega))]; exact h.1, fun k a b q hq => ?_⟩
  rw [up_ne _ (Or.inl (by omega))]
  exact h.2 k a b q hq
theorem Ls.sp (h : Ls m L) (mv : Int) (W : List Int) : Ls (spM m mv W) L := by
  refine ⟨?_, fun k a b q hq => ?_⟩
  · unfold spM; rw [if_neg (by omega), if_neg (by omega)]; exact h.1
  · unfold spM; rw [if_neg (by omega), if_neg (by omega)]; exact h.2 k a b q hq
theorem CT.up19 {n v : Int} (h : CT m0 m F R s n) : CT m0 (up m 19 n v) F R s n := by
  refine ⟨h.1.up rfl, ?_, h.2.2.1.up rfl, fun k a b => ?_, fun k a b c => ?_, (up_f _ _ _ _ rfl).trans h.2.2.2.2.2⟩
  · rw [← h.2.1]; exact vec_row (up_r _ _ _ rfl) _
  · rw [up_ne _ (Or.inr (by omega))]; exact h.2.2.2.1 k a b
  · have := h.2.2.2.2.1 k a b c
    refine ⟨?_, fun j e => ?_, this.2.2⟩
    · rw [up_f _ _ _ _ rfl]; exact this.1
    · rw [up_f _ _ _ _ rfl]; exact this.2.1 j e
theorem Spl.scr {mv : Int} {W : List Int} (h : Spl m mv W) (q : scr m m') : Spl m' mv W := by
  refine ⟨?_, fun j e => ?_, h.2.2⟩
  · rw [q.row rfl]; exact h.1
  · rw [q.row rfl]; exact h.2.1 j e
theorem sanW_b (h4 : 4 ≤ F) (h8 : F ≤ 8) (hn : F * R ≤ 64) {v : Int → Int} {L : List Mv} {t : Mv} (ok : okMv F R v t) : ∀ x ∈ sanW F R v L t, 0 ≤ x ∧ x < 300 := by
  have f1 : 97 ≤ fileC F t.1 ∧ fileC F t.1 < 105 := by have : 0 ≤ t.1 % F ∧ t.1 % F < F := ⟨Int.emod_nonneg _ (by omega), Int.emod_lt_of_pos _ (by omega)⟩; unfold fileC; omega
  have f2 : 97 ≤ fileC F t.2.1 ∧ fileC F t.2.1 < 105 := by have : 0 ≤ t.2.1 % F ∧ t.2.1 % F < F := ⟨Int.emod_nonneg _ (by omega), Int.emod_lt_of_pos _ (by omega)⟩; unfold fileC; omega
  have r1 : 49 ≤ rankC F t.1 ∧ rankC F t.1 < 200 := by
    have h1 := ok.1
    have : 0 ≤ t.1 / F ∧ t.1 / F ≤ t.1 := ⟨Int.ediv_nonneg (by omega) (by omega), Int.ediv_le_self _ (by omega)⟩
    unfold rankC; omega
  have r2 : 49 ≤ rankC F t.2.1 ∧ rankC F t.2.1 < 200 := by
    have h1 := ok.2.1
    have : 0 ≤ t.2.1 / F ∧ t.2.1 / F ≤ t.2.1 := ⟨Int.ediv_nonneg (by omega) (by omega), Int.ediv_le_self _ (by omega)⟩
    unfold rankC; omega
  have l1 : 66 ≤ letB (kindO (v t.1)) ∧ letB (kindO (v t.1)) ≤ 82 := by unfold letB; repeat' (first | decide | split)
  have l2 : 66 ≤ letB t.2.2 ∧ letB t.2.2 ≤ 82 := by unfold letB; repeat' (first | decide | split)
  intro x hx
  unfold sanW at hx
  rcases List.mem_append.mp hx with hx | hx
  · unfold sanA headA takeA tailA fromC at hx
    split at hx
    · split at hx <;> simp at hx <;> omega
    · simp only [List.mem_append] at hx
      rcases hx with hx | hx
      · split at hx
        · split at hx <;> simp at hx; omega
        · simp only [List.mem_cons, List.mem_append] at hx
          rcases hx with hx | hx | hx
          · omega
          · split at hx <;> simp at hx; omega
          · split at hx <;> simp at hx; omega
      · rcases hx with hx | hx | hx
        · split at hx <;> simp at hx; omega
        · simp at hx; omega
        · split at hx <;> simp at hx; omega
  · split at hx
    · simp at hx
    · simp at hx
      rw [hx]; unfold endC; split
      · split <;> decide
      · decide
theorem getD_i {W : List Int} (h : ∀ x ∈ W, 0 ≤ x ∧ x < 300) (j : Nat) : i32 (W.getD j 0) := by
  rw [List.getD_eq_getElem?_getD]
  cases c : W[j]? with
  | none => decide
  | some z =>
    have := h z (List.mem_of_getElem? c)
    simp only [Option.getD_some]; omega
theorem q_lays_30 {post : wS → Prop} (h : XC D S x A) (hG : RG m0 F R) (hS : SG m0 F R) (hC : ∀ j, 0 ≤ j → j < 6400 → i32 (m0 32 j)) (hs : 0 ≤ s ∧ s ≤ 1) (hLn : (movesL F R (pv m0)).length ≤ 320) (hst : ∀ t ∈ movesL F R (pv m0), stOK F R (mkT F R (pv m0) t))
    {k11 : wS → Nat → Int32 → Int32 → Prop} {n : Int} (hn : 0 ≤ n ∧ n < (movesL F R (pv m0)).length) (k : ∀ m, CT m0 m F R s (n + 1) → k11 (xS S x A m) x (iI s) (iI (n + 1))) : ∀ (f d : Nat) (g : Int) (m : xM), d < f → g + d = m0 30 s → 0 ≤ g → CT m0 m F R s n →
    m 19 n = sumL (fun g => if madeB m0 s g (codeT ((movesL F R (pv m0)).getD n.toNat (0, 0, 0))) then 1 else 0) 0 g.toNat → wp_X12_laysContinuations_30 D post k11 f (xS S x A m) x (iI s) (iI n) (iI g) := by
  have h30 := hS.1 s hs.1 hs.2
  have is : vp_in (iI s) 2 := iI_in (by omega) (by omega) (by omega)
  have ik : vp_in (iI n) 320 := iI_in (by omega) (by omega) (by omega)
  have hok : ∀ t ∈ movesL F R (pv m0), okMv F R (pv m0) t := fun t ht => movesL_mem (by have := hG.b.n; omega) ht
  have hmem : (movesL F R (pv m0)).getD n.toNat (0, 0, 0) ∈ movesL F R (pv m0) := getD_mem hn
  intro f
  induction f with
  | zero => intro d g m hd; omega
  | succ f ih =>
    intro d g m hd hj h0 hT hg
    have e30 : m 30 s = m0 30 s := by rw [hT.1.row rfl]
    unfold wp_X12_laysContinuations_30
    simp (discharger := first | decide | omega) only [x_own h, x_kd h, x_r h, x_m h, x_l h, x_k h, x_n h, x_i0, x_i h, x_u0 h, x_u h, xLen, xKd, nlit, iI_lit, iI_add, iI_sub, iI_mul, iI_neg, bI_z, bI_o, i10, i01, eq_self, bI_nar, nar_0, nar_1, up_at, up_f, Option.some.injEq, exists_eq_left', true_and, and_true, forall_eq, not_true_eq_false, not_false_eq_true, forall_const, false_implies, true_implies, Classical.not_not, if_true, if_false, Int.reduceEq, Int.reduceLT, Int.reduceLE, Int.reduceGT, Int.reduceGE, Int.reduceAdd, Int.reduceSub, Int.reduceMul, Int.reduceNeg, Int.reduceNe, eq_true is, eq_true ik]
    rw [e30, iI_le (by omega) (by omega) (by omega) (by omega)]
    have hpart := sum_rr (f := fun g => if madeB m0 s g (codeT ((movesL F R (pv m0)).getD n.toNat (0, 0, 0))) then 1 else 0) (c := 1) g.toNat 0 (fun j _ _ => by split <;> decide)
    rw [← hg] at hpart
    cases d with
    | zero =>
      have c : m0 30 s ≤ g := by omega
      have eg : m 19 n = gmB m0 s (movesL F R (pv m0)) n := by rw [hg]; unfold gmB; rw [show g = m0 30 s by omega]
      simp (discharger := omega) only [nlit, iI_lit, iI_add, iI_sub, iI_mul, iI_neg, bI_z, bI_o, i10, i01, eq_self, bI_nar, nar_0, nar_1, bI_t, bI_f, Option.some.injEq, exists_eq_left', true_and, and_true, forall_eq, not_true_eq_false, not_false_eq_true, forall_const, false_implies, true_implies, Classical.not_not, if_true, if_false, Int.reduceEq, Int.reduceLT, Int.reduceLE, Int.reduceGT, Int.reduceGE, Int.reduceAdd, Int.reduceSub, Int.reduceMul, Int.reduceNeg, Int.reduceNe, Bool.true_and, Bool.and_true, Bool.false_and, Bool.and_false, BEq.rfl, Bool.true_eq_false, Bool.false_eq_true, c, iI_le]
      have low : ∀ m2 : xM, CT m0 m2 F R s n → m2 19 n = gmB m0 s (movesL F R (pv m0)) n → (0 < gmB m0 s (movesL F R (pv m0)) n → Spl m2 n (wdB F R (pv m0) n)) → wp_X12_laysContinuations_88 D post k11 (xS S x A m2) x (iI s) (iI n) := by
        intro m2 q1 q2 q3
        simp (discharger := omega) only [nlit, iI_lit, iI_add, iI_sub, iI_mul, iI_neg, bI_z, bI_o, i10, i01, eq_self, bI_nar, nar_0, nar_1, bI_t, bI_f, Option.some.injEq, exists_eq_left', true_and, and_true, forall_eq, not_true_eq_false, not_false_eq_true, forall_const, false_implies, true_implies, Classical.not_not, if_true, if_false, Int.reduceEq, Int.reduceLT, Int.reduceLE, Int.reduceGT, Int.reduceGE, Int.reduceAdd, Int.reduceSub, Int.reduceMul, Int.reduceNeg, Int.reduceNe, Bool.true_and, Bool.and_true, Bool.false_and, Bool.and_false, BEq.rfl, Bool.true_eq_false, Bool.false_eq_true, wp_X12_laysContinuations_88]
        refine k m2 ⟨q1.1, q1.2.1, q1.2.2.1, fun j a b => ?_, fun j a b => ?_, q1.2.2.2.2.2⟩
        · by_cases e : j = n
          · rw [e]; exact q2
          · exact q1.2.2.2.1 j a (by omega)
        · by_cases e : j = n
          · rw [e]; exact q3
          · exact q1.2.2.2.2.1 j a (by omega)
      by_cases z : m 19 n ≤ 0
      · simp (discharger := omega) only [nlit, iI_lit, iI_add, iI_sub, iI_mul, iI_neg, bI_z, bI_o, i10, i01, eq_self, bI_nar, nar_0, nar_1, bI_t, bI_f, Option.some.injEq, exists_eq_left', true_and, and_true, forall_eq, not_true_eq_false, not_false_eq_true, forall_const, false_implies, true_implies, Classical.not_not, if_true, if_false, Int.reduceEq, Int.reduceLT, Int.reduceLE, Int.reduceGT, Int.reduceGE, Int.reduceAdd, Int.reduceSub, Int.reduceMul, Int.reduceNeg, Int.reduceNe, Bool.true_and, Bool.and_true, Bool.false_and, Bool.and_false, BEq.rfl, Bool.true_eq_false, Bool.false_eq_true, z]
        exact low m hT eg (fun p => by omega)
      · simp (discharger := omega) only [nlit, iI_lit, iI_add, iI_sub, iI_mul, iI_neg, bI_z, bI_o, i10, i01, eq_self, bI_nar, nar_0, nar_1, bI_t, bI_f, Option.some.injEq, exists_eq_left', true_and, and_true, forall_eq, not_true_eq_false, not_false_eq_true, forall_const, false_implies, true_implies, Classical.not_not, if_true, if_false, Int.reduceEq, Int.reduceLT, Int.reduceLE, Int.reduceGT, Int.reduceGE, Int.reduceAdd, Int.reduceSub, Int.reduceMul, Int.reduceNeg, Int.reduceNe, Bool.true_and, Bool.and_true, Bool.false_and, Bool.and_false, BEq.rfl, Bool.true_eq_false, Bool.false_eq_true, z]
        have els := Ls_lsM hT.2.2.1
        rw [← els]
        have hB := hT.1.XB hG.b
        refine q_spellsWholeV h hB hT.2.1 hG.pv hLn (t := (movesL F R (pv m0)).getD n.toNat (0, 0, 0)) hn rfl (hst _ hmem) (fun m2 q => ?_)
        rw [els] at q
        have hlen := sanW_len F R (pv m0) (movesL F R (pv m0)) ((movesL F R (pv m0)).getD n.toNat (0, 0, 0))
        refine low m2 ⟨(hT.1.sp _ _).sc q, ?_, ?_, fun j a b => ?_, fun j a b c => ?_, by rw [q.row rfl, spM_f _ _ _ _ rfl]; exact hT.2.2.2.2.2⟩ ?_ (fun _ => ?_)
        · rw [q.lv, ← hT.2.1]; exact vec_row (spM_r _ _ _ rfl) _
        · exact q.Ls (hT.2.2.1.sp _ _) hLn
        · rw [q.row rfl, spM_f _ _ _ _ rfl]; exact hT.2.2.2.1 j a b
        · refine Spl.scr ?_ q
          have hz := hT.2.2.2.2.1 j a b c
          have e18 : ∀ i W, i ≠ n → spM m n W 18 i = m 18 i := fun i W e => by unfold spM; rw [if_neg (by omega), if_neg (by omega)]
          refine ⟨by rw [e18 _ _ (by omega)]; exact hz.1, fun i e => ?_, hz.2.2⟩
          have := hz.2.2.1
          unfold spM
          rw [if_neg (by omega), if_neg (by omega)]
          exact hz.2.1 i e
        · rw [q.row rfl, spM_f _ _ _ _ rfl]; exact eg
        · refine Spl.scr ?_ q
          unfold wdB
          generalize hW : sanW F R (pv m0) (movesL F R (pv m0)) ((movesL F R (pv m0)).getD n.toNat (0, 0, 0)) = W at hlen
          refine ⟨by unfold spM; rw [if_pos ⟨rfl, rfl⟩], fun i e => ?_, by omega, fun i => ?_⟩
          · unfold spM
            rw [if_neg (by omega), if_pos (by omega)]
            congr 1; omega
          · have := sanW_b hG.b.f4 hG.b.f8 hG.b.n.2 (L := movesL F R (pv m0)) (hok _ hmem)
            rw [hW] at this; exact getD_i this i
    | succ d =>
      have c : ¬ m0 30 s ≤ g := by omega
      simp (discharger := omega) only [nlit, iI_lit, iI_add, iI_sub, iI_mul, iI_neg, bI_z, bI_o, i10, i01, eq_self, bI_nar, nar_0, nar_1, bI_t, bI_f, Option.some.injEq, exists_eq_left', true_and, and_true, forall_eq, not_true_eq_false, not_false_eq_true, forall_const, false_implies, true_implies, Classical.not_not, if_true, if_false, Int.reduceEq, Int.reduceLT, Int.reduceLE, Int.reduceGT, Int.reduceGE, Int.reduceAdd, Int.reduceSub, Int.reduceMul, Int.reduceNeg, Int.reduceNe, Bool.true_and, Bool.and_true, Bool.false_and, Bool.and_false, BEq.rfl, Bool.true_eq_false, Bool.false_eq_true, c]
      have els := Ls_lsM hT.2.2.1
      have ec : ∀ post : Int32 → wS → Prop, wp_X12_codeOf D post (xS S x A m) x (iI n) = post (iI (codeT ((movesL F R (pv m0)).getD n.toNat (0, 0, 0)))) (xS S x A m) := fun post => by
        have := q_codeOf (D := D) (post := post) (m := m) h (w := lv m 1) hLn hn rfl
        rwa [els] at this
      rw [ec]
      have hG1 := hT.1.RG hG
      have hS1 := hT.1.SG hS
      have ok := hok _ hmem
      have hn64 := hG.b.n
      refine q_madeHere h hG1 hS1 (by rw [hT.1.row rfl]; exact hC) hs ⟨h0, by rw [e30]; omega⟩ (by unfold codeT; have := ok.1; have := ok.2.1; have := ok.2.2.1; omega) ?_
      rw [hT.1.madeB]
      have step : ∀ z : Int, z = (if madeB m0 s g (codeT ((movesL F R (pv m0)).getD n.toNat (0, 0, 0))) then 1 else 0) → wp_X12_laysContinuations_66 D post k11 (wp_X12_laysContinuations_30 D post k11 f) (xS S x A m) x (iI s) (iI n) (iI g) (A 19) (iI n) (iI (m 19 n)) (iI z) := by
        intro z hz
        unfold wp_X12_laysContinuations_66
        simp (discharger := first | decide | omega) only [x_own h, x_kd h, x_r h, x_m h, x_l h, x_k h, x_n h, x_i0, x_i h, x_u0 h, x_u h, xLen, xKd, nlit, iI_lit, iI_add, iI_sub, iI_mul, iI_neg, bI_z, bI_o, i10, i01, eq_self, bI_nar, nar_0, nar_1, up_at, up_f, Option.some.injEq, exists_eq_left', true_and, and_true, forall_eq, not_true_eq_false, not_false_eq_true, forall_const, false_implies, true_implies, Classical.not_not, if_true, if_false, Int.reduceEq, Int.reduceLT, Int.reduceLE, Int.reduceGT, Int.reduceGE, Int.reduceAdd, Int.reduceSub, Int.reduceMul, Int.reduceNeg, Int.reduceNe, eq_true ik]
        refine ih d (g + 1) _ (by omega) (by omega) (by omega) hT.up19 ?_
        rw [up_at, hg, hz, show (g + 1).toNat = g.toNat + 1 by omega, sum_snoc, Int.zero_add, show ((g.toNat : Nat) : Int) = g by omega]
      cases cm : madeB m0 s g (codeT ((movesL F R (pv m0)).getD n.toNat (0, 0, 0)))
      · try simp (discharger := omega) only [nlit, iI_lit, iI_add, iI_sub, iI_mul, iI_neg, bI_z, bI_o, i10, i01, eq_self, bI_nar, nar_0, nar_1, bI_t, bI_f, Option.some.injEq, exists_eq_left', true_and, and_true, forall_eq, not_true_eq_false, not_false_eq_true, forall_const, false_implies, true_implies, Classical.not_not, if_true, if_false, Int.reduceEq, Int.reduceLT, Int.reduceLE, Int.reduceGT, Int.reduceGE, Int.reduceAdd, Int.reduceSub, Int.reduceMul, Int.reduceNeg, Int.reduceNe, Bool.true_and, Bool.and_true, Bool.false_and, Bool.and_false, BEq.rfl, Bool.true_eq_false, Bool.false_eq_true]
        exact step 0 (by rw [cm]; rfl)
      · try simp (discharger := omega) only [nlit, iI_lit, iI_add, iI_sub, iI_mul, iI_neg, bI_z, bI_o, i10, i01, eq_self, bI_nar, nar_0, nar_1, bI_t, bI_f, Option.some.injEq, exists_eq_left', true_and, and_true, forall_eq, not_true_eq_false, not_false_eq_true, forall_const, false_implies, true_implies, Classical.not_not, if_true, if_false, Int.reduceEq, Int.reduceLT, Int.reduceLE, Int.reduceGT, Int.reduceGE, Int.reduceAdd, Int.reduceSub, Int.reduceMul, Int.reduceNeg, Int.reduceNe, Bool.true_and, Bool.and_true, Bool.false_and, Bool.and_false, BEq.rfl, Bool.true_eq_false, Bool.false_eq_true]
        exact step 1 (by rw [cm]; rfl)
theorem q_lays_11 {post : wS → Prop} (h : XC D S x A) (hG : RG m0 F R) (hS : SG m0 F R) (hC : ∀ j, 0 ≤ j → j < 6400 → i32 (m0 32 j)) (hs : 0 ≤ s ∧ s ≤ 1) (hLn : (movesL F R (pv m0)).length ≤ 320) (hst : ∀ t ∈ movesL F R (pv m0), stOK F R (mkT F R (pv m0) t))
    (k : ∀ m, CT m0 m F R s (movesL F R (pv m0)).length → post (xS S x A m)) : ∀ (f d : Nat) (n : Int) (m : xM), d < f → n + d = (movesL F R (pv m0)).length → 0 ≤ n → CT m0 m F R s n →
    wp_X12_laysContinuations_11 D post f (xS S x A m) x (iI s) (iI n) := by
  have h30 := hS.1 s hs.1 hs.2
  have i0 : vp_in (iI 0) 8 := iI_in (by omega) (by omega) (by omega)
  intro f
  induction f with
  | zero => intro d n m hd; omega
  | succ f ih =>
    intro d n m hd hj h0 hT
    unfold wp_X12_laysContinuations_11
    simp (discharger := first | decide | omega) only [x_own h, x_kd h, x_r h, x_m h, x_l h, x_k h, x_n h, x_i0, x_i h, x_u0 h, x_u h, xLen, xKd, nlit, iI_lit, iI_add, iI_sub, iI_mul, iI_neg, bI_z, bI_o, i10, i01, eq_self, bI_nar, nar_0, nar_1, up_at, up_f, Option.some.injEq, exists_eq_left', true_and, and_true, forall_eq, not_true_eq_false, not_false_eq_true, forall_const, false_implies, true_implies, Classical.not_not, if_true, if_false, Int.reduceEq, Int.reduceLT, Int.reduceLE, Int.reduceGT, Int.reduceGE, Int.reduceAdd, Int.reduceSub, Int.reduceMul, Int.reduceNeg, Int.reduceNe, eq_true i0]
    rw [hT.2.2.1.1, iI_le (by omega) (by omega) (by omega) (by omega)]
    cases d with
    | zero =>
      have c : ((movesL F R (pv m0)).length : Int) ≤ n := by omega
      simp (discharger := omega) only [nlit, iI_lit, iI_add, iI_sub, iI_mul, iI_neg, bI_z, bI_o, i10, i01, eq_self, bI_nar, nar_0, nar_1, bI_t, bI_f, Option.some.injEq, exists_eq_left', true_and, and_true, forall_eq, not_true_eq_false, not_false_eq_true, forall_const, false_implies, true_implies, Classical.not_not, if_true, if_false, Int.reduceEq, Int.reduceLT, Int.reduceLE, Int.reduceGT, Int.reduceGE, Int.reduceAdd, Int.reduceSub, Int.reduceMul, Int.reduceNeg, Int.reduceNe, Bool.true_and, Bool.and_true, Bool.false_and, Bool.and_false, BEq.rfl, Bool.true_eq_false, Bool.false_eq_true, c]
      rw [show n = (movesL F R (pv m0)).length by omega] at hT
      exact k m hT
    | succ d =>
      have c : ¬ ((movesL F R (pv m0)).length : Int) ≤ n := by omega
      have ik : vp_in (iI n) 320 := iI_in (by omega) (by omega) (by omega)
      simp (discharger := omega) only [nlit, iI_lit, iI_add, iI_sub, iI_mul, iI_neg, bI_z, bI_o, i10, i01, eq_self, bI_nar, nar_0, nar_1, bI_t, bI_f, Option.some.injEq, exists_eq_left', true_and, and_true, forall_eq, not_true_eq_false, not_false_eq_true, forall_const, false_implies, true_implies, Classical.not_not, if_true, if_false, Int.reduceEq, Int.reduceLT, Int.reduceLE, Int.reduceGT, Int.reduceGE, Int.reduceAdd, Int.reduceSub, Int.reduceMul, Int.reduceNeg, Int.reduceNe, Bool.true_and, Bool.and_true, Bool.false_and, Bool.and_false, BEq.rfl, Bool.true_eq_false, Bool.false_eq_true, c]
      simp (discharger := first | decide | omega) only [x_own h, x_kd h, x_r h, x_m h, x_l h, x_k h, x_n h, x_i0, x_i h, x_u0 h, x_u h, xLen, xKd, nlit, iI_lit, iI_add, iI_sub, iI_mul, iI_neg, bI_z, bI_o, i10, i01, eq_self, bI_nar, nar_0, nar_1, up_at, up_f, Option.some.injEq, exists_eq_left', true_and, and_true, forall_eq, not_true_eq_false, not_false_eq_true, forall_const, false_implies, true_implies, Classical.not_not, if_true, if_false, Int.reduceEq, Int.reduceLT, Int.reduceLE, Int.reduceGT, Int.reduceGE, Int.reduceAdd, Int.reduceSub, Int.reduceMul, Int.reduceNeg, Int.reduceNe, eq_true ik]
      refine ⟨41, q_lays_30 h hG hS hC hs hLn hst ⟨h0, by omega⟩ (fun m2 q => ih d (n + 1) m2 (by omega) (by omega) (by omega) q) 41 (m0 30 s).toNat 0 _ (by omega) (by omega) (by decide) hT.up19 ?_⟩
      rw [up_at]; rfl
theorem q_lays {post : wS → Prop} (h : XC D S x A) (hG : RG m F R) (hS : SG m F R) (hC : ∀ j, 0 ≤ j → j < 6400 → i32 (m 32 j)) (hs : 0 ≤ s ∧ s ≤ 1) (hK : mvOK F R (pv m)) (hst : ∀ t ∈ movesL F R (pv m), stOK F R (mkT F R (pv m) t))
    (k : ∀ m', CT m m' F R s (movesL F R (pv m)).length → post (xS S x A m')) : wp_X12_laysContinuations D post (xS S x A m) x (iI s) := by
  unfold wp_X12_laysContinuations wp_X12_laysContinuations_0
  refine q_loads h hG.m0 ?_
  try simp (discharger := omega) only [nlit, iI_lit, iI_add, iI_sub, iI_mul, iI_neg, bI_z, bI_o, i10, i01, eq_self, bI_nar, nar_0, nar_1, bI_t, bI_f, Option.some.injEq, exists_eq_left', true_and, and_true, forall_eq, not_true_eq_false, not_false_eq_true, forall_const, false_implies, true_implies, Classical.not_not, if_true, if_false, Int.reduceEq, Int.reduceLT, Int.reduceLE, Int.reduceGT, Int.reduceGE, Int.reduceAdd, Int.reduceSub, Int.reduceMul, Int.reduceNeg, Int.reduceNe, Bool.true_and, Bool.and_true, Bool.false_and, Bool.and_false, BEq.rfl, Bool.true_eq_false, Bool.false_eq_true]
  refine q_movesM h hG.b.ldm (l := 0) (by decide) (ldm_lv m) hG.pv hK (fun m2 s2 hA => ?_)
  try simp (discharger := omega) only [nlit, iI_lit, iI_add, iI_sub, iI_mul, iI_neg, bI_z, bI_o, i10, i01, eq_self, bI_nar, nar_0, nar_1, bI_t, bI_f, Option.some.injEq, exists_eq_left', true_and, and_true, forall_eq, not_true_eq_false, not_false_eq_true, forall_const, false_implies, true_implies, Classical.not_not, if_true, if_false, Int.reduceEq, Int.reduceLT, Int.reduceLE, Int.reduceGT, Int.reduceGE, Int.reduceAdd, Int.reduceSub, Int.reduceMul, Int.reduceNeg, Int.reduceNe, Bool.true_and, Bool.and_true, Bool.false_and, Bool.and_false, BEq.rfl, Bool.true_eq_false, Bool.false_eq_true]
  refine ⟨321, q_lays_11 h hG hS hC hs hK.2 hst k 321 (movesL F R (pv m)).length 0 m2 (by have := hK.2; omega) (by omega) (by decide) ⟨((SIM.rf m).ldm).scM s2, hA.1, ⟨hA.2.1, fun k a b r hr => ?_⟩, fun k a b => by omega, fun k a b => by omega, by rw [s2.row rfl, ldm_f _ _ rfl]⟩⟩
  have := hA.2.2 k a b r hr
  rw [Int.mul_zero, Int.zero_add] at this
  exact this
end
