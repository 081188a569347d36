section
variable {D : wD} {S : wS} {x : Nat} {A : Nat → Nat} {m m0 : xM} {F R : Int} {post : Int32 → wS → Prop} {GP : (Int → Int) → Prop} {v0 : Int → Int}
theorem setR_at {α : Type} (f : Int → α) (d : Int) (v : α) : setR f d v d = v := if_pos rfl
theorem setR_ne {α : Type} (f : Int → α) {d l : Int} (v : α) (h : l ≠ d) : setR f d v l = f l := if_neg h
/-- which cells a token leaves as they are -/
abbrev K24 (m m' : xM) : Prop := m' 50 24 = m 50 24 ∧ m' 50 25 = m 50 25 ∧ m' 50 13 = m 50 13
theorem namB_r (F R : Int) (v : Int → Int) (t : Int → Int) (a e : Int) : ∀ (d : Nat) (k : Int), 0 ≤ k → namB F R v t a e k d = -1 ∨ (0 ≤ namB F R v t a e k d ∧ namB F R v t a e k d < k + d) := by
  intro d
  induction d with
  | zero => intro k _; left; rfl
  | succ d ih =>
    intro k h
    unfold namB
    split
    · right; omega
    · have := ih (k + 1) (by omega); omega
theorem q_standsWord (h : XC D S x A) (hG : GPc F R GP) (hB : XB m0 F R) (hmd : 0 ≤ m0 50 11 ∧ m0 50 11 ≤ 80) {t : Int → Int} {len a e p : Int} (hx : TX m0 t len) (ha : 0 ≤ a ∧ a < e) (he : e ≤ len) {s : RD} (hp : p ≤ a) (hR : RSq F R GP v0 m0 m p s)
    (kn : wordS F R (m0 50 11) t a e s = none → ∀ m', SIM m0 m' → m' 50 0 = m0 50 0 → K24 m m' → post (iI 0) (xS S x A m'))
    (ks : ∀ s1, wordS F R (m0 50 11) t a e s = some s1 → ∀ m', RSq F R GP v0 m0 m' e s1 → K24 m m' → post (iI 1) (xS S x A m')) : wp_X12_standsWord D post (xS S x A m) x (iI a) (iI e) := by
  have h5 := hx.1
  obtain ⟨s1, s2, s3, s4, s5, s6, s7, s8⟩ := hR
  have hBm := s1.1.XB hB
  have hxm : TX m t len := hx.row (s1.1.row rfl)
  have kz : K24 m m := ⟨rfl, rfl, rfl⟩
  have kno : wordS F R (m0 50 11) t a e s = none → post (iI 0) (xS S x A m) := fun q => kn q m s1.1 s1.2 kz
  have e29 : ∀ (mm : xM) (b : Bool), uI (xS S x A mm) x 29 (iI (bI b)) = xS S x A (up mm 50 29 (bI b)) := fun mm b => x_u0 h 29 _
  have e28 : ∀ (mm : xM) (b : Bool), uI (xS S x A mm) x 28 (iI (bI b)) = xS S x A (up mm 50 28 (bI b)) := fun mm b => x_u0 h 28 _
  have fb : ∀ b : Bool, fits .boolean (.int (iI (bI b))) = true := fun b => by cases b <;> decide
  have f1 := fb true
  have f0 := fb false
  rw [bI_t] at f1
  rw [bI_f] at f0
  have z29 : m 50 29 = bI s.2.2.2.2.2.2.2 := s3.2.2
  have z28 : m 50 28 = bI s.2.2.2.2.2.2.1 := s3.2.1
  have z27 : m 50 27 = s.1 := s2.1
  unfold wordS at kn ks kno
  unfold wp_X12_standsWord wp_X12_standsWord_0
  simp (discharger := first | decide | omega) only [x_own h, x_kd h, x_r h, x_m h, x_l h, x_k h, x_n h, x_i0, x_i h, x_u0 h, x_u h, xLen, xKd, nlit, iI_lit, iI_add, iI_sub, iI_mul, iI_neg, bI_z, bI_o, i10, i01, eq_self, bI_nar, nar_0, nar_1, up_at, up_f, Option.some.injEq, exists_eq_left', true_and, and_true, forall_eq, not_true_eq_false, not_false_eq_true, forall_const, false_implies, true_implies, Classical.not_not, if_true, if_false, Int.reduceEq, Int.reduceLT, Int.reduceLE, Int.reduceGT, Int.reduceGE, Int.reduceAdd, Int.reduceSub, Int.reduceMul, Int.reduceNeg, Int.reduceNe, z29]
  cases cen : s.2.2.2.2.2.2.2
  · rw [cen, if_neg (by decide)] at kn ks kno
    try simp (discharger := omega) only [nlit, iI_lit, iI_add, iI_sub, iI_mul, iI_neg, bI_z, bI_o, i10, i01, eq_self, bI_nar, nar_0, nar_1, bI_t, bI_f, Option.some.injEq, exists_eq_left', true_and, and_true, forall_eq, not_true_eq_false, not_false_eq_true, forall_const, false_implies, true_implies, Classical.not_not, if_true, if_false, Int.reduceEq, Int.reduceLT, Int.reduceLE, Int.reduceGT, Int.reduceGE, Int.reduceAdd, Int.reduceSub, Int.reduceMul, Int.reduceNeg, Int.reduceNe, Bool.true_and, Bool.and_true, Bool.false_and, Bool.and_false, BEq.rfl, Bool.true_eq_false, Bool.false_eq_true]
    refine q_isNumber h hxm ⟨ha.1, by omega⟩ he ?_
    cases cnb : numB t a e
    · rw [cnb, if_neg (by decide)] at kn ks kno
      try simp (discharger := omega) only [nlit, iI_lit, iI_add, iI_sub, iI_mul, iI_neg, bI_z, bI_o, i10, i01, eq_self, bI_nar, nar_0, nar_1, bI_t, bI_f, Option.some.injEq, exists_eq_left', true_and, and_true, forall_eq, not_true_eq_false, not_false_eq_true, forall_const, false_implies, true_implies, Classical.not_not, if_true, if_false, Int.reduceEq, Int.reduceLT, Int.reduceLE, Int.reduceGT, Int.reduceGE, Int.reduceAdd, Int.reduceSub, Int.reduceMul, Int.reduceNeg, Int.reduceNe, Bool.true_and, Bool.and_true, Bool.false_and, Bool.and_false, BEq.rfl, Bool.true_eq_false, Bool.false_eq_true]
      refine q_isResult h hxm ⟨ha.1, by omega⟩ he ?_
      cases crs : resB t a e
      · rw [crs, if_neg (by decide)] at kn ks kno
        try simp (discharger := omega) only [nlit, iI_lit, iI_add, iI_sub, iI_mul, iI_neg, bI_z, bI_o, i10, i01, eq_self, bI_nar, nar_0, nar_1, bI_t, bI_f, Option.some.injEq, exists_eq_left', true_and, and_true, forall_eq, not_true_eq_false, not_false_eq_true, forall_const, false_implies, true_implies, Classical.not_not, if_true, if_false, Int.reduceEq, Int.reduceLT, Int.reduceLE, Int.reduceGT, Int.reduceGE, Int.reduceAdd, Int.reduceSub, Int.reduceMul, Int.reduceNeg, Int.reduceNe, Bool.true_and, Bool.and_true, Bool.false_and, Bool.and_false, BEq.rfl, Bool.true_eq_false, Bool.false_eq_true]
        simp (discharger := first | decide | omega) only [x_own h, x_kd h, x_r h, x_m h, x_l h, x_k h, x_n h, x_i0, x_i h, x_u0 h, x_u h, xLen, xKd, nlit, iI_lit, iI_add, iI_sub, iI_mul, iI_neg, bI_z, bI_o, i10, i01, eq_self, bI_nar, nar_0, nar_1, up_at, up_f, Option.some.injEq, exists_eq_left', true_and, and_true, forall_eq, not_true_eq_false, not_false_eq_true, forall_const, false_implies, true_implies, Classical.not_not, if_true, if_false, Int.reduceEq, Int.reduceLT, Int.reduceLE, Int.reduceGT, Int.reduceGE, Int.reduceAdd, Int.reduceSub, Int.reduceMul, Int.reduceNeg, Int.reduceNe, z27]
        have g := s4 s.1 s2.2.1 (by omega)
        refine q_copies (f := 20) (g := 3) h (by decide) (by decide) (by omega) (by omega) (by omega) (by simp only [xLen]; omega) (by simp only [xLen]; omega) (fun e => by cases e) ?_
        have em1 : cpy m 20 (67 * s.1) 3 0 67 = putV m (67 * 0) (s.2.1 s.1) := by rw [← g.1]; exact cpy_vec m 20 _ _
        rw [em1]
        have x1 : rdX m (putV m (67 * 0) (s.2.1 s.1)) := fun r j e => putV_f _ _ _ _ (by simp at e; simp; omega)
        have hR1 : RSq F R GP v0 m0 (putV m (67 * 0) (s.2.1 s.1)) p s := RSq.x ⟨s1, s2, s3, s4, s5, s6, s7, s8⟩ x1
        have hP := g.2.1
        have gp := hG _ hP
        have hlv : lv (putV m (67 * 0) (s.2.1 s.1)) 0 = s.2.1 s.1 := lv_putV m gp.2.1
        have k1 : K24 m (putV m (67 * 0) (s.2.1 s.1)) := ⟨x1 50 24 rfl, x1 50 25 rfl, x1 50 13 rfl⟩
        generalize putV m (67 * 0) (s.2.1 s.1) = m1 at x1 hR1 hlv k1
        have y27 : m1 50 27 = s.1 := hR1.2.1.1
        have hB1 := hR1.1.1.XB hB
        have hx1 : TX m1 t len := hx.row (hR1.1.1.row rfl)
        have hLn := gp.2.2.1.2
        have no129 : ∀ m2, SIM m0 m2 → m2 50 0 = m0 50 0 → K24 m m2 → (if s.1 = 0 ∧ 80 ≤ m0 50 11 + s.2.2.2.1 0 then none else if namB F R (s.2.1 s.1) t a e 0 (movesL F R (s.2.1 s.1)).length = -1 then (none : Option RD) else some s) = none → wp_X12_standsWord_129 D post (xS S x A m2) x (iI (-1)) := fun m2 q1 q2 q3 q4 => by
          simp (discharger := omega) only [nlit, iI_lit, iI_add, iI_sub, iI_mul, iI_neg, bI_z, bI_o, i10, i01, eq_self, bI_nar, nar_0, nar_1, bI_t, bI_f, Option.some.injEq, exists_eq_left', true_and, and_true, forall_eq, not_true_eq_false, not_false_eq_true, forall_const, false_implies, true_implies, Classical.not_not, if_true, if_false, Int.reduceEq, Int.reduceLT, Int.reduceLE, Int.reduceGT, Int.reduceGE, Int.reduceAdd, Int.reduceSub, Int.reduceMul, Int.reduceNeg, Int.reduceNe, Bool.true_and, Bool.and_true, Bool.false_and, Bool.and_false, BEq.rfl, Bool.true_eq_false, Bool.false_eq_true, wp_X12_standsWord_129]
          refine kn ?_ m2 q1 q2 q3
          by_cases c1 : s.1 = 0 ∧ 80 ≤ m0 50 11 + s.2.2.2.1 0
          · rw [if_pos c1]
          · rw [if_neg c1] at q4 ⊢
            by_cases c2 : namB F R (s.2.1 s.1) t a e 0 (movesL F R (s.2.1 s.1)).length = -1
            · rw [if_pos c2]
            · rw [if_neg c2] at q4; cases q4
        have go : ¬ (s.1 = 0 ∧ 80 ≤ m0 50 11 + s.2.2.2.1 0) → wp_X12_standsWord_123 D post (xS S x A m1) x (iI a) (iI e) := by
          intro cful
          rw [if_neg cful] at kn ks
          unfold wp_X12_standsWord_123
          try simp (discharger := omega) only [nlit, iI_lit, iI_add, iI_sub, iI_mul, iI_neg, bI_z, bI_o, i10, i01, eq_self, bI_nar, nar_0, nar_1, bI_t, bI_f, Option.some.injEq, exists_eq_left', true_and, and_true, forall_eq, not_true_eq_false, not_false_eq_true, forall_const, false_implies, true_implies, Classical.not_not, if_true, if_false, Int.reduceEq, Int.reduceLT, Int.reduceLE, Int.reduceGT, Int.reduceGE, Int.reduceAdd, Int.reduceSub, Int.reduceMul, Int.reduceNeg, Int.reduceNe, Bool.true_and, Bool.and_true, Bool.false_and, Bool.and_false, BEq.rfl, Bool.true_eq_false, Bool.false_eq_true]
          refine q_namedMove h hB1 hlv gp.1 gp.2.2.1 (fun u hu => (gp.2.2.2 u hu).1) hx1 ⟨ha.1, by omega⟩ he (fun m2 s2' hlv2 hL2 => ?_)
          have x2 : rdX m1 m2 := fun r j e => s2' r j (by simp at e; omega) (by simp at e; simp; omega)
          have hR2 := hR1.x x2
          have k2 : K24 m m2 := ⟨(x2 50 24 rfl).trans k1.1, (x2 50 25 rfl).trans k1.2.1, (x2 50 13 rfl).trans k1.2.2⟩
          have nr := namB_r F R (s.2.1 s.1) t a e (movesL F R (s.2.1 s.1)).length 0 (by decide)
          by_cases c2 : namB F R (s.2.1 s.1) t a e 0 (movesL F R (s.2.1 s.1)).length = -1
          · rw [c2]
            exact no129 m2 hR2.1.1 hR2.1.2 k2 (by rw [if_neg cful, if_pos c2])
          · rw [if_neg c2] at ks
            generalize hq : namB F R (s.2.1 s.1) t a e 0 (movesL F R (s.2.1 s.1)).length = q at nr c2 ks
            have hqr : 0 ≤ q ∧ q < (movesL F R (s.2.1 s.1)).length := by omega
            generalize hu : (movesL F R (s.2.1 s.1)).getD q.toNat (0, 0, 0) = u at ks
            have hmem : u ∈ movesL F R (s.2.1 s.1) := by rw [← hu]; exact getD_mem hqr
            obtain ⟨r1, r2, r3, r4, r5, r6, r7, r8⟩ := hR2
            have w27 : m2 50 27 = s.1 := r2.1
            have gs := r4 s.1 r2.2.1 (by omega)
            have gpu := (gp.2.2.2 u hmem).2
            -- what the last part does, for either kind of line
            have fin : ∀ m3 : xM, (∀ r j, ¬ (r = 23 ∧ j = s.2.2.2.1 0 ∧ s.1 = 0) → ¬ (r = 50 ∧ j = 26) → m3 r j = m2 r j) → m3 50 26 = (if s.1 = 0 then s.2.2.2.2.2.1 else s.2.2.2.2.2.1 + 1) → (s.1 = 0 → m3 23 (s.2.2.2.1 0) = q) → wp_X12_standsWord_169 D post (xS S x A m3) x (iI q) := by
              intro m3 f1 f2 f3
              have er : ∀ r, r ≠ 23 → r ≠ 50 → m3 r = m2 r := fun r a b => funext fun j => f1 r j (by omega) (by omega)
              have hB3 : XB m3 F R := by
                have := r1.1.XB hB
                exact ⟨by rw [f1 50 1 (by simp) (by simp)]; exact this.1, by rw [f1 50 2 (by simp) (by simp)]; exact this.2.1, this.2.2⟩
              have hlv3 : lv m3 0 = s.2.1 s.1 := by rw [← hlv2]; exact vec_row (er 3 (by decide) (by decide)) _
              have hL3 : Ls m3 (movesL F R (s.2.1 s.1)) := ⟨by rw [er 7 (by decide) (by decide)]; exact hL2.1, fun k a b r hr => by rw [er r (by omega) (by omega)]; exact hL2.2 k a b r hr⟩
              refine q_sW_169 h hG hB3 (d := s.1) ((f1 50 27 (by simp) (by simp)).trans w27) ⟨r2.2.1, r2.2.2⟩ hP hlv3 hL3 hqr (fun m4 t1 t2 t3 t4 t5 => ?_)
              rw [hu] at t4
              refine ks _ rfl m4 ⟨⟨fun r j hk => ?_, ?_⟩, ⟨?_, r2.2⟩, ⟨?_, ?_, ?_⟩, fun l a b => ?_, ?_, ?_, ?_, ?_⟩ ⟨?_, ?_, ?_⟩
              · rw [t1 r j (rdX.kp hk) (by cases e : (r == 20 || r == 21) with | false => rfl | true => simp at e; rcases e with rfl | rfl <;> cases hk) (by rintro ⟨rfl, _⟩; cases hk) (by rintro ⟨rfl, rfl⟩; cases hk)]
                rw [f1 r j (by rintro ⟨rfl, _⟩; cases hk) (by rintro ⟨rfl, rfl⟩; cases hk)]
                exact r1.1 r j hk
              · rw [t1 50 0 rfl rfl (by simp) (by simp), f1 50 0 (by simp) (by simp)]; exact r1.2
              · rw [t1 50 27 rfl rfl (by simp) (by simp), f1 50 27 (by simp) (by simp)]; exact w27
              · rw [t1 50 26 rfl rfl (by simp) (by simp)]; exact f2
              · exact t3
              · rw [t1 50 29 rfl rfl (by simp) (by simp), f1 50 29 (by simp) (by simp)]
                have := r3.2.2
                rw [cen] at this; exact this
              · have gl := r4 l a b
                dsimp only
                by_cases c : l = s.1
                · subst c
                  rw [t4, t5, if_pos rfl, if_pos rfl, setR_at, setR_at, setR_at, t2, er 22 (by decide) (by decide)]
                  exact ⟨rfl, gpu, by rw [gl.2.2.1], by have := gl.2.2.2.1; omega, fun _ => ⟨rfl, hP⟩⟩
                · rw [t4, t5, if_neg c, if_neg c, setR_ne _ _ c, setR_ne _ _ c, setR_ne _ _ c, t1 22 l rfl rfl (by omega) (by omega), vec_row (er 20 (by decide) (by decide)), vec_row (er 21 (by decide) (by decide)), er 22 (by decide) (by decide)]
                  exact ⟨gl.1, gl.2.1, gl.2.2.1, ⟨gl.2.2.2.1.1, Int.le_trans gl.2.2.2.1.2 (by omega)⟩, gl.2.2.2.2⟩
              · have e23 : ∀ j, m4 23 j = m3 23 j := fun j => t1 23 j rfl rfl (by simp) (by simp)
                dsimp only
                have lc : lnB F R (m4 23) 0 v0 s.2.2.2.2.1 := by
                  refine lnB_congr _ _ _ (fun j a b => ?_) r5
                  rw [e23, f1 23 j (by have := r6; omega) (by simp)]
                by_cases c : s.1 = 0
                · rw [if_pos c]
                  refine lnB_snoc _ _ _ lc ?_
                  rw [Int.zero_add, ← r6, e23, f3 c, ← r8, show s.2.1 0 = s.2.1 s.1 by rw [c]]
                  exact ⟨hqr.1, hqr.2, hu.symm⟩
                · rw [if_neg c]; exact lc
              · dsimp only
                by_cases c : s.1 = 0
                · rw [if_pos c, c, setR_at, List.length_append]; have := r6; simp; omega
                · rw [if_neg c, setR_ne _ _ (by omega)]; exact r6
              · dsimp only
                by_cases c : s.1 = 0
                · rw [if_pos c, List.length_append]; have := r6; simp; omega
                · rw [if_neg c]; exact r7
              · dsimp only
                by_cases c : s.1 = 0
                · rw [if_pos c, c, setR_at, posL_snoc, ← r8]
                · rw [if_neg c, setR_ne _ _ (by omega)]; exact r8
              · rw [t1 50 24 rfl rfl (by simp) (by simp), f1 50 24 (by simp) (by simp)]; exact k2.1
              · rw [t1 50 25 rfl rfl (by simp) (by simp), f1 50 25 (by simp) (by simp)]; exact k2.2.1
              · rw [t1 50 13 rfl rfl (by simp) (by simp), f1 50 13 (by simp) (by simp)]; exact k2.2.2
            unfold wp_X12_standsWord_129
            try simp (discharger := omega) only [nlit, iI_lit, iI_add, iI_sub, iI_mul, iI_neg, bI_z, bI_o, i10, i01, eq_self, bI_nar, nar_0, nar_1, bI_t, bI_f, Option.some.injEq, exists_eq_left', true_and, and_true, forall_eq, not_true_eq_false, not_false_eq_true, forall_const, false_implies, true_implies, Classical.not_not, if_true, if_false, Int.reduceEq, Int.reduceLT, Int.reduceLE, Int.reduceGT, Int.reduceGE, Int.reduceAdd, Int.reduceSub, Int.reduceMul, Int.reduceNeg, Int.reduceNe, Bool.true_and, Bool.and_true, Bool.false_and, Bool.and_false, BEq.rfl, Bool.true_eq_false, Bool.false_eq_true]
            rw [iI_eq (by omega) (by omega) (by decide) (by decide)]
            simp (discharger := omega) only [nlit, iI_lit, iI_add, iI_sub, iI_mul, iI_neg, bI_z, bI_o, i10, i01, eq_self, bI_nar, nar_0, nar_1, bI_t, bI_f, Option.some.injEq, exists_eq_left', true_and, and_true, forall_eq, not_true_eq_false, not_false_eq_true, forall_const, false_implies, true_implies, Classical.not_not, if_true, if_false, Int.reduceEq, Int.reduceLT, Int.reduceLE, Int.reduceGT, Int.reduceGE, Int.reduceAdd, Int.reduceSub, Int.reduceMul, Int.reduceNeg, Int.reduceNe, Bool.true_and, Bool.and_true, Bool.false_and, Bool.and_false, BEq.rfl, Bool.true_eq_false, Bool.false_eq_true, c2]
            simp (discharger := first | decide | omega) only [x_own h, x_kd h, x_r h, x_m h, x_l h, x_k h, x_n h, x_i0, x_i h, x_u0 h, x_u h, xLen, xKd, nlit, iI_lit, iI_add, iI_sub, iI_mul, iI_neg, bI_z, bI_o, i10, i01, eq_self, bI_nar, nar_0, nar_1, up_at, up_f, Option.some.injEq, exists_eq_left', true_and, and_true, forall_eq, not_true_eq_false, not_false_eq_true, forall_const, false_implies, true_implies, Classical.not_not, if_true, if_false, Int.reduceEq, Int.reduceLT, Int.reduceLE, Int.reduceGT, Int.reduceGE, Int.reduceAdd, Int.reduceSub, Int.reduceMul, Int.reduceNeg, Int.reduceNe]
            rw [w27]
            simp (discharger := omega) only [nlit, iI_lit, iI_add, iI_sub, iI_mul, iI_neg, bI_z, bI_o, i10, i01, eq_self, bI_nar, nar_0, nar_1, bI_t, bI_f, Option.some.injEq, exists_eq_left', true_and, and_true, forall_eq, not_true_eq_false, not_false_eq_true, forall_const, false_implies, true_implies, Classical.not_not, if_true, if_false, Int.reduceEq, Int.reduceLT, Int.reduceLE, Int.reduceGT, Int.reduceGE, Int.reduceAdd, Int.reduceSub, Int.reduceMul, Int.reduceNeg, Int.reduceNe, Bool.true_and, Bool.and_true, Bool.false_and, Bool.and_false, BEq.rfl, Bool.true_eq_false, Bool.false_eq_true, iI_eq]
            by_cases c : s.1 = 0
            · have i0 : vp_in (iI 0) 10 := iI_in (by omega) (by omega) (by omega)
              have g0 := r4 0 (by decide) (by omega)
              simp (discharger := omega) only [nlit, iI_lit, iI_add, iI_sub, iI_mul, iI_neg, bI_z, bI_o, i10, i01, eq_self, bI_nar, nar_0, nar_1, bI_t, bI_f, Option.some.injEq, exists_eq_left', true_and, and_true, forall_eq, not_true_eq_false, not_false_eq_true, forall_const, false_implies, true_implies, Classical.not_not, if_true, if_false, Int.reduceEq, Int.reduceLT, Int.reduceLE, Int.reduceGT, Int.reduceGE, Int.reduceAdd, Int.reduceSub, Int.reduceMul, Int.reduceNeg, Int.reduceNe, Bool.true_and, Bool.and_true, Bool.false_and, Bool.and_false, BEq.rfl, Bool.true_eq_false, Bool.false_eq_true, c]
              simp (discharger := first | decide | omega) only [x_own h, x_kd h, x_r h, x_m h, x_l h, x_k h, x_n h, x_i0, x_i h, x_u0 h, x_u h, xLen, xKd, nlit, iI_lit, iI_add, iI_sub, iI_mul, iI_neg, bI_z, bI_o, i10, i01, eq_self, bI_nar, nar_0, nar_1, up_at, up_f, Option.some.injEq, exists_eq_left', true_and, and_true, forall_eq, not_true_eq_false, not_false_eq_true, forall_const, false_implies, true_implies, Classical.not_not, if_true, if_false, Int.reduceEq, Int.reduceLT, Int.reduceLE, Int.reduceGT, Int.reduceGE, Int.reduceAdd, Int.reduceSub, Int.reduceMul, Int.reduceNeg, Int.reduceNe, eq_true i0]
              rw [g0.2.2.1]
              have hr0 := g0.2.2.2.1
              have i1 : vp_in (iI (s.2.2.2.1 0)) 500 := iI_in (by omega) (by omega) (by omega)
              simp (discharger := first | decide | omega) only [x_own h, x_kd h, x_r h, x_m h, x_l h, x_k h, x_n h, x_i0, x_i h, x_u0 h, x_u h, xLen, xKd, nlit, iI_lit, iI_add, iI_sub, iI_mul, iI_neg, bI_z, bI_o, i10, i01, eq_self, bI_nar, nar_0, nar_1, up_at, up_f, Option.some.injEq, exists_eq_left', true_and, and_true, forall_eq, not_true_eq_false, not_false_eq_true, forall_const, false_implies, true_implies, Classical.not_not, if_true, if_false, Int.reduceEq, Int.reduceLT, Int.reduceLE, Int.reduceGT, Int.reduceGE, Int.reduceAdd, Int.reduceSub, Int.reduceMul, Int.reduceNeg, Int.reduceNe, eq_true i1]
              refine fin _ (fun r j a b => up_ne _ (by omega)) (by rw [up_f _ _ _ _ rfl, if_pos c]; exact r3.1) (fun _ => up_at _ _ _ _)
            · simp (discharger := omega) only [nlit, iI_lit, iI_add, iI_sub, iI_mul, iI_neg, bI_z, bI_o, i10, i01, eq_self, bI_nar, nar_0, nar_1, bI_t, bI_f, Option.some.injEq, exists_eq_left', true_and, and_true, forall_eq, not_true_eq_false, not_false_eq_true, forall_const, false_implies, true_implies, Classical.not_not, if_true, if_false, Int.reduceEq, Int.reduceLT, Int.reduceLE, Int.reduceGT, Int.reduceGE, Int.reduceAdd, Int.reduceSub, Int.reduceMul, Int.reduceNeg, Int.reduceNe, Bool.true_and, Bool.and_true, Bool.false_and, Bool.and_false, BEq.rfl, Bool.true_eq_false, Bool.false_eq_true, c]
              rw [show m2 50 26 = s.2.2.2.2.2.1 from r3.1]
              try simp (discharger := omega) only [nlit, iI_lit, iI_add, iI_sub, iI_mul, iI_neg, bI_z, bI_o, i10, i01, eq_self, bI_nar, nar_0, nar_1, bI_t, bI_f, Option.some.injEq, exists_eq_left', true_and, and_true, forall_eq, not_true_eq_false, not_false_eq_true, forall_const, false_implies, true_implies, Classical.not_not, if_true, if_false, Int.reduceEq, Int.reduceLT, Int.reduceLE, Int.reduceGT, Int.reduceGE, Int.reduceAdd, Int.reduceSub, Int.reduceMul, Int.reduceNeg, Int.reduceNe, Bool.true_and, Bool.and_true, Bool.false_and, Bool.and_false, BEq.rfl, Bool.true_eq_false, Bool.false_eq_true]
              refine fin _ (fun r j a b => up_ne _ (by omega)) (by rw [if_neg c]; exact up_at _ _ _ _) (fun z => absurd z c)
        simp (discharger := first | decide | omega) only [x_own h, x_kd h, x_r h, x_m h, x_l h, x_k h, x_n h, x_i0, x_i h, x_u0 h, x_u h, xLen, xKd, nlit, iI_lit, iI_add, iI_sub, iI_mul, iI_neg, bI_z, bI_o, i10, i01, eq_self, bI_nar, nar_0, nar_1, up_at, up_f, Option.some.injEq, exists_eq_left', true_and, and_true, forall_eq, not_true_eq_false, not_false_eq_true, forall_const, false_implies, true_implies, Classical.not_not, if_true, if_false, Int.reduceEq, Int.reduceLT, Int.reduceLE, Int.reduceGT, Int.reduceGE, Int.reduceAdd, Int.reduceSub, Int.reduceMul, Int.reduceNeg, Int.reduceNe]
        rw [y27]
        simp (discharger := omega) only [nlit, iI_lit, iI_add, iI_sub, iI_mul, iI_neg, bI_z, bI_o, i10, i01, eq_self, bI_nar, nar_0, nar_1, bI_t, bI_f, Option.some.injEq, exists_eq_left', true_and, and_true, forall_eq, not_true_eq_false, not_false_eq_true, forall_const, false_implies, true_implies, Classical.not_not, if_true, if_false, Int.reduceEq, Int.reduceLT, Int.reduceLE, Int.reduceGT, Int.reduceGE, Int.reduceAdd, Int.reduceSub, Int.reduceMul, Int.reduceNeg, Int.reduceNe, Bool.true_and, Bool.and_true, Bool.false_and, Bool.and_false, BEq.rfl, Bool.true_eq_false, Bool.false_eq_true, iI_eq]
        by_cases c0 : s.1 = 0
        · have i0 : vp_in (iI 0) 10 := iI_in (by omega) (by omega) (by omega)
          have g0 := hR1.2.2.2.1 0 (by decide) (by omega)
          have hr0 := hR1.2.2.2.2.2.1
          have hr7 := hR1.2.2.2.2.2.2.1
          simp (discharger := omega) only [nlit, iI_lit, iI_add, iI_sub, iI_mul, iI_neg, bI_z, bI_o, i10, i01, eq_self, bI_nar, nar_0, nar_1, bI_t, bI_f, Option.some.injEq, exists_eq_left', true_and, and_true, forall_eq, not_true_eq_false, not_false_eq_true, forall_const, false_implies, true_implies, Classical.not_not, if_true, if_false, Int.reduceEq, Int.reduceLT, Int.reduceLE, Int.reduceGT, Int.reduceGE, Int.reduceAdd, Int.reduceSub, Int.reduceMul, Int.reduceNeg, Int.reduceNe, Bool.true_and, Bool.and_true, Bool.false_and, Bool.and_false, BEq.rfl, Bool.true_eq_false, Bool.false_eq_true, c0]
          simp (discharger := first | decide | omega) only [x_own h, x_kd h, x_r h, x_m h, x_l h, x_k h, x_n h, x_i0, x_i h, x_u0 h, x_u h, xLen, xKd, nlit, iI_lit, iI_add, iI_sub, iI_mul, iI_neg, bI_z, bI_o, i10, i01, eq_self, bI_nar, nar_0, nar_1, up_at, up_f, Option.some.injEq, exists_eq_left', true_and, and_true, forall_eq, not_true_eq_false, not_false_eq_true, forall_const, false_implies, true_implies, Classical.not_not, if_true, if_false, Int.reduceEq, Int.reduceLT, Int.reduceLE, Int.reduceGT, Int.reduceGE, Int.reduceAdd, Int.reduceSub, Int.reduceMul, Int.reduceNeg, Int.reduceNe, eq_true i0]
          rw [g0.2.2.1, show m1 50 11 = m0 50 11 from hR1.1.1.o rfl]
          try simp (discharger := omega) only [nlit, iI_lit, iI_add, iI_sub, iI_mul, iI_neg, bI_z, bI_o, i10, i01, eq_self, bI_nar, nar_0, nar_1, bI_t, bI_f, Option.some.injEq, exists_eq_left', true_and, and_true, forall_eq, not_true_eq_false, not_false_eq_true, forall_const, false_implies, true_implies, Classical.not_not, if_true, if_false, Int.reduceEq, Int.reduceLT, Int.reduceLE, Int.reduceGT, Int.reduceGE, Int.reduceAdd, Int.reduceSub, Int.reduceMul, Int.reduceNeg, Int.reduceNe, Bool.true_and, Bool.and_true, Bool.false_and, Bool.and_false, BEq.rfl, Bool.true_eq_false, Bool.false_eq_true]
          rw [iI_lt (by omega) (by omega) (by decide) (by decide)]
          by_cases cf : m0 50 11 + s.2.2.2.1 0 < 80
          · simp (discharger := omega) only [nlit, iI_lit, iI_add, iI_sub, iI_mul, iI_neg, bI_z, bI_o, i10, i01, eq_self, bI_nar, nar_0, nar_1, bI_t, bI_f, Option.some.injEq, exists_eq_left', true_and, and_true, forall_eq, not_true_eq_false, not_false_eq_true, forall_const, false_implies, true_implies, Classical.not_not, if_true, if_false, Int.reduceEq, Int.reduceLT, Int.reduceLE, Int.reduceGT, Int.reduceGE, Int.reduceAdd, Int.reduceSub, Int.reduceMul, Int.reduceNeg, Int.reduceNe, Bool.true_and, Bool.and_true, Bool.false_and, Bool.and_false, BEq.rfl, Bool.true_eq_false, Bool.false_eq_true, cf]
            exact go (by omega)
          · simp (discharger := omega) only [nlit, iI_lit, iI_add, iI_sub, iI_mul, iI_neg, bI_z, bI_o, i10, i01, eq_self, bI_nar, nar_0, nar_1, bI_t, bI_f, Option.some.injEq, exists_eq_left', true_and, and_true, forall_eq, not_true_eq_false, not_false_eq_true, forall_const, false_implies, true_implies, Classical.not_not, if_true, if_false, Int.reduceEq, Int.reduceLT, Int.reduceLE, Int.reduceGT, Int.reduceGE, Int.reduceAdd, Int.reduceSub, Int.reduceMul, Int.reduceNeg, Int.reduceNe, Bool.true_and, Bool.and_true, Bool.false_and, Bool.and_false, BEq.rfl, Bool.true_eq_false, Bool.false_eq_true, cf]
            exact no129 m1 hR1.1.1 hR1.1.2 k1 (if_pos ⟨c0, by omega⟩)
        · simp (discharger := omega) only [nlit, iI_lit, iI_add, iI_sub, iI_mul, iI_neg, bI_z, bI_o, i10, i01, eq_self, bI_nar, nar_0, nar_1, bI_t, bI_f, Option.some.injEq, exists_eq_left', true_and, and_true, forall_eq, not_true_eq_false, not_false_eq_true, forall_const, false_implies, true_implies, Classical.not_not, if_true, if_false, Int.reduceEq, Int.reduceLT, Int.reduceLE, Int.reduceGT, Int.reduceGE, Int.reduceAdd, Int.reduceSub, Int.reduceMul, Int.reduceNeg, Int.reduceNe, Bool.true_and, Bool.and_true, Bool.false_and, Bool.and_false, BEq.rfl, Bool.true_eq_false, Bool.false_eq_true, c0]
          exact go (by omega)
      · rw [crs, if_pos rfl] at kn ks kno
        try simp (discharger := omega) only [nlit, iI_lit, iI_add, iI_sub, iI_mul, iI_neg, bI_z, bI_o, i10, i01, eq_self, bI_nar, nar_0, nar_1, bI_t, bI_f, Option.some.injEq, exists_eq_left', true_and, and_true, forall_eq, not_true_eq_false, not_false_eq_true, forall_const, false_implies, true_implies, Classical.not_not, if_true, if_false, Int.reduceEq, Int.reduceLT, Int.reduceLE, Int.reduceGT, Int.reduceGE, Int.reduceAdd, Int.reduceSub, Int.reduceMul, Int.reduceNeg, Int.reduceNe, Bool.true_and, Bool.and_true, Bool.false_and, Bool.and_false, BEq.rfl, Bool.true_eq_false, Bool.false_eq_true]
        simp (discharger := first | decide | omega) only [x_own h, x_kd h, x_r h, x_m h, x_l h, x_k h, x_n h, x_i0, x_i h, x_u0 h, x_u h, xLen, xKd, nlit, iI_lit, iI_add, iI_sub, iI_mul, iI_neg, bI_z, bI_o, i10, i01, eq_self, bI_nar, nar_0, nar_1, up_at, up_f, Option.some.injEq, exists_eq_left', true_and, and_true, forall_eq, not_true_eq_false, not_false_eq_true, forall_const, false_implies, true_implies, Classical.not_not, if_true, if_false, Int.reduceEq, Int.reduceLT, Int.reduceLE, Int.reduceGT, Int.reduceGE, Int.reduceAdd, Int.reduceSub, Int.reduceMul, Int.reduceNeg, Int.reduceNe, z27, z28]
        simp (discharger := omega) only [nlit, iI_lit, iI_add, iI_sub, iI_mul, iI_neg, bI_z, bI_o, i10, i01, eq_self, bI_nar, nar_0, nar_1, bI_t, bI_f, Option.some.injEq, exists_eq_left', true_and, and_true, forall_eq, not_true_eq_false, not_false_eq_true, forall_const, false_implies, true_implies, Classical.not_not, if_true, if_false, Int.reduceEq, Int.reduceLT, Int.reduceLE, Int.reduceGT, Int.reduceGE, Int.reduceAdd, Int.reduceSub, Int.reduceMul, Int.reduceNeg, Int.reduceNe, Bool.true_and, Bool.and_true, Bool.false_and, Bool.and_false, BEq.rfl, Bool.true_eq_false, Bool.false_eq_true, iI_eq]
        have no67 : ¬ (s.1 = 0 ∧ s.2.2.2.2.2.2.1 = false) → wp_X12_standsWord_66 D post (xS S x A m) x x := fun q => by
          rw [if_neg q] at kn
          unfold wp_X12_standsWord_66 wp_X12_standsWord_67
          simp (discharger := omega) only [nlit, iI_lit, iI_add, iI_sub, iI_mul, iI_neg, bI_z, bI_o, i10, i01, eq_self, bI_nar, nar_0, nar_1, bI_t, bI_f, Option.some.injEq, exists_eq_left', true_and, and_true, forall_eq, not_true_eq_false, not_false_eq_true, forall_const, false_implies, true_implies, Classical.not_not, if_true, if_false, Int.reduceEq, Int.reduceLT, Int.reduceLE, Int.reduceGT, Int.reduceGE, Int.reduceAdd, Int.reduceSub, Int.reduceMul, Int.reduceNeg, Int.reduceNe, Bool.true_and, Bool.and_true, Bool.false_and, Bool.and_false, BEq.rfl, Bool.true_eq_false, Bool.false_eq_true, f0]
          rw [show uI (xS S x A m) x 29 (iI 0) = xS S x A (up m 50 29 0) from x_u0 h 29 0, x_i0, show up m 50 29 0 50 ((29 : Nat) : Int) = 0 from up_at _ _ _ _]
          try simp (discharger := omega) only [nlit, iI_lit, iI_add, iI_sub, iI_mul, iI_neg, bI_z, bI_o, i10, i01, eq_self, bI_nar, nar_0, nar_1, bI_t, bI_f, Option.some.injEq, exists_eq_left', true_and, and_true, forall_eq, not_true_eq_false, not_false_eq_true, forall_const, false_implies, true_implies, Classical.not_not, if_true, if_false, Int.reduceEq, Int.reduceLT, Int.reduceLE, Int.reduceGT, Int.reduceGE, Int.reduceAdd, Int.reduceSub, Int.reduceMul, Int.reduceNeg, Int.reduceNe, Bool.true_and, Bool.and_true, Bool.false_and, Bool.and_false, BEq.rfl, Bool.true_eq_false, Bool.false_eq_true]
          exact kn rfl _ (s1.1.up rfl) (by rw [up_ne _ (Or.inr (by decide))]; exact s1.2) ⟨up_ne _ (Or.inr (by decide)), up_ne _ (Or.inr (by decide)), up_ne _ (Or.inr (by decide))⟩
        by_cases c0 : s.1 = 0
        · simp (discharger := omega) only [nlit, iI_lit, iI_add, iI_sub, iI_mul, iI_neg, bI_z, bI_o, i10, i01, eq_self, bI_nar, nar_0, nar_1, bI_t, bI_f, Option.some.injEq, exists_eq_left', true_and, and_true, forall_eq, not_true_eq_false, not_false_eq_true, forall_const, false_implies, true_implies, Classical.not_not, if_true, if_false, Int.reduceEq, Int.reduceLT, Int.reduceLE, Int.reduceGT, Int.reduceGE, Int.reduceAdd, Int.reduceSub, Int.reduceMul, Int.reduceNeg, Int.reduceNe, Bool.true_and, Bool.and_true, Bool.false_and, Bool.and_false, BEq.rfl, Bool.true_eq_false, Bool.false_eq_true, c0]
          cases cnu : s.2.2.2.2.2.2.1
          · rw [if_pos ⟨c0, cnu⟩] at ks
            try simp (discharger := omega) only [nlit, iI_lit, iI_add, iI_sub, iI_mul, iI_neg, bI_z, bI_o, i10, i01, eq_self, bI_nar, nar_0, nar_1, bI_t, bI_f, Option.some.injEq, exists_eq_left', true_and, and_true, forall_eq, not_true_eq_false, not_false_eq_true, forall_const, false_implies, true_implies, Classical.not_not, if_true, if_false, Int.reduceEq, Int.reduceLT, Int.reduceLE, Int.reduceGT, Int.reduceGE, Int.reduceAdd, Int.reduceSub, Int.reduceMul, Int.reduceNeg, Int.reduceNe, Bool.true_and, Bool.and_true, Bool.false_and, Bool.and_false, BEq.rfl, Bool.true_eq_false, Bool.false_eq_true]
            unfold wp_X12_standsWord_67
            simp (discharger := omega) only [nlit, iI_lit, iI_add, iI_sub, iI_mul, iI_neg, bI_z, bI_o, i10, i01, eq_self, bI_nar, nar_0, nar_1, bI_t, bI_f, Option.some.injEq, exists_eq_left', true_and, and_true, forall_eq, not_true_eq_false, not_false_eq_true, forall_const, false_implies, true_implies, Classical.not_not, if_true, if_false, Int.reduceEq, Int.reduceLT, Int.reduceLE, Int.reduceGT, Int.reduceGE, Int.reduceAdd, Int.reduceSub, Int.reduceMul, Int.reduceNeg, Int.reduceNe, Bool.true_and, Bool.and_true, Bool.false_and, Bool.and_false, BEq.rfl, Bool.true_eq_false, Bool.false_eq_true, f1]
            rw [show uI (xS S x A m) x 29 (iI 1) = xS S x A (up m 50 29 1) from x_u0 h 29 1, x_i0, show up m 50 29 1 50 ((29 : Nat) : Int) = 1 from up_at _ _ _ _]
            try simp (discharger := omega) only [nlit, iI_lit, iI_add, iI_sub, iI_mul, iI_neg, bI_z, bI_o, i10, i01, eq_self, bI_nar, nar_0, nar_1, bI_t, bI_f, Option.some.injEq, exists_eq_left', true_and, and_true, forall_eq, not_true_eq_false, not_false_eq_true, forall_const, false_implies, true_implies, Classical.not_not, if_true, if_false, Int.reduceEq, Int.reduceLT, Int.reduceLE, Int.reduceGT, Int.reduceGE, Int.reduceAdd, Int.reduceSub, Int.reduceMul, Int.reduceNeg, Int.reduceNe, Bool.true_and, Bool.and_true, Bool.false_and, Bool.and_false, BEq.rfl, Bool.true_eq_false, Bool.false_eq_true]
            refine ks _ rfl _ ⟨⟨s1.1.up rfl, by rw [up_ne _ (Or.inr (by decide))]; exact s1.2⟩, ⟨by rw [up_ne _ (Or.inr (by decide))]; exact s2.1, s2.2⟩, ⟨by rw [up_ne _ (Or.inr (by decide))]; exact s3.1, ?_, up_at _ _ _ _⟩, fun l a b => ?_, ?_, s6, s7, s8⟩ ⟨up_ne _ (Or.inr (by decide)), up_ne _ (Or.inr (by decide)), up_ne _ (Or.inr (by decide))⟩
            · rw [up_ne _ (Or.inr (by decide))]; have := s3.2.1; rw [cnu] at this; exact this
            · rw [vec_row (up_r _ _ _ rfl), vec_row (up_r _ _ _ rfl), up_f _ _ _ _ rfl]
              have gl := s4 l a b
              exact ⟨gl.1, gl.2.1, gl.2.2.1, ⟨gl.2.2.2.1.1, Int.le_trans gl.2.2.2.1.2 (by omega)⟩, gl.2.2.2.2⟩
            · rw [up_r _ _ _ rfl]; exact s5
          · try simp (discharger := omega) only [nlit, iI_lit, iI_add, iI_sub, iI_mul, iI_neg, bI_z, bI_o, i10, i01, eq_self, bI_nar, nar_0, nar_1, bI_t, bI_f, Option.some.injEq, exists_eq_left', true_and, and_true, forall_eq, not_true_eq_false, not_false_eq_true, forall_const, false_implies, true_implies, Classical.not_not, if_true, if_false, Int.reduceEq, Int.reduceLT, Int.reduceLE, Int.reduceGT, Int.reduceGE, Int.reduceAdd, Int.reduceSub, Int.reduceMul, Int.reduceNeg, Int.reduceNe, Bool.true_and, Bool.and_true, Bool.false_and, Bool.and_false, BEq.rfl, Bool.true_eq_false, Bool.false_eq_true]
            exact no67 (by simp [cnu])
        · simp (discharger := omega) only [nlit, iI_lit, iI_add, iI_sub, iI_mul, iI_neg, bI_z, bI_o, i10, i01, eq_self, bI_nar, nar_0, nar_1, bI_t, bI_f, Option.some.injEq, exists_eq_left', true_and, and_true, forall_eq, not_true_eq_false, not_false_eq_true, forall_const, false_implies, true_implies, Classical.not_not, if_true, if_false, Int.reduceEq, Int.reduceLT, Int.reduceLE, Int.reduceGT, Int.reduceGE, Int.reduceAdd, Int.reduceSub, Int.reduceMul, Int.reduceNeg, Int.reduceNe, Bool.true_and, Bool.and_true, Bool.false_and, Bool.and_false, BEq.rfl, Bool.true_eq_false, Bool.false_eq_true, c0]
          exact no67 (by simp [c0])
    · rw [cnb, if_pos rfl] at kn ks kno
      try simp (discharger := omega) only [nlit, iI_lit, iI_add, iI_sub, iI_mul, iI_neg, bI_z, bI_o, i10, i01, eq_self, bI_nar, nar_0, nar_1, bI_t, bI_f, Option.some.injEq, exists_eq_left', true_and, and_true, forall_eq, not_true_eq_false, not_false_eq_true, forall_const, false_implies, true_implies, Classical.not_not, if_true, if_false, Int.reduceEq, Int.reduceLT, Int.reduceLE, Int.reduceGT, Int.reduceGE, Int.reduceAdd, Int.reduceSub, Int.reduceMul, Int.reduceNeg, Int.reduceNe, Bool.true_and, Bool.and_true, Bool.false_and, Bool.and_false, BEq.rfl, Bool.true_eq_false, Bool.false_eq_true]
      simp (discharger := first | decide | omega) only [x_own h, x_kd h, x_r h, x_m h, x_l h, x_k h, x_n h, x_i0, x_i h, x_u0 h, x_u h, xLen, xKd, nlit, iI_lit, iI_add, iI_sub, iI_mul, iI_neg, bI_z, bI_o, i10, i01, eq_self, bI_nar, nar_0, nar_1, up_at, up_f, Option.some.injEq, exists_eq_left', true_and, and_true, forall_eq, not_true_eq_false, not_false_eq_true, forall_const, false_implies, true_implies, Classical.not_not, if_true, if_false, Int.reduceEq, Int.reduceLT, Int.reduceLE, Int.reduceGT, Int.reduceGE, Int.reduceAdd, Int.reduceSub, Int.reduceMul, Int.reduceNeg, Int.reduceNe, z28]
      cases cnu : s.2.2.2.2.2.2.1
      · rw [cnu, if_neg (by decide)] at ks
        simp (discharger := omega) only [nlit, iI_lit, iI_add, iI_sub, iI_mul, iI_neg, bI_z, bI_o, i10, i01, eq_self, bI_nar, nar_0, nar_1, bI_t, bI_f, Option.some.injEq, exists_eq_left', true_and, and_true, forall_eq, not_true_eq_false, not_false_eq_true, forall_const, false_implies, true_implies, Classical.not_not, if_true, if_false, Int.reduceEq, Int.reduceLT, Int.reduceLE, Int.reduceGT, Int.reduceGE, Int.reduceAdd, Int.reduceSub, Int.reduceMul, Int.reduceNeg, Int.reduceNe, Bool.true_and, Bool.and_true, Bool.false_and, Bool.and_false, BEq.rfl, Bool.true_eq_false, Bool.false_eq_true, wp_X12_standsWord_30, f1]
        rw [show uI (xS S x A m) x 28 (iI 1) = xS S x A (up m 50 28 1) from x_u0 h 28 1]
        refine ks _ rfl _ ⟨⟨s1.1.up rfl, by rw [up_ne _ (Or.inr (by decide))]; exact s1.2⟩, ⟨by rw [up_ne _ (Or.inr (by decide))]; exact s2.1, s2.2⟩, ⟨by rw [up_ne _ (Or.inr (by decide))]; exact s3.1, up_at _ _ _ _, ?_⟩, fun l a b => ?_, ?_, s6, s7, s8⟩ ⟨up_ne _ (Or.inr (by decide)), up_ne _ (Or.inr (by decide)), up_ne _ (Or.inr (by decide))⟩
        · rw [up_ne _ (Or.inr (by decide))]; have := s3.2.2; rw [cen] at this; exact this
        · rw [vec_row (up_r _ _ _ rfl), vec_row (up_r _ _ _ rfl), up_f _ _ _ _ rfl]
          have gl := s4 l a b
          exact ⟨gl.1, gl.2.1, gl.2.2.1, ⟨gl.2.2.2.1.1, Int.le_trans gl.2.2.2.1.2 (by omega)⟩, gl.2.2.2.2⟩
        · rw [up_r _ _ _ rfl]; exact s5
      · rw [cnu, if_pos rfl] at kn
        simp (discharger := omega) only [nlit, iI_lit, iI_add, iI_sub, iI_mul, iI_neg, bI_z, bI_o, i10, i01, eq_self, bI_nar, nar_0, nar_1, bI_t, bI_f, Option.some.injEq, exists_eq_left', true_and, and_true, forall_eq, not_true_eq_false, not_false_eq_true, forall_const, false_implies, true_implies, Classical.not_not, if_true, if_false, Int.reduceEq, Int.reduceLT, Int.reduceLE, Int.reduceGT, Int.reduceGE, Int.reduceAdd, Int.reduceSub, Int.reduceMul, Int.reduceNeg, Int.reduceNe, Bool.true_and, Bool.and_true, Bool.false_and, Bool.and_false, BEq.rfl, Bool.true_eq_false, Bool.false_eq_true, wp_X12_standsWord_30, f1]
        rw [show uI (xS S x A m) x 28 (iI 1) = xS S x A (up m 50 28 1) from x_u0 h 28 1]
        exact kn rfl _ (s1.1.up rfl) (by rw [up_ne _ (Or.inr (by decide))]; exact s1.2) ⟨up_ne _ (Or.inr (by decide)), up_ne _ (Or.inr (by decide)), up_ne _ (Or.inr (by decide))⟩
  · rw [cen, if_pos rfl] at kno
    try simp (discharger := omega) only [nlit, iI_lit, iI_add, iI_sub, iI_mul, iI_neg, bI_z, bI_o, i10, i01, eq_self, bI_nar, nar_0, nar_1, bI_t, bI_f, Option.some.injEq, exists_eq_left', true_and, and_true, forall_eq, not_true_eq_false, not_false_eq_true, forall_const, false_implies, true_implies, Classical.not_not, if_true, if_false, Int.reduceEq, Int.reduceLT, Int.reduceLE, Int.reduceGT, Int.reduceGE, Int.reduceAdd, Int.reduceSub, Int.reduceMul, Int.reduceNeg, Int.reduceNe, Bool.true_and, Bool.and_true, Bool.false_and, Bool.and_false, BEq.rfl, Bool.true_eq_false, Bool.false_eq_true]
    exact kno rfl
end
