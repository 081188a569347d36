abbrev VW (kd : Int) (t : eT) (w b p : Int) : Int := valE kd t.1 (eIx 1 w b p)
abbrev VB (kd : Int) (t : eT) (w b p : Int) : Int := valE kd t.1 (eIx 0 w b p)
def QL (F N kd : Int) (t : eT) : Prop := ∀ w b p, in3 N w b p → ((VW kd t w b p = -2 ↔ ofEnd F kd 0 w b p = false) ∧ (VB kd t w b p = -2 ↔ ofEnd F kd 1 w b p = false)) ∧ -2 ≤ VW kd t w b p ∧ -2 ≤ VB kd t w b p
def QW (F N kd : Int) (t : eT) (D : Int → Int → Int → Bool) : Prop := ∀ w b p, in3 N w b p →
  (0 ≤ VW kd t w b p → (∃ w' p', sWE F N kd w b p w' p' ∧ VB kd t w' b p' = VW kd t w b p - 1 ∧ 0 ≤ VW kd t w b p - 1) ∧ ∀ w' p', sWE F N kd w b p w' p' → 0 ≤ VB kd t w' b p' → VW kd t w b p - 1 ≤ VB kd t w' b p') ∧
  (VW kd t w b p = -1 → ∀ w' p', sWE F N kd w b p w' p' → ∀ j, 0 ≤ j → j < t.2 → t.1 1 j = eIx 0 w' b p' → D j (if w' = w then p else w) (if w' = w then 1 else 0) = false)
def QB (F N kd : Int) (t : eT) (D : Int → Int → Int → Bool) : Prop := ∀ w b p, in3 N w b p → ofEnd F kd 1 w b p = true →
  t.1 2 (eIx 0 w b p) = mvB F N kd w b p - dnS F N kd w b p t D ∧
  (0 ≤ VB kd t w b p → (mvB F N kd w b p = 0 ∧ VB kd t w b p = 0 ∧ strkB F kd p b w = true) ∨ (cpB F w b p = false ∧ 0 < VB kd t w b p ∧ (∀ u, legE F N kd w b p u → (0 ≤ VW kd t w u p ∧ VW kd t w u p ≤ VB kd t w b p - 1) ∧ dnB t D (eIx 1 w u p) b = true) ∧ ∃ u, legE F N kd w b p u ∧ VW kd t w u p = VB kd t w b p - 1)) ∧
  (VB kd t w b p = -1 → ¬ (mvB F N kd w b p = 0 ∧ strkB F kd p b w = true) ∧ (0 < mvB F N kd w b p → 0 < t.1 2 (eIx 0 w b p)))
def QP (kd p0 v : Int) (t : eT) (D : Int → Int → Int → Bool) : Prop := (0 ≤ p0 ∧ p0 < t.2) ∧ valE kd t.1 (t.1 1 p0) = v - 1 ∧ (∀ j, 0 ≤ j → j < t.2 → valE kd t.1 (t.1 1 j) ≤ v) ∧ (∀ j a f, 0 ≤ j → j < p0 → D j a f = true) ∧ ∀ j a f, D j a f = true → j ≤ p0
def IQ (F N kd p0 v : Int) (t : eT) (D : Int → Int → Int → Bool) : Prop := QA N kd t ∧ QL F N kd t ∧ QW F N kd t D ∧ QB F N kd t D ∧ QP kd p0 v t D
def Dadd (D : Int → Int → Int → Bool) (p0 a f : Int) : Int → Int → Int → Bool := fun j x y => D j x y || (decide (j = p0) && decide (x = a) && decide (y = f))
section
variable {F N kd p0 v : Int} {t t' : eT} {D D' : Int → Int → Int → Bool}
theorem eI_inj {i i' w b p w' b' p' : Int} (hN : N ≤ 25) (hi : i = 0 ∨ i = 1) (hi' : i' = 0 ∨ i' = 1) (h : in3 N w b p) (h' : in3 N w' b' p') (e : eIx i w b p = eIx i' w' b' p') : i = i' ∧ w = w' ∧ b = b' ∧ p = p' := by
  obtain ⟨h1, h2, h3⟩ := h
  obtain ⟨g1, g2, g3⟩ := h'
  obtain ⟨a1, a2, a3, a4⟩ := dI_eIx hi (w := w) (b := b) (p := p) (by omega) (by omega) (by omega)
  obtain ⟨b1, b2, b3, b4⟩ := dI_eIx hi' (w := w') (b := b') (p := p') (by omega) (by omega) (by omega)
  rw [e] at a1 a2 a3 a4
  exact ⟨by rw [← a1, b1], by rw [← a2, b2], by rw [← a3, b3], by rw [← a4, b4]⟩
theorem eI_of {i : Int} (hi : VIx N i) : i = eIx (dIt i) (dW i) (dB i) (dP i) ∧ (dIt i = 0 ∨ dIt i = 1) ∧ in3 N (dW i) (dB i) (dP i) := by
  refine ⟨?_, ?_, hi.2.1, hi.2.2.1, hi.2.2.2⟩
  · have := hi.1
    unfold eIx dIt dW dB dP dPl
    by_cases c : 15625 ≤ i
    · simp only [if_pos c]
      rw [if_neg (by decide)]; omega
    · simp only [if_neg c]
      rw [if_pos (by decide)]; omega
  · unfold dIt; split; exact .inr rfl; exact .inl rfl
theorem Dadd_iff {a f j x y : Int} : Dadd D p0 a f j x y = true ↔ D j x y = true ∨ (j = p0 ∧ x = a ∧ y = f) := by
  unfold Dadd
  simp only [Bool.or_eq_true, Bool.and_eq_true, decide_eq_true_eq, and_assoc]
theorem Dadd_f {a f j x y : Int} : Dadd D p0 a f j x y = false ↔ D j x y = false ∧ ¬ (j = p0 ∧ x = a ∧ y = f) := by
  rw [← Bool.not_eq_true, Dadd_iff]
  constructor
  · intro h; exact ⟨by cases c : D j x y; rfl; exact absurd (.inl c) h, fun z => h (.inr z)⟩
  · rintro ⟨h1, h2⟩ (z | z)
    · rw [h1] at z; exact nomatch z
    · exact h2 z
theorem dn_eq {b x : Int} (h0 : 0 ≤ t.2) (h1 : t.2 ≤ t'.2) (h2 : ∀ j, 0 ≤ j → j < t.2 → t'.1 1 j = t.1 1 j ∧ (t.1 1 j = x → D' j b 2 = D j b 2)) (h3 : ∀ j, t.2 ≤ j → D' j b 2 = false) : dnB t' D' x b = dnB t D x b := by
  apply Bool.eq_iff_iff.mpr
  rw [dn_iff h0, dn_iff (by omega)]
  constructor
  · rintro ⟨j, j0, j1, j2, j3⟩
    by_cases c : j < t.2
    · obtain ⟨g1, g2⟩ := h2 j j0 c
      rw [g1] at j2
      exact ⟨j, j0, c, j2, by rw [← g2 j2]; exact j3⟩
    · rw [h3 j (by omega)] at j3; exact nomatch j3
  · rintro ⟨j, j0, j1, j2, j3⟩
    obtain ⟨g1, g2⟩ := h2 j j0 j1
    exact ⟨j, j0, by omega, by rw [g1]; exact j2, by rw [g2 j2]; exact j3⟩
/-- Black's positions, where only White's undecided ones change -/
theorem QB.keep (h : QB F N kd t D) (hB : ∀ w b p, in3 N w b p → VB kd t' w b p = VB kd t w b p) (hW : ∀ w b p, in3 N w b p → 0 ≤ VW kd t w b p → VW kd t' w b p = VW kd t w b p) (hc : t'.1 2 = t.1 2) (hd : ∀ w b p u, in3 N w b p → ofEnd F kd 1 w b p = true → legE F N kd w b p u → dnB t' D' (eIx 1 w u p) b = dnB t D (eIx 1 w u p) b) : QB F N kd t' D' := by
  intro w b p hq ho
  obtain ⟨a1, a2, a3⟩ := h w b p hq ho
  have es : dnS F N kd w b p t' D' = dnS F N kd w b p t D := by
    unfold dnS
    refine sumL_congr _ _ fun u u0 u1 => ?_
    cases c : lgB F kd w b p u
    · rfl
    · rw [hd w b p u hq ho ((lg_iff ⟨u0, by omega⟩).mp c)]
  rw [hc, hB w b p hq, es]
  refine ⟨a1, fun z => ?_, a3⟩
  rcases a2 z with y | ⟨y1, y2, y3, u, y4, y5⟩
  · exact .inl y
  · refine .inr ⟨y1, y2, fun u hu => ?_, u, y4, ?_⟩
    · obtain ⟨g1, g2⟩ := y3 u hu
      rw [hW w u p ⟨hq.1, hu.1, hq.2.2⟩ g1.1, hd w b p u hq ho hu]
      exact ⟨g1, g2⟩
    · rw [hW w u p ⟨hq.1, y4.1, hq.2.2⟩ (y3 u y4).1.1]; exact y5
/-- an edge that isn't there -/
theorem skip_ok (h : IQ F N kd p0 v t D) {a f : Int} (hw : ∀ w2 b2 p2 w' p', in3 N w2 b2 p2 → VW kd t w2 b2 p2 = -1 → sWE F N kd w2 b2 p2 w' p' → t.1 1 p0 = eIx 0 w' b2 p' → ¬ ((if w' = w2 then p2 else w2) = a ∧ (if w' = w2 then (1 : Int) else 0) = f))
    (hb : ∀ w b p u, in3 N w b p → ofEnd F kd 1 w b p = true → legE F N kd w b p u → t.1 1 p0 = eIx 1 w u p → ¬ (b = a ∧ (2 : Int) = f)) : IQ F N kd p0 v t (Dadd D p0 a f) := by
  obtain ⟨qa, ql, qw, qb, qp⟩ := h
  refine ⟨qa, ql, fun w b p hq => ⟨(qw w b p hq).1, fun z w' p' hs j j0 j1 j2 => ?_⟩, ?_, qp.1, qp.2.1, qp.2.2.1, fun j x y j0 j1 => ?_, fun j x y z => ?_⟩
  · rw [Dadd_f]
    refine ⟨(qw w b p hq).2 z w' p' hs j j0 j1 j2, ?_⟩
    rintro ⟨e1, e2⟩
    rw [e1] at j2
    exact hw w b p w' p' hq z hs j2 e2
  · refine qb.keep (fun _ _ _ _ => rfl) (fun _ _ _ _ _ => rfl) rfl fun w b p u hq ho hl => ?_
    refine dn_eq qa.1.1 (Int.le_refl _) (fun j j0 j1 => ⟨rfl, fun e => ?_⟩) (fun j j0 => ?_)
    · apply Bool.eq_iff_iff.mpr
      rw [Dadd_iff]
      refine ⟨fun z => ?_, fun z => .inl z⟩
      rcases z with z | ⟨z1, z2⟩
      · exact z
      · rw [z1] at e; exact absurd z2 (hb w b p u hq ho hl e)
    · rw [Dadd_f]
      have := qp.1
      refine ⟨?_, fun z => by omega⟩
      cases c : D j b 2
      · rfl
      · have := qp.2.2.2.2 j b 2 c; omega
  · rw [Dadd_iff]; exact .inl (qp.2.2.2.1 j x y j0 j1)
  · rw [Dadd_iff] at z
    rcases z with z | z
    · exact qp.2.2.2.2 j x y z
    · omega
/-- a White position is reached -/
theorem reach_ok (hN : 0 ≤ N ∧ N ≤ 25) (h : IQ F N kd p0 v t D) {w b p w1 p1 a f : Int} (hs : t.1 1 p0 = eIx 0 w b p) (hq : in3 N w b p) (hq1 : in3 N w1 b p1) (he : sWE F N kd w1 b p1 w p) (ha : a = if w = w1 then p1 else w1) (hf : f = if w = w1 then 1 else 0) :
    IQ F N kd p0 v (reachE kd (eIx 1 w1 b p1) v t) (Dadd D p0 a f) := by
  have f2 : ¬ (2 : Int) = f := by rw [hf]; split <;> decide
  have uniq : ∀ w2 b2 p2 w' p', in3 N w2 b2 p2 → sWE F N kd w2 b2 p2 w' p' → t.1 1 p0 = eIx 0 w' b2 p' → (if w' = w2 then p2 else w2) = a → (if w' = w2 then (1 : Int) else 0) = f → w2 = w1 ∧ b2 = b ∧ p2 = p1 := by
    intro w2 b2 p2 w' p' hq2 hs2 e ea ef
    rw [hs] at e
    obtain ⟨-, e1, e2, e3⟩ := eI_inj hN.2 (.inl rfl) (.inl rfl) hq (sW_in hq2.2.1 hs2) e
    subst e1; subst e2; subst e3
    rw [ha] at ea
    rw [hf] at ef
    by_cases c : w = w1
    · rw [if_pos c] at ef ea
      by_cases d : w = w2
      · rw [if_pos d] at ea
        exact ⟨d.symm.trans c, rfl, ea⟩
      · rw [if_neg d] at ef; omega
    · rw [if_neg c] at ef ea
      by_cases d : w = w2
      · rw [if_pos d] at ef; omega
      · rw [if_neg d] at ea
        have k1 : p = p1 := by rcases he.2.2 with z | z; exact z.1; exact absurd z.1 c
        have k2 : p = p2 := by rcases hs2.2.2 with z | z; exact z.1; exact absurd z.1 d
        exact ⟨ea, rfl, k2.symm.trans k1⟩
  have h' := h
  obtain ⟨qa, ql, qw, qb, qp⟩ := h
  unfold reachE
  by_cases c : valE kd t.1 (eIx 1 w1 b p1) = -1
  · rw [if_pos c]
    have hi : VIx N (eIx 1 w1 b p1) := VIx.of hN.2 (.inr rfl) hq1.1 hq1.2.1 hq1.2.2
    have hr := qa.room hi (by omega)
    have v1 : 1 ≤ v := by
      have := (qa.2.1 p0 qp.1.1 qp.1.2).2
      have := qp.2.1
      omega
    have eB : ∀ x y z, in3 N x y z → VB kd (winE kd (eIx 1 w1 b p1) v t) x y z = VB kd t x y z := fun x y z hq => by
      show valE kd _ _ = _
      rw [win_val hr, if_neg (fun z => by have := (eI_inj hN.2 (.inl rfl) (.inr rfl) hq hq1 z).1; omega)]
    have eW : ∀ w2 b2 p2, in3 N w2 b2 p2 → VW kd (winE kd (eIx 1 w1 b p1) v t) w2 b2 p2 = if w2 = w1 ∧ b2 = b ∧ p2 = p1 then v else VW kd t w2 b2 p2 := fun w2 b2 p2 hq2 => by
      show valE kd _ _ = _
      rw [win_val hr]
      by_cases z : w2 = w1 ∧ b2 = b ∧ p2 = p1
      · rw [if_pos z, z.1, z.2.1, z.2.2, if_pos rfl]
      · rw [if_neg z, if_neg (fun y => z (eI_inj hN.2 (.inr rfl) (.inr rfl) hq2 hq1 y).2)]
    have nb : ∀ j, t.2 ≤ j → ∀ x y, Dadd D p0 a f j x y = false := fun j j0 x y => by
      rw [Dadd_f]
      have := qp.1
      refine ⟨?_, fun z => by omega⟩
      cases c : D j x y
      · rfl
      · have := qp.2.2.2.2 j x y c; omega
    refine ⟨qa.win hi (by omega) (by omega) qp.2.2.1, fun w2 b2 p2 hq2 => ?_, fun w2 b2 p2 hq2 => ?_, ?_, ?_⟩
    · obtain ⟨⟨l1, l2⟩, l3, l4⟩ := ql w2 b2 p2 hq2
      rw [eB w2 b2 p2 hq2, eW w2 b2 p2 hq2]
      by_cases z : w2 = w1 ∧ b2 = b ∧ p2 = p1
      · rw [if_pos z]
        rw [z.1, z.2.1, z.2.2] at l1
        refine ⟨⟨⟨fun y => by omega, fun y => ?_⟩, l2⟩, by omega, l4⟩
        rw [z.1, z.2.1, z.2.2] at y
        have := l1.mpr y
        have c2 : VW kd t w1 b p1 = -1 := c
        omega
      · rw [if_neg z]; exact ⟨⟨l1, l2⟩, l3, l4⟩
    · have qw2 := qw w2 b2 p2 hq2
      rw [eW w2 b2 p2 hq2]
      by_cases z : w2 = w1 ∧ b2 = b ∧ p2 = p1
      · rw [if_pos z]
        obtain ⟨z1, z2, z3⟩ := z
        subst z1; subst z2; subst z3
        refine ⟨fun _ => ⟨⟨w, p, he, ?_, by omega⟩, fun w' p' hs2 y => ?_⟩, fun y => by omega⟩
        · rw [eB w _ p hq]
          have := qp.2.1
          rw [hs] at this
          exact this
        · have hq3 := sW_in hq2.2.1 hs2
          rw [eB w' b2 p' hq3] at y ⊢
          by_cases lt : VB kd t w' b2 p' < v - 1
          · exfalso
            obtain ⟨j, j0, j1, j2⟩ := qa.2.2.2.1 _ (VIx.of hN.2 (.inl rfl) hq3.1 hq3.2.1 hq3.2.2) y
            have vj : valE kd t.1 (t.1 1 j) < v - 1 := by rw [j2]; exact lt
            have jl : j < p0 := by
              by_cases l : j < p0
              · exact l
              · exfalso
                by_cases l2 : j = p0
                · rw [l2, qp.2.1] at vj; omega
                · have := (qa.2.2.1 p0 j qp.1.1 (by omega) j1).2
                  rw [qp.2.1] at this; omega
            have d1 := qw2.2 c w' p' hs2 j j0 j1 j2
            rw [qp.2.2.2.1 j _ _ j0 jl] at d1
            exact nomatch d1
          · omega
      · rw [if_neg z]
        refine ⟨fun y => ?_, fun y w' p' hs2 j j0 j1 j2 => ?_⟩
        · obtain ⟨⟨w', p', g1, g2, g3⟩, g4⟩ := qw2.1 y
          refine ⟨⟨w', p', g1, by rw [eB _ _ _ (sW_in hq2.2.1 g1)]; exact g2, g3⟩, fun w' p' hs2 x => ?_⟩
          rw [eB _ _ _ (sW_in hq2.2.1 hs2)] at x ⊢
          exact g4 w' p' hs2 x
        · rw [win_n hr] at j1
          rw [win_qu hr] at j2
          by_cases l : j = t.2
          · exact nb j (by omega) _ _
          · rw [if_neg l] at j2
            rw [Dadd_f]
            refine ⟨qw2.2 y w' p' hs2 j j0 (by omega) j2, ?_⟩
            rintro ⟨e1, e2, e3⟩
            rw [e1] at j2
            exact z (uniq w2 b2 p2 w' p' hq2 hs2 j2 e2 e3)
    · refine qb.keep eB (fun w2 b2 p2 hq2 y => ?_) (win_ct hr) fun w2 b2 p2 u hq2 ho hl => ?_
      · rw [eW w2 b2 p2 hq2, if_neg]
        rintro ⟨z1, z2, z3⟩
        rw [z1, z2, z3] at y
        have c2 : VW kd t w1 b p1 = -1 := c
        omega
      · refine dn_eq qa.1.1 (by rw [win_n hr]; omega) (fun j j0 j1 => ⟨by rw [win_qu hr, if_neg (by omega)], fun _ => ?_⟩) (fun j j0 => nb j j0 _ _)
        apply Bool.eq_iff_iff.mpr
        rw [Dadd_iff]
        exact ⟨fun z => by rcases z with z | z; exact z; exact absurd z.2.2 f2, fun z => .inl z⟩
    · refine ⟨by rw [win_n hr]; have := qp.1; omega, ?_, fun j j0 j1 => ?_, fun j x y j0 j1 => ?_, fun j x y z => ?_⟩
      · rw [win_qu hr, if_neg (by have := qp.1; omega), hs]
        have := eB w b p hq
        have e := qp.2.1
        rw [hs] at e
        show VB kd _ w b p = _
        rw [this]; exact e
      · rw [win_n hr] at j1
        rw [win_qu hr, win_val hr]
        by_cases l : j = t.2
        · rw [if_pos l, if_pos rfl]; exact Int.le_refl _
        · rw [if_neg l, if_neg (fun z => by have := (qa.2.1 j j0 (by omega)).2; rw [z] at this; omega)]
          exact qp.2.2.1 j j0 (by omega)
      · rw [Dadd_iff]; exact .inl (qp.2.2.2.1 j x y j0 j1)
      · rw [Dadd_iff] at z
        rcases z with z | z
        · exact qp.2.2.2.2 j x y z
        · omega
  · rw [if_neg c]
    refine skip_ok h' (fun w2 b2 p2 w' p' hq2 y hs2 e => ?_) (fun _ _ _ _ _ _ _ _ z => f2 z.2)
    rintro ⟨e1, e2⟩
    obtain ⟨z1, z2, z3⟩ := uniq w2 b2 p2 w' p' hq2 hs2 e e1 e2
    rw [z1, z2, z3] at y
    exact c y
end
