section
variable {F N kd p0 v : Int} {t t' : eT} {D D' : Int → Int → Int → Bool}
theorem QA.cong (h : QA N kd t) (h1 : ∀ j, valE kd t'.1 j = valE kd t.1 j) (h2 : t'.1 1 = t.1 1) (h3 : t'.2 = t.2) : QA N kd t' := by
  obtain ⟨a, b, c, d, e⟩ := h
  refine ⟨by rw [h3]; exact a, fun j j0 j1 => ?_, fun j k j0 j1 j2 => ?_, fun i hi i0 => ?_, ?_⟩
  · rw [h3] at j1; rw [h1, h2]; exact b j j0 j1
  · rw [h3] at j2; rw [h1, h1, h2]; exact c j k j0 j1 j2
  · rw [h1] at i0; rw [h2, h3]; exact d i hi i0
  · rw [h3, e]; unfold nmE; exact sumL_congr _ _ fun j _ _ => by rw [h1]
/-- a Black position has one move fewer to hope for -/
theorem lose_ok (hN : 0 ≤ N ∧ N ≤ 25) (h : IQ F N kd p0 v t D) {w b p a : Int} (hs : t.1 1 p0 = eIx 1 w b p) (hq : in3 N w b p) (ha : 0 ≤ a ∧ a < N) (hl : legE F N kd w a p b) (hD : D p0 a 2 = false) :
    IQ F N kd p0 v (loseE kd (eIx 0 w a p) v t) (Dadd D p0 a 2) := by
  have hqa : in3 N w a p := ⟨hq.1, ha, hq.2.2⟩
  have uniq : ∀ w2 b2 p2 u, in3 N w2 b2 p2 → legE F N kd w2 b2 p2 u → t.1 1 p0 = eIx 1 w2 u p2 → b2 = a → w2 = w ∧ b2 = a ∧ p2 = p ∧ u = b := by
    intro w2 b2 p2 u hq2 hl2 e ea
    rw [hs] at e
    obtain ⟨-, e1, e2, e3⟩ := eI_inj hN.2 (.inr rfl) (.inr rfl) hq ⟨hq2.1, hl2.1, hq2.2.2⟩ e
    exact ⟨e1.symm, ea, e3.symm, e2.symm⟩
  have h' := h
  obtain ⟨qa, ql, qw, qb, qp⟩ := h
  have lgb : lgB F kd w a p b = true := (lg_iff hl.1).mpr hl
  have mv1 : 1 ≤ mvB F N kd w a p := by
    unfold mvB
    split
    · omega
    · have := sum_pos (p := fun u => lgB F kd w a p u) lgb N.toNat 0 hl.1.1 (by have := hl.1.2; omega)
      omega
  have dn0 : dnB t D (eIx 1 w b p) a = false := by
    cases c : dnB t D (eIx 1 w b p) a
    · rfl
    · rw [dn_iff qa.1.1] at c
      obtain ⟨j, j0, j1, j2, j3⟩ := c
      rw [← hs] at j2
      have : j = p0 := by
        by_cases l : j < p0
        · exact absurd j2 (qa.2.2.1 j p0 j0 l qp.1.2).1
        · by_cases l2 : j = p0
          · exact l2
          · exact absurd j2.symm (qa.2.2.1 p0 j qp.1.1 (by omega) j1).1
      rw [this, hD] at j3; exact nomatch j3
  have nf : ∀ z : Int, ¬ ((if z = w then (1 : Int) else 0) = 2) := fun z => by split <;> decide
  unfold loseE
  by_cases c : valE kd t.1 (eIx 0 w a p) = -1
  · rw [if_pos c]
    have hi : VIx N (eIx 0 w a p) := VIx.of hN.2 (.inl rfl) hqa.1 hqa.2.1 hqa.2.2
    have leg1 : ofEnd F kd 1 w a p = true := by
      cases o : ofEnd F kd 1 w a p
      · have := (ql w a p hqa).1.2.mpr o
        have c2 : VB kd t w a p = -1 := c
        omega
      · rfl
    obtain ⟨b1, -, b3⟩ := qb w a p hqa leg1
    have b3 := b3 c
    -- behind the step: t' with its values, counts, queue
    have fin : ∀ t' : eT, QA N kd t' → (∀ x y z, in3 N x y z → VW kd t' x y z = VW kd t x y z) → (∀ x y z, in3 N x y z → VB kd t' x y z = if x = w ∧ y = a ∧ z = p then (if t.1 2 (eIx 0 w a p) - 1 = 0 then v else -1) else VB kd t x y z) →
        (∀ x, t'.1 2 x = if x = eIx 0 w a p then t.1 2 (eIx 0 w a p) - 1 else t.1 2 x) → (t.2 ≤ t'.2) → (∀ j, 0 ≤ j → j < t.2 → t'.1 1 j = t.1 1 j) → (∀ j, t.2 ≤ j → j < t'.2 → valE kd t'.1 (t'.1 1 j) ≤ v) → IQ F N kd p0 v t' (Dadd D p0 a 2) := by
      intro t' qa' eW eB ct n1 qu new
      have nb : ∀ j, t.2 ≤ j → ∀ x y, Dadd D p0 a 2 j x y = false := fun j j0 x y => by
        rw [Dadd_f]
        have := qp.1
        refine ⟨?_, fun z => by omega⟩
        cases c : D j x y
        · rfl
        · have := qp.2.2.2.2 j x y c; omega
      have dnk : ∀ w2 b2 p2 u, in3 N w2 b2 p2 → legE F N kd w2 b2 p2 u → ¬ (w2 = w ∧ b2 = a ∧ p2 = p ∧ u = b) → dnB t' (Dadd D p0 a 2) (eIx 1 w2 u p2) b2 = dnB t D (eIx 1 w2 u p2) b2 := by
        intro w2 b2 p2 u hq2 hl2 ne
        refine dn_eq qa.1.1 n1 (fun j j0 j1 => ⟨qu j j0 j1, fun e => ?_⟩) (fun j j0 => nb j j0 _ _)
        apply Bool.eq_iff_iff.mpr
        rw [Dadd_iff]
        refine ⟨fun z => ?_, fun z => .inl z⟩
        rcases z with z | ⟨z1, z2, -⟩
        · exact z
        · rw [z1] at e; exact absurd (uniq w2 b2 p2 u hq2 hl2 e z2) ne
      have dnb : dnB t' (Dadd D p0 a 2) (eIx 1 w b p) a = true := by
        rw [dn_iff (by have := qa.1.1; omega)]
        refine ⟨p0, qp.1.1, by have := qp.1.2; omega, by rw [qu p0 qp.1.1 qp.1.2]; exact hs, ?_⟩
        rw [Dadd_iff]; exact .inr ⟨rfl, rfl, rfl⟩
      refine ⟨qa', fun x y z hx => ?_, fun x y z hx => ?_, fun x y z hx ho => ?_, ?_⟩
      · obtain ⟨⟨l1, l2⟩, l3, l4⟩ := ql x y z hx
        rw [eW x y z hx, eB x y z hx]
        by_cases e : x = w ∧ y = a ∧ z = p
        · rw [if_pos e]
          have e1 : ofEnd F kd 1 x y z = true := by rw [e.1, e.2.1, e.2.2]; exact leg1
          have vne : (if t.1 2 (eIx 0 w a p) - 1 = 0 then v else -1) ≠ -2 ∧ -2 ≤ (if t.1 2 (eIx 0 w a p) - 1 = 0 then v else -1) := by
            have := (qa.2.1 p0 qp.1.1 qp.1.2).2
            have := qp.2.1
            split <;> omega
          exact ⟨⟨l1, ⟨fun q => absurd q vne.1, fun q => by rw [e1] at q; exact nomatch q⟩⟩, l3, vne.2⟩
        · rw [if_neg e]; exact ⟨⟨l1, l2⟩, l3, l4⟩
      · have qw2 := qw x y z hx
        rw [eW x y z hx]
        refine ⟨fun q => ?_, fun q w' p' hs2 j j0 j1 j2 => ?_⟩
        · obtain ⟨⟨w', p', g1, g2, g3⟩, g4⟩ := qw2.1 q
          have nx : ∀ w' p', 0 ≤ VB kd t w' y p' → ¬ (w' = w ∧ y = a ∧ p' = p) := by
            rintro w' p' k ⟨k1, k2, k3⟩
            rw [k1, k2, k3] at k
            have c2 : VB kd t w a p = -1 := c
            omega
          refine ⟨⟨w', p', g1, ?_, g3⟩, fun w' p' hs2 k => ?_⟩
          · rw [eB _ _ _ (sW_in hx.2.1 g1), if_neg (nx w' p' (by omega))]; exact g2
          · rw [eB _ _ _ (sW_in hx.2.1 hs2)] at k ⊢
            by_cases e : w' = w ∧ y = a ∧ p' = p
            · rw [if_pos e] at k ⊢
              obtain ⟨j, j0, j1, j2⟩ := qa.2.2.2.1 _ (VIx.of hN.2 (.inr rfl) hx.1 hx.2.1 hx.2.2) q
              have := qp.2.2.1 j j0 j1
              rw [j2] at this
              have this : VW kd t x y z ≤ v := this
              split at k
              · rename_i q2; rw [if_pos q2]; omega
              · omega
            · rw [if_neg e] at k ⊢
              exact g4 w' p' hs2 k
        · by_cases l : t.2 ≤ j
          · exact nb j l _ _
          · rw [qu j j0 (by omega)] at j2
            rw [Dadd_f]
            refine ⟨qw2.2 q w' p' hs2 j j0 (by omega) j2, ?_⟩
            rintro ⟨-, -, e⟩
            split at e <;> omega
      · by_cases e : x = w ∧ y = a ∧ z = p
        · obtain ⟨e1, e2, e3⟩ := e
          subst e1; subst e2; subst e3
          have ds : dnS F N kd x y z t' (Dadd D p0 y 2) = dnS F N kd x y z t D + 1 := by
            unfold dnS
            have s1 := sum_one (f := fun u => if (lgB F kd x y z u && dnB t D (eIx 1 x u z) y) = true then (1 : Int) else 0) (g := fun u => if (lgB F kd x y z u && dnB t' (Dadd D p0 y 2) (eIx 1 x u z) y) = true then (1 : Int) else 0) (q := b) N.toNat 0 (fun j j0 j1 j2 => by
              cases cl : lgB F kd x y z j
              · rfl
              · rw [dnk x y z j hx ((lg_iff ⟨j0, by omega⟩).mp cl) (fun q => j2 q.2.2.2)]) hl.1.1 (by have := hl.1.2; omega)
            rw [lgb, dn0, dnb, Bool.and_true, Bool.and_false, if_pos rfl, if_neg (by simp)] at s1
            omega
          have dle := sum_01 (p := fun u => lgB F kd x y z u && dnB t' (Dadd D p0 y 2) (eIx 1 x u z) y) N.toNat 0
          have dle2 : dnS F N kd x y z t' (Dadd D p0 y 2) ≤ N.toNat := dle.2
          rw [ct, if_pos rfl, eB x y z hx, if_pos ⟨rfl, rfl, rfl⟩, ds, b1]
          refine ⟨by omega, fun k => ?_, fun k => ?_⟩
          · by_cases k0 : mvB F N kd x y z - dnS F N kd x y z t D - 1 = 0
            · rw [if_pos k0]
              have cf : cpB F x y z = false := by
                cases q : cpB F x y z
                · rfl
                · have : mvB F N kd x y z = 100 := by unfold mvB; rw [if_pos q]
                  omega
              have mvq : mvB F N kd x y z = sumL (fun u => if lgB F kd x y z u = true then 1 else 0) 0 N.toNat := by unfold mvB; rw [if_neg (by rw [cf]; simp)]
              have all := sum_all (p := fun u => lgB F kd x y z u) (q := fun u => lgB F kd x y z u && dnB t' (Dadd D p0 y 2) (eIx 1 x u z) y) N.toNat 0 (fun j _ _ q => (Bool.and_eq_true_iff.mp q).1) (by
                have : dnS F N kd x y z t' (Dadd D p0 y 2) = sumL (fun u => if (lgB F kd x y z u && dnB t' (Dadd D p0 y 2) (eIx 1 x u z) y) = true then 1 else 0) 0 N.toNat := rfl
                omega)
              have sv : VW kd t x b z = v - 1 := by
                have := qp.2.1
                rw [hs] at this
                exact this
              have v0 : 0 ≤ v - 1 := by
                have := (qa.2.1 p0 qp.1.1 qp.1.2).2
                have := qp.2.1
                omega
              right
              refine ⟨cf, by omega, fun u hu => ?_, b, hl, by rw [eW _ _ _ ⟨hx.1, hl.1, hx.2.2⟩]; exact sv⟩
              have du := (Bool.and_eq_true_iff.mp (all u hu.1.1 (by have := hu.1.2; omega) ((lg_iff hu.1).mpr hu))).2
              refine ⟨?_, du⟩
              rw [eW _ _ _ ⟨hx.1, hu.1, hx.2.2⟩]
              rw [dn_iff (by have := qa.1.1; omega)] at du
              obtain ⟨j, j0, j1, j2, j3⟩ := du
              have jp : j ≤ p0 := by
                rw [Dadd_iff] at j3
                rcases j3 with j3 | j3
                · exact qp.2.2.2.2 j _ _ j3
                · omega
              have jt : j < t.2 := by have := qp.1.2; omega
              rw [qu j j0 jt] at j2
              have g1 := (qa.2.1 j j0 jt).2
              rw [j2] at g1
              refine ⟨g1, ?_⟩
              by_cases jl : j = p0
              · rw [jl] at j2
                have := qp.2.1
                rw [j2] at this
                have this : VW kd t x u z = v - 1 := this
                omega
              · have := (qa.2.2.1 j p0 j0 (by omega) qp.1.2).2
                rw [j2, qp.2.1] at this
                exact this
            · rw [if_neg k0] at k; omega
          · by_cases k0 : mvB F N kd x y z - dnS F N kd x y z t D - 1 = 0
            · rw [if_pos k0] at k
              have := (qa.2.1 p0 qp.1.1 qp.1.2).2
              have := qp.2.1
              omega
            · have := b3.2 (by omega)
              exact ⟨fun q => by omega, fun _ => by omega⟩
        · obtain ⟨a1, a2, a3⟩ := qb x y z hx ho
          have en : ¬ eIx 0 x y z = eIx 0 w a p := fun q => e (eI_inj hN.2 (.inl rfl) (.inl rfl) hx hqa q).2
          have ds : dnS F N kd x y z t' (Dadd D p0 a 2) = dnS F N kd x y z t D := by
            unfold dnS
            refine sumL_congr _ _ fun u u0 u1 => ?_
            cases cl : lgB F kd x y z u
            · rfl
            · rw [dnk x y z u hx ((lg_iff ⟨u0, by omega⟩).mp cl) (fun q => e ⟨q.1, q.2.1, q.2.2.1⟩)]
          rw [ct, if_neg en, eB x y z hx, if_neg e, ds]
          refine ⟨a1, fun k => ?_, a3⟩
          rcases a2 k with k | ⟨k1, k2, k3, u, k4, k5⟩
          · exact .inl k
          · refine .inr ⟨k1, k2, fun u hu => ?_, u, k4, by rw [eW _ _ _ ⟨hx.1, k4.1, hx.2.2⟩]; exact k5⟩
            rw [eW _ _ _ ⟨hx.1, hu.1, hx.2.2⟩, dnk x y z u hx hu (fun q => e ⟨q.1, q.2.1, q.2.2.1⟩)]
            exact k3 u hu
      · refine ⟨by have := qp.1; omega, ?_, fun j j0 j1 => ?_, fun j x y j0 j1 => ?_, fun j x y z => ?_⟩
        · rw [qu p0 qp.1.1 qp.1.2, hs]
          have := eW w b p hq
          have g := qp.2.1
          rw [hs] at g
          show VW kd t' w b p = _
          rw [this]; exact g
        · by_cases l : t.2 ≤ j
          · exact new j l j1
          · rw [qu j j0 (by omega)]
            obtain ⟨i1, i2, i3⟩ := eI_of (qa.2.1 j j0 (by omega)).1
            have old := qp.2.2.1 j j0 (by omega)
            have pos := (qa.2.1 j j0 (by omega)).2
            rw [i1] at old pos ⊢
            rcases i2 with i2 | i2
            · rw [i2] at old pos ⊢
              have := eB _ _ _ i3
              show VB kd t' _ _ _ ≤ v
              rw [this, if_neg]
              · exact old
              · rintro ⟨k1, k2, k3⟩
                rw [k1, k2, k3, c] at pos
                omega
            · rw [i2] at old ⊢
              have := eW _ _ _ i3
              show VW kd t' _ _ _ ≤ v
              rw [this]; exact old
        · rw [Dadd_iff]; exact .inl (qp.2.2.2.1 j x y j0 j1)
        · rw [Dadd_iff] at z
          rcases z with z | z
          · exact qp.2.2.2.2 j x y z
          · omega
    -- the step itself
    have qa1 : QA N kd (up t.1 2 (eIx 0 w a p) (t.1 2 (eIx 0 w a p) - 1), t.2) := qa.cong (fun j => valE_up _ _ _ _ (by decide)) (show (up t.1 2 (eIx 0 w a p) (t.1 2 (eIx 0 w a p) - 1)) 1 = t.1 1 from up_r _ _ _ rfl) rfl
    by_cases c0 : t.1 2 (eIx 0 w a p) - 1 = 0
    · rw [if_pos c0]
      have hr : (up t.1 2 (eIx 0 w a p) (t.1 2 (eIx 0 w a p) - 1), t.2).2 < 31250 := qa.room hi (by omega)
      have v0 : 0 ≤ v := by
        have := (qa.2.1 p0 qp.1.1 qp.1.2).2
        have := qp.2.1
        omega
      refine fin _ (qa1.win hi (by rw [valE_up _ _ _ _ (by decide)]; omega) v0 (fun j j0 j1 => ?_)) (fun x y z hx => ?_) (fun x y z hx => ?_) (fun x => ?_) ?_ (fun j j0 j1 => ?_) (fun j j0 j1 => ?_)
      · rw [valE_up _ _ _ _ (by decide)]
        have e1 : (up t.1 2 (eIx 0 w a p) (t.1 2 (eIx 0 w a p) - 1)) 1 j = t.1 1 j := congrFun (up_r _ _ _ rfl) j
        show valE kd t.1 ((up t.1 2 (eIx 0 w a p) (t.1 2 (eIx 0 w a p) - 1)) 1 j) ≤ v
        rw [e1]
        exact qp.2.2.1 j j0 j1
      · show valE kd _ _ = _
        rw [win_val hr, if_neg (fun q => by have := (eI_inj hN.2 (.inr rfl) (.inl rfl) hx hqa q).1; omega), valE_up _ _ _ _ (by decide)]
      · show valE kd _ _ = _
        rw [win_val hr, if_pos c0]
        by_cases e : x = w ∧ y = a ∧ z = p
        · rw [if_pos e, e.1, e.2.1, e.2.2, if_pos rfl]
        · rw [if_neg e, if_neg (fun q => e (eI_inj hN.2 (.inl rfl) (.inl rfl) hx hqa q).2), valE_up _ _ _ _ (by decide)]
      · rw [win_ct hr]
        by_cases e : x = eIx 0 w a p
        · rw [if_pos e, e]; exact up_at _ _ _ _
        · rw [if_neg e]; exact up_ne _ (Or.inr e)
      · rw [win_n hr]; show t.2 ≤ t.2 + 1; omega
      · rw [win_qu hr, if_neg (by show ¬ j = t.2; omega)]
        show (up t.1 2 (eIx 0 w a p) (t.1 2 (eIx 0 w a p) - 1)) 1 j = t.1 1 j
        exact congrFun (up_r _ _ _ rfl) j
      · rw [win_n hr] at j1
        have j1 : j < t.2 + 1 := j1
        rw [win_qu hr, if_pos (show j = t.2 by omega), win_val hr, if_pos rfl]
        exact Int.le_refl _
    · rw [if_neg c0]
      refine fin _ qa1 (fun x y z hx => valE_up _ _ _ _ (by decide)) (fun x y z hx => ?_) (fun x => ?_) (Int.le_refl _) (fun j j0 j1 => (show (up t.1 2 (eIx 0 w a p) (t.1 2 (eIx 0 w a p) - 1)) 1 j = t.1 1 j from congrFun (up_r _ _ _ rfl) j)) (fun j j0 j1 => ?_)
      · rw [if_neg c0]
        show valE kd _ _ = _
        rw [valE_up _ _ _ _ (by decide)]
        by_cases e : x = w ∧ y = a ∧ z = p
        · rw [if_pos e, e.1, e.2.1, e.2.2]; exact c
        · rw [if_neg e]
      · by_cases e : x = eIx 0 w a p
        · rw [if_pos e, e]; exact up_at _ _ _ _
        · rw [if_neg e]; exact up_ne _ (Or.inr e)
      · have j1 : j < t.2 := j1
        omega
  · rw [if_neg c]
    refine skip_ok h' (fun w2 b2 p2 w' p' _ _ _ _ z => by have := z.2; split at this <;> omega) (fun w2 b2 p2 u hq2 ho hl2 e z => ?_)
    obtain ⟨e1, e2, e3, e4⟩ := uniq w2 b2 p2 u hq2 hl2 e z.1
    subst e1; subst e2; subst e3; subst e4
    have l2 := (ql w2 b2 p2 hq2).1.2
    have l4 := (ql w2 b2 p2 hq2).2.2
    have n2 : VB kd t w2 b2 p2 ≠ -2 := fun y => by rw [l2.mp y] at ho; exact nomatch ho
    have c2 : VB kd t w2 b2 p2 ≠ -1 := c
    rcases (qb w2 b2 p2 hq2 ho).2.1 (by omega) with y | ⟨-, -, y, -⟩
    · omega
    · have := (y u hl2).2
      rw [dn0] at this; exact nomatch this
end
