section
theorem run3_lex {T : Type} {N : Int} (hN : 0 ≤ N) (J : Int → Int → Int → T → Prop) (g : Int → Int → Int → T → T) (hs : ∀ w b p : Int, in3 N w b p → ∀ t, J w b p t → J w b (p + 1) (g w b p t)) (hp : ∀ w b : Int, ∀ t, J w b N t → J w (b + 1) 0 t) (hb : ∀ w : Int, ∀ t, J w N 0 t → J (w + 1) 0 0 t) (t : T) (h0 : J 0 0 0 t) :
    J N 0 0 (runL (fun w => runL (fun b => runL (fun p => g w b p) 0 N.toNat) 0 N.toNat) 0 N.toNat t) := by
  have l1 : ∀ w b : Int, (0 ≤ w ∧ w < N) → (0 ≤ b ∧ b < N) → ∀ (d : Nat) (p : Int) (t : T), 0 ≤ p → p + d = N → J w b p t → J w b N (runL (fun p => g w b p) p d t) := by
    intro w b hw hb d
    induction d with
    | zero => intro p t p0 p1 h; have : p = N := by omega
              rw [← this]; exact h
    | succ d ih => intro p t p0 p1 h; exact ih (p + 1) _ (by omega) (by omega) (hs w b p ⟨hw, hb, ⟨p0, by omega⟩⟩ t h)
  have l2 : ∀ w : Int, (0 ≤ w ∧ w < N) → ∀ (d : Nat) (b : Int) (t : T), 0 ≤ b → b + d = N → J w b 0 t → J w N 0 (runL (fun b => runL (fun p => g w b p) 0 N.toNat) b d t) := by
    intro w hw d
    induction d with
    | zero => intro b t b0 b1 h; have : b = N := by omega
              rw [← this]; exact h
    | succ d ih => intro b t b0 b1 h; exact ih (b + 1) _ (by omega) (by omega) (hp w b _ (l1 w b hw ⟨b0, by omega⟩ N.toNat 0 t (by omega) (by omega) h))
  have l3 : ∀ (d : Nat) (w : Int) (t : T), 0 ≤ w → w + d = N → J w 0 0 t → J N 0 0 (runL (fun w => runL (fun b => runL (fun p => g w b p) 0 N.toNat) 0 N.toNat) w d t) := by
    intro d
    induction d with
    | zero => intro w t w0 w1 h; have : w = N := by omega
              rw [← this]; exact h
    | succ d ih => intro w t w0 w1 h; exact ih (w + 1) _ (by omega) (by omega) (hb w _ (l2 w ⟨w0, by omega⟩ N.toNat 0 t (by omega) (by omega) h))
  exact l3 N.toNat 0 t (by omega) (by omega) h0
variable {F R kd : Int} {t t1 : eT}
theorem sumL_zero {f : Int → Int} (d : Nat) (k : Int) (h : ∀ j, k ≤ j → j < k + d → f j = 0) : sumL f k d = 0 := sumL_0 d k h
/-- behind the marking -/
theorem marked (bb : BFR F R) (h25 : F * R ≤ 25) (hk : 2 ≤ kd ∧ kd ≤ 5) (e : xM) : (forE (F * R) (markE F R kd) (e, 0)).2 = 0 ∧ ∀ w b p, in3 (F * R) w b p →
    VW kd (forE (F * R) (markE F R kd) (e, 0)) w b p = (if ofEnd F kd 0 w b p = true then -1 else -2) ∧ VB kd (forE (F * R) (markE F R kd) (e, 0)) w b p = (if ofEnd F kd 1 w b p = true then -1 else -2) := by
  have hn := FR_r bb.1.1 bb.1.2 bb.2.1 bb.2.2
  have vW : ∀ w b p w0 b0 p0, in3 (F * R) w b p → in3 (F * R) w0 b0 p0 → ∀ t : eT, VW kd (markE F R kd w b p t) w0 b0 p0 = if w0 = w ∧ b0 = b ∧ p0 = p then (if ofEnd F kd 0 w b p = true then -1 else -2) else VW kd t w0 b0 p0 := by
    intro w b p w0 b0 p0 hq h0 t
    unfold markE
    show valE kd _ _ = _
    dsimp only
    rw [valE_set, valE_set, apt_0 bb hk hq.2.2 hq.2.1]
    by_cases c : w0 = w ∧ b0 = b ∧ p0 = p
    · rw [if_pos c, c.1, c.2.1, c.2.2, if_pos rfl]
    · rw [if_neg c, if_neg (fun z => c (eI_inj h25 (.inr rfl) (.inr rfl) h0 hq z).2), if_neg (fun z => by have := (eI_inj h25 (.inr rfl) (.inl rfl) h0 hq z).1; omega)]
  have vB : ∀ w b p w0 b0 p0, in3 (F * R) w b p → in3 (F * R) w0 b0 p0 → ∀ t : eT, VB kd (markE F R kd w b p t) w0 b0 p0 = if w0 = w ∧ b0 = b ∧ p0 = p then (if ofEnd F kd 1 w b p = true then -1 else -2) else VB kd t w0 b0 p0 := by
    intro w b p w0 b0 p0 hq h0 t
    unfold markE
    show valE kd _ _ = _
    dsimp only
    rw [valE_set, valE_set, apt_1 (kd := kd) bb hq.2.1, if_neg (fun z => by have := (eI_inj h25 (.inl rfl) (.inr rfl) h0 hq z).1; omega)]
    by_cases c : w0 = w ∧ b0 = b ∧ p0 = p
    · rw [if_pos c, c.1, c.2.1, c.2.2, if_pos rfl]
    · rw [if_neg c, if_neg (fun z => c (eI_inj h25 (.inl rfl) (.inl rfl) h0 hq z).2)]
  have key := fun (w0 b0 p0 : Int) (h0 : in3 (F * R) w0 b0 p0) => run3_hit (N := F * R) (fun t : eT => t.2 = 0) (fun t => VW kd t w0 b0 p0 = (if ofEnd F kd 0 w0 b0 p0 = true then -1 else -2) ∧ VB kd t w0 b0 p0 = (if ofEnd F kd 1 w0 b0 p0 = true then -1 else -2)) (markE F R kd)
    (fun w b p _ _ _ t ht => ht)
    (fun w b p hw hb hp t ht hq => by
      rw [vW w b p w0 b0 p0 ⟨hw, hb, hp⟩ h0, vB w b p w0 b0 p0 ⟨hw, hb, hp⟩ h0]
      by_cases c : w0 = w ∧ b0 = b ∧ p0 = p
      · rw [if_pos c, if_pos c, c.1, c.2.1, c.2.2]; exact ⟨rfl, rfl⟩
      · rw [if_neg c, if_neg c]; exact hq)
    (e, 0) rfl
  refine ⟨(key 0 0 0 ⟨⟨by omega, by omega⟩, ⟨by omega, by omega⟩, ⟨by omega, by omega⟩⟩).1, fun w b p hq => ?_⟩
  refine (key w b p hq).2 w b p hq.1 hq.2.1 hq.2.2 fun t ht => ?_
  have e3 : w = w ∧ b = b ∧ p = p := ⟨rfl, rfl, rfl⟩
  rw [vW w b p w b p hq hq, vB w b p w b p hq hq, if_pos e3, if_pos e3]
  exact ⟨rfl, rfl⟩
/-- the number of Black's moves -/
theorem mvs_eq (bb : BFR F R) (h25 : F * R ≤ 25) {e : xM} {w b p : Int} (hq : in3 (F * R) w b p) (ho : ofEnd F kd 1 w b p = true) (hv : ∀ u, 0 ≤ u → u < F * R → valE kd e (eIx 1 w u p) = (if ofEnd F kd 0 w u p = true then -1 else -2)) : mvsE F R kd w b p e = mvB F (F * R) kd w b p := by
  obtain ⟨o1, o2, o3, o4, -⟩ := of_parts ho
  have c1 : (kgS F R b p && !kgS F R w p) = cpB F w b p := by
    rw [kg_iff bb hq.2.2, kg_iff bb hq.2.2, decide_eq_false (fun z => o2 z.symm : ¬ p = w), Bool.not_false, Bool.and_true]
    unfold cpB
    cases nearB F b p <;> cases nearB F w p <;> cases decide (p = b) <;> rfl
  unfold mvsE mvB
  rw [c1]
  split
  · rfl
  · unfold cntM
    refine sumL_congr _ _ fun u u0 u1 => ?_
    have hu : 0 ≤ u ∧ u < F * R := ⟨u0, by omega⟩
    have : (kgS F R b u && !decide (valE kd e (eIx 1 w u p) = -2)) = lgB F kd w b p u := by
      rw [kg_iff bb hu, hv u hu.1 hu.2]
      have nn : nearB F w w = true := by
        unfold nearB
        have : ∀ x : Int, dist x x = 0 := fun x => by unfold dist; split <;> omega
        rw [this, this]; rfl
      have e1 : decide ((if ofEnd F kd 0 w u p = true then (-1 : Int) else -2) = -2) = !ofEnd F kd 0 w u p := by
        cases ofEnd F kd 0 w u p <;> rfl
      rw [e1, Bool.not_not]
      unfold lgB ofEnd
      rw [decide_eq_false o2, decide_eq_false (show ¬ (0 : Int) = 1 by decide), Bool.false_or, Bool.not_false, Bool.and_true]
      by_cases c : w = u
      · rw [← c, nn, Bool.not_true, Bool.and_false, Bool.and_false, Bool.false_and, Bool.false_and, Bool.false_and, Bool.and_false]
      · rw [decide_eq_false c, Bool.not_false, Bool.true_and]
        cases nearB F b u <;> cases nearB F w u <;> cases decide (u = b) <;> cases decide (u = p) <;> cases strkB F kd p u w <;> rfl
    rw [this]
abbrev Bef (w' b' p' w b p : Int) : Prop := w' < w ∨ (w' = w ∧ (b' < b ∨ (b' = b ∧ p' < p)))
theorem counted (bb : BFR F R) (h25 : F * R ≤ 25) (hk : 2 ≤ kd ∧ kd ≤ 5) (e : xM) : WQ F (F * R) kd 0 (forE (F * R) (countE F R kd) (forE (F * R) (markE F R kd) (e, 0))) := by
  have hn := FR_r bb.1.1 bb.1.2 bb.2.1 bb.2.2
  obtain ⟨m0, mk⟩ := marked bb h25 hk e
  generalize forE (F * R) (markE F R kd) (e, 0) = t1 at m0 mk
  have bneg : ∀ w b p, in3 (F * R) w b p → VB kd t1 w b p < 0 ∧ (VB kd t1 w b p ≠ -2 → ofEnd F kd 1 w b p = true ∧ VB kd t1 w b p = -1) := fun w b p hq => by
    rw [(mk w b p hq).2]
    cases ofEnd F kd 1 w b p <;> simp
  have key := run3_lex (N := F * R) (by omega) (fun w b p (t : eT) => (QA (F * R) kd t ∧ (∀ j, 0 ≤ j → j < t.2 → valE kd t.1 (t.1 1 j) = 0) ∧ (∀ x y z, in3 (F * R) x y z → VW kd t x y z = VW kd t1 x y z)) ∧
      (∀ x y z, in3 (F * R) x y z → Bef x y z w b p → (VB kd t x y z = VB kd t1 x y z ∨ (VB kd t x y z = 0 ∧ VB kd t1 x y z = -1 ∧ mvB F (F * R) kd x y z = 0 ∧ strkB F kd z y x = true)) ∧ (VB kd t1 x y z = -1 → t.1 2 (eIx 0 x y z) = mvB F (F * R) kd x y z ∧ (VB kd t x y z = -1 → ¬ (mvB F (F * R) kd x y z = 0 ∧ strkB F kd z y x = true)))) ∧
      (∀ x y z, in3 (F * R) x y z → ¬ Bef x y z w b p → VB kd t x y z = VB kd t1 x y z)) (countE F R kd)
    (fun w b p hq t ⟨⟨qa, q0, vw⟩, hd, hu⟩ => by
      have own := hu w b p hq (by omega)
      obtain ⟨bn1, bn2⟩ := bneg w b p hq
      unfold countE
      by_cases c : valE kd t.1 (eIx 0 w b p) = -2
      · rw [if_pos c]
        refine ⟨⟨qa, q0, vw⟩, fun x y z hx hb => ?_, fun x y z hx hb => hu x y z hx (fun k => hb (by omega))⟩
        by_cases s : x = w ∧ y = b ∧ z = p
        · rw [s.1, s.2.1, s.2.2, ← own]
          exact ⟨.inl rfl, fun k => by have c : VB kd t w b p = -2 := c; omega⟩
        · exact hd x y z hx (by omega)
      · rw [if_neg c]
        have leg := bn2 (by rw [← own]; exact c)
        have ms := mvs_eq (kd := kd) bb h25 (e := t.1) hq leg.1 (fun u u0 u1 => by
          have := vw w u p ⟨hq.1, ⟨u0, u1⟩, hq.2.2⟩
          rw [(mk w u p ⟨hq.1, ⟨u0, u1⟩, hq.2.2⟩).1] at this
          exact this)
        rw [ms, pc_check bb hk hq.2.2 hq.2.1]
        have qa1 : QA (F * R) kd (up t.1 2 (eIx 0 w b p) (mvB F (F * R) kd w b p), t.2) := qa.cong (fun j => valE_up _ _ _ _ (by decide)) (show (up t.1 2 (eIx 0 w b p) (mvB F (F * R) kd w b p)) 1 = t.1 1 from up_r _ _ _ rfl) rfl
        have hi : VIx (F * R) (eIx 0 w b p) := VIx.of h25 (.inl rfl) hq.1 hq.2.1 hq.2.2
        have ow1 : VB kd t w b p = -1 := by rw [own]; exact leg.2
        have qu1 : ∀ j, (up t.1 2 (eIx 0 w b p) (mvB F (F * R) kd w b p)) 1 j = t.1 1 j := fun j => congrFun (up_r _ _ _ rfl) j
        have en : ∀ x y z, in3 (F * R) x y z → ¬ (x = w ∧ y = b ∧ z = p) → ¬ eIx 0 x y z = eIx 0 w b p := fun x y z hx s q => s (eI_inj h25 (.inl rfl) (.inl rfl) hx hq q).2
        by_cases d : mvB F (F * R) kd w b p = 0 ∧ strkB F kd p b w = true
        · rw [if_pos d]
          have hr : (up t.1 2 (eIx 0 w b p) (mvB F (F * R) kd w b p), t.2).2 < 31250 := qa.room hi (by have : valE kd t.1 (eIx 0 w b p) = -1 := ow1
                                                                                                       omega)
          have eB : ∀ x y z, in3 (F * R) x y z → VB kd (winE kd (eIx 0 w b p) 0 (up t.1 2 (eIx 0 w b p) (mvB F (F * R) kd w b p), t.2)) x y z = if x = w ∧ y = b ∧ z = p then 0 else VB kd t x y z := fun x y z hx => by
            show valE kd _ _ = _
            rw [win_val hr]
            by_cases s : x = w ∧ y = b ∧ z = p
            · rw [if_pos s, s.1, s.2.1, s.2.2, if_pos rfl]
            · rw [if_neg s, if_neg (en x y z hx s), valE_up _ _ _ _ (by decide)]
          have ct : ∀ i, (winE kd (eIx 0 w b p) 0 (up t.1 2 (eIx 0 w b p) (mvB F (F * R) kd w b p), t.2)).1 2 i = if i = eIx 0 w b p then mvB F (F * R) kd w b p else t.1 2 i := fun i => by
            rw [win_ct hr]
            by_cases s : i = eIx 0 w b p
            · rw [if_pos s, s]; exact up_at _ _ _ _
            · rw [if_neg s]; exact up_ne _ (Or.inr s)
          refine ⟨⟨qa1.win hi (by rw [valE_up _ _ _ _ (by decide)]; have : valE kd t.1 (eIx 0 w b p) = -1 := ow1
                                  omega) (Int.le_refl _) (fun j j0 j1 => ?_), fun j j0 j1 => ?_, fun x y z hx => ?_⟩, fun x y z hx hb => ?_, fun x y z hx hb => ?_⟩
          · rw [valE_up _ _ _ _ (by decide)]
            show valE kd t.1 ((up t.1 2 (eIx 0 w b p) (mvB F (F * R) kd w b p)) 1 j) ≤ 0
            rw [qu1, q0 j j0 j1]; exact Int.le_refl _
          · rw [win_n hr] at j1
            have j1 : j < t.2 + 1 := j1
            rw [win_qu hr, win_val hr]
            by_cases s : j = t.2
            · rw [if_pos s, if_pos rfl]
            · have s' : ¬ j = (up t.1 2 (eIx 0 w b p) (mvB F (F * R) kd w b p), t.2).2 := s
              rw [if_neg s']
              show (if (up t.1 2 (eIx 0 w b p) (mvB F (F * R) kd w b p)) 1 j = eIx 0 w b p then (0 : Int) else valE kd (up t.1 2 (eIx 0 w b p) (mvB F (F * R) kd w b p)) ((up t.1 2 (eIx 0 w b p) (mvB F (F * R) kd w b p)) 1 j)) = 0
              split
              · rfl
              · rw [valE_up _ _ _ _ (by decide), qu1]; exact q0 j j0 (by omega)
          · show valE kd _ _ = _
            rw [win_val hr, if_neg (fun q => by have := (eI_inj h25 (.inr rfl) (.inl rfl) hx hq q).1; omega), valE_up _ _ _ _ (by decide)]
            exact vw x y z hx
          · rw [eB x y z hx, ct]
            by_cases s : x = w ∧ y = b ∧ z = p
            · rw [if_pos s, s.1, s.2.1, s.2.2, if_pos rfl]
              exact ⟨.inr ⟨rfl, leg.2, d⟩, fun _ => ⟨rfl, fun k => by omega⟩⟩
            · rw [if_neg s, if_neg (en x y z hx s)]
              exact hd x y z hx (by omega)
          · rw [eB x y z hx, if_neg (by omega)]
            exact hu x y z hx (fun k => hb (by omega))
        · rw [if_neg d]
          refine ⟨⟨qa1, fun j j0 j1 => ?_, fun x y z hx => ?_⟩, fun x y z hx hb => ?_, fun x y z hx hb => ?_⟩
          · rw [valE_up _ _ _ _ (by decide)]
            show valE kd t.1 ((up t.1 2 (eIx 0 w b p) (mvB F (F * R) kd w b p)) 1 j) = 0
            rw [qu1]; exact q0 j j0 j1
          · show valE kd _ _ = _
            rw [valE_up _ _ _ _ (by decide)]
            exact vw x y z hx
          · have eV : VB kd (up t.1 2 (eIx 0 w b p) (mvB F (F * R) kd w b p), t.2) x y z = VB kd t x y z := valE_up _ _ _ _ (by decide)
            rw [eV]
            by_cases s : x = w ∧ y = b ∧ z = p
            · rw [s.1, s.2.1, s.2.2]
              exact ⟨.inl own, fun _ => ⟨up_at _ _ _ _, fun _ => d⟩⟩
            · have := hd x y z hx (by omega)
              refine ⟨this.1, fun k => ⟨?_, (this.2 k).2⟩⟩
              rw [← (this.2 k).1]
              exact up_ne _ (Or.inr (en x y z hx s))
          · have eV : VB kd (up t.1 2 (eIx 0 w b p) (mvB F (F * R) kd w b p), t.2) x y z = VB kd t x y z := valE_up _ _ _ _ (by decide)
            rw [eV]
            exact hu x y z hx (fun k => hb (by omega)))
    (fun w b t ⟨h1, h2, h3⟩ => ⟨h1, fun x y z hx hb => h2 x y z hx (by have := hx.2.2; omega), fun x y z hx hb => h3 x y z hx (fun k => hb (by omega))⟩)
    (fun w t ⟨h1, h2, h3⟩ => ⟨h1, fun x y z hx hb => h2 x y z hx (by have := hx.2.1; have := hx.2.2; omega), fun x y z hx hb => h3 x y z hx (fun k => hb (by omega))⟩)
    t1 ⟨⟨⟨by omega, fun j j0 j1 => by omega, fun j k j0 j1 j2 => by omega, fun i hi i0 => by
        exfalso
        obtain ⟨e1, e2, e3⟩ := eI_of hi
        rw [e1] at i0
        rcases e2 with e2 | e2
        · rw [e2] at i0
          have := (bneg _ _ _ e3).1
          have i0 : 0 ≤ VB kd t1 (dW i) (dB i) (dP i) := i0
          omega
        · rw [e2] at i0
          have i0 : 0 ≤ VW kd t1 (dW i) (dB i) (dP i) := i0
          rw [(mk _ _ _ e3).1] at i0
          split at i0 <;> omega, by
        rw [m0]
        unfold nmE
        refine (sumL_0 _ _ fun i i0 i1 => ?_).symm
        cases c : vlB (F * R) i
        · rfl
        · obtain ⟨e1, e2, e3⟩ := eI_of (vlB_iff.mp c)
          have : ¬ 0 ≤ valE kd t1.1 i := by
            intro i0
            rw [e1] at i0
            rcases e2 with e2 | e2
            · rw [e2] at i0
              have := (bneg _ _ _ e3).1
              have i0 : 0 ≤ VB kd t1 (dW i) (dB i) (dP i) := i0
              omega
            · rw [e2] at i0
              have i0 : 0 ≤ VW kd t1 (dW i) (dB i) (dP i) := i0
              rw [(mk _ _ _ e3).1] at i0
              split at i0 <;> omega
          rw [decide_eq_false this]; rfl⟩, fun j j0 j1 => by omega, fun x y z hx => rfl⟩, fun x y z hx hb => by have := hx.1; have := hx.2.1; have := hx.2.2; omega, fun x y z hx hb => rfl⟩
  have key : _ := key
  rw [show runL (fun w => runL (fun b => runL (fun p => countE F R kd w b p) 0 (F * R).toNat) 0 (F * R).toNat) 0 (F * R).toNat t1 = forE (F * R) (countE F R kd) t1 from rfl] at key
  generalize forE (F * R) (countE F R kd) t1 = t at key
  obtain ⟨⟨qa, q0, vw⟩, hd, -⟩ := key
  have hd := fun x y z hx => hd x y z hx (.inl hx.1.2)
  have nW : ∀ w b p, in3 (F * R) w b p → VW kd t w b p = if ofEnd F kd 0 w b p = true then -1 else -2 := fun w b p hq => by rw [vw w b p hq]; exact (mk w b p hq).1
  refine ⟨qa, fun w b p hq => ?_, fun w b p hq => ⟨fun z => ?_, fun z w' p' hs j j0 j1 j2 => ?_⟩, fun w b p hq ho => ?_, fun l j j0 j1 => ?_⟩
  · have g := (hd w b p hq).1
    rw [nW w b p hq]
    have gB := (mk w b p hq).2
    refine ⟨⟨?_, ?_⟩, ?_, ?_⟩
    · cases ofEnd F kd 0 w b p <;> simp
    · rcases g with g | ⟨g1, g2, -⟩
      · rw [g, gB]; cases ofEnd F kd 1 w b p <;> simp
      · rw [g1]
        rw [gB] at g2
        cases o : ofEnd F kd 1 w b p
        · rw [o] at g2; simp at g2
        · simp
    · split <;> omega
    · rcases g with g | ⟨g1, -⟩
      · rw [g, gB]; split <;> omega
      · omega
  · rw [nW w b p hq] at z; split at z <;> omega
  · unfold Dp; rw [decide_eq_false_iff_not]; omega
  · have g := hd w b p hq
    have gB := (mk w b p hq).2
    rw [ho, if_pos rfl] at gB
    have ds : dnS F (F * R) kd w b p t (Dp 0) = 0 := by
      unfold dnS
      refine sumL_0 _ _ fun u u0 u1 => ?_
      have : dnB t (Dp 0) (eIx 1 w u p) b = false := by
        cases c : dnB t (Dp 0) (eIx 1 w u p) b
        · rfl
        · rw [dn_iff qa.1.1] at c
          obtain ⟨j, j0, j1, j2, j3⟩ := c
          have := of_decide_eq_true j3
          omega
      rw [this, Bool.and_false]; rfl
    have g2 := g.2 gB
    rw [ds, g2.1]
    refine ⟨by omega, fun z => ?_, fun z => ⟨g2.2 z, fun y => y⟩⟩
    rcases g.1 with x | ⟨x1, x2, x3, x4⟩
    · omega
    · exact .inl ⟨x3, x1, x4⟩
  · rw [q0 j j0 j1, q0 0 (Int.le_refl _) l]; decide
end
