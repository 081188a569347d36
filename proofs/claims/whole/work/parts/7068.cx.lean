def castC (F R : Int) (v : Int → Int) (b : Int) : Bool :=
  (!decide (heldB (v 65) (v 64) = 0) && !chkB F R v (v 64)) &&
  ((((!decide (heldB (v 65) (v 64) % 2 = 0) && (!occB v (homeB F R (v 64) 5) && !occB v (homeB F R (v 64) 6))) && (!atkB F R v (homeB F R (v 64) 5) (1 - v 64) && !atkB F R v (homeB F R (v 64) 6) (1 - v 64))) && decide (b = homeB F R (v 64) 6)) ||
   (((!decide (heldB (v 65) (v 64) / 2 % 2 = 0) && (!occB v (homeB F R (v 64) 1) && !occB v (homeB F R (v 64) 2) && !occB v (homeB F R (v 64) 3))) && (!atkB F R v (homeB F R (v 64) 3) (1 - v 64) && !atkB F R v (homeB F R (v 64) 2) (1 - v 64))) && decide (b = homeB F R (v 64) 2)))
theorem clear_short {R : Int} {v : Int → Int} {s : Int} : clearB 8 v (homeB 8 R s 4) (homeB 8 R s 7) = (!occB v (homeB 8 R s 5) && !occB v (homeB 8 R s 6)) := by
  rw [← clearO_v]
  have hh : ∀ f : Int, homeB 8 R s f = homeB 8 R s 0 + f := fun f => by unfold homeB; omega
  have hm : homeB 8 R s 0 % 8 = 0 := by unfold homeB; omega
  have e4 := hh 4
  have e7 := hh 7
  apply Bool.eq_iff_iff.mpr
  rw [clearO_iff (s := 3) (d := 0) (by decide) (by decide) (by simp only [dfD, Int.reduceEq, if_true, if_false]; omega) (by simp only [drD, Int.reduceEq, if_true, if_false]; omega)]
  simp only [dfD, drD, Int.reduceEq, if_true, if_false, Int.reduceMul, Int.reduceAdd, Bool.and_eq_true, Bool.not_eq_true']
  constructor
  · intro h
    have a := h 1 (by decide) (by decide)
    have b := h 2 (by decide) (by decide)
    rw [show homeB 8 R s 4 + 1 * 1 = homeB 8 R s 5 by rw [hh 5, e4]; omega] at a
    rw [show homeB 8 R s 4 + 2 * 1 = homeB 8 R s 6 by rw [hh 6, e4]; omega] at b
    exact ⟨a, b⟩
  · rintro ⟨a, b⟩ s1 k1 k2
    rcases (show s1 = 1 ∨ s1 = 2 by omega) with rfl | rfl
    · rw [show homeB 8 R s 4 + 1 * 1 = homeB 8 R s 5 by rw [hh 5, e4]; omega]; exact a
    · rw [show homeB 8 R s 4 + 2 * 1 = homeB 8 R s 6 by rw [hh 6, e4]; omega]; exact b
theorem clear_long {R : Int} {v : Int → Int} {s : Int} : clearB 8 v (homeB 8 R s 4) (homeB 8 R s 0) = (!occB v (homeB 8 R s 1) && !occB v (homeB 8 R s 2) && !occB v (homeB 8 R s 3)) := by
  rw [← clearO_v]
  have hh : ∀ f : Int, homeB 8 R s f = homeB 8 R s 0 + f := fun f => by unfold homeB; omega
  have hm : homeB 8 R s 0 % 8 = 0 := by unfold homeB; omega
  have e4 := hh 4
  apply Bool.eq_iff_iff.mpr
  rw [clearO_iff (s := 4) (d := 2) (by decide) (by decide) (by simp only [dfD, Int.reduceEq, if_true, if_false]; omega) (by simp only [drD, Int.reduceEq, if_true, if_false]; omega)]
  simp only [dfD, drD, Int.reduceEq, if_true, if_false, Int.reduceMul, Int.reduceAdd, Bool.and_eq_true, Bool.not_eq_true']
  constructor
  · intro h
    have a := h 1 (by decide) (by decide)
    have b := h 2 (by decide) (by decide)
    have c := h 3 (by decide) (by decide)
    rw [show homeB 8 R s 4 + 1 * -1 = homeB 8 R s 3 by rw [hh 3, e4]; omega] at a
    rw [show homeB 8 R s 4 + 2 * -1 = homeB 8 R s 2 by rw [hh 2, e4]; omega] at b
    rw [show homeB 8 R s 4 + 3 * -1 = homeB 8 R s 1 by rw [hh 1, e4]; omega] at c
    exact ⟨⟨c, b⟩, a⟩
  · rintro ⟨⟨a, b⟩, c⟩ s1 k1 k2
    rcases (show s1 = 1 ∨ s1 = 2 ∨ s1 = 3 by omega) with rfl | rfl | rfl
    · rw [show homeB 8 R s 4 + 1 * -1 = homeB 8 R s 3 by rw [hh 3, e4]; omega]; exact c
    · rw [show homeB 8 R s 4 + 2 * -1 = homeB 8 R s 2 by rw [hh 2, e4]; omega]; exact b
    · rw [show homeB 8 R s 4 + 3 * -1 = homeB 8 R s 1 by rw [hh 1, e4]; omega]; exact a
theorem held_bits {r s : Int} (hr : 0 ≤ r ∧ r ≤ 15) (hs : s = 0 ∨ s = 1) : (r / 2 ^ (rbit s true).toNat % 2 = 1 ↔ ¬ heldB r s % 2 = 0) ∧ (r / 2 ^ (rbit s false).toNat % 2 = 1 ↔ ¬ heldB r s / 2 % 2 = 0) := by
  unfold heldB rbit
  rcases hs with rfl | rfl
  · simp only [Int.reduceEq, if_true, if_false, Bool.false_eq_true]
    refine ⟨?_, ?_⟩
    · show r / 2 ^ 2 % 2 = 1 ↔ _; omega
    · show r / 2 ^ 3 % 2 = 1 ↔ _; omega
  · simp only [Int.reduceEq, if_true, if_false, Bool.false_eq_true]
    refine ⟨?_, ?_⟩
    · show r / 2 ^ 0 % 2 = 1 ↔ _; omega
    · show r / 2 ^ 1 % 2 = 1 ↔ _; omega
theorem castC_iff {F R b : Int} {v : Int → Int} (h4 : 4 ≤ F) (h8 : F ≤ 8) (r4 : 4 ≤ R) (r8 : R ≤ 8) (hv : okV F R v) (hsn : soundB F R v = true) (hone : oneK F R v (v 64)) : castC F R v b = castB F R v (kingB F R v (v 64)) b := by
  have hs : v 64 = 0 ∨ v 64 = 1 := by have := hv.s; omega
  have hb := held_bits hv.r hs
  by_cases h0 : heldB (v 65) (v 64) = 0
  · unfold castC castB castT
    rw [decide_eq_true h0, decide_eq_false (show ¬ v 65 / 2 ^ (rbit (v 64) (decide (b = homeB F R (v 64) 6))).toNat % 2 = 1 by
      cases decide (b = homeB F R (v 64) 6)
      · exact fun z => hb.2.mp z (by rw [h0]; rfl)
      · exact fun z => hb.1.mp z (by rw [h0]; rfl))]
    simp
  · have hne : v 65 ≠ 0 := fun e => h0 (by unfold heldB; rw [e]; split <;> rfl)
    have e8 := rights_8 hv.r hsn hne
    subst e8
    have hK : kingB 8 R v (v 64) = homeB 8 R (v 64) 4 := by
      have hany : ∃ sh : Bool, v 65 / 2 ^ (rbit (v 64) sh).toNat % 2 = 1 := by
        have : ¬ heldB (v 65) (v 64) % 2 = 0 ∨ ¬ heldB (v 65) (v 64) / 2 % 2 = 0 := by
          have := hv.r
          unfold heldB at h0 ⊢
          split at h0 <;> rename_i e
          · rw [if_pos e]; omega
          · rw [if_neg e]; omega
        rcases this with q | q
        · exact ⟨true, hb.1.mpr q⟩
        · exact ⟨false, hb.2.mpr q⟩
      obtain ⟨sh, hsh⟩ := hany
      have sn := sound_at hsn (i := rbit (v 64) sh) (rbit_r _ _).1 (rbit_r _ _).2 hsh
      have hr := homeB_r (F := 8) (R := R) (its := v 64) (f := 4) (by decide) (by decide) r4 r8 (by decide)
      refine (hone _ hr.1 hr.2.1 ?_).symm
      rcases hs with e | e <;> rw [e] at sn ⊢ <;> cases sh <;> exact sn.2.1
    have hch : chkB 8 R v (v 64) = atkB 8 R v (homeB 8 R (v 64) 4) (1 - v 64) := by unfold chkB; rw [hK]
    unfold castC castB castT
    rw [hch, hK, decide_eq_false h0, decide_eq_true (show homeB 8 R (v 64) 4 = homeB 8 R (v 64) 4 from rfl), decide_eq_true (show (8 : Int) = 8 from rfl)]
    have hne62 : homeB 8 R (v 64) 6 ≠ homeB 8 R (v 64) 2 := by unfold homeB; omega
    by_cases c6 : b = homeB 8 R (v 64) 6
    · have c2 : ¬ b = homeB 8 R (v 64) 2 := by rw [c6]; exact hne62
      rw [decide_eq_true c6, decide_eq_false c2]
      simp only [if_true, clear_short]
      rw [show decide (v 65 / 2 ^ (rbit (v 64) true).toNat % 2 = 1) = !decide (heldB (v 65) (v 64) % 2 = 0) by rw [← decide_not]; exact decide_eq_decide.mpr hb.1, c6]
      generalize decide (heldB (v 65) (v 64) % 2 = 0) = x1
      generalize occB v (homeB 8 R (v 64) 5) = x2
      generalize occB v (homeB 8 R (v 64) 6) = x3
      generalize atkB 8 R v (homeB 8 R (v 64) 4) (1 - v 64) = x4
      generalize atkB 8 R v (homeB 8 R (v 64) 5) (1 - v 64) = x5
      generalize atkB 8 R v (homeB 8 R (v 64) 6) (1 - v 64) = x6
      revert x1 x2 x3 x4 x5 x6
      simp
    · rw [decide_eq_false c6]
      by_cases c2 : b = homeB 8 R (v 64) 2
      · rw [decide_eq_true c2]
        simp only [Bool.false_eq_true, if_false, clear_long]
        rw [show decide (v 65 / 2 ^ (rbit (v 64) false).toNat % 2 = 1) = !decide (heldB (v 65) (v 64) / 2 % 2 = 0) by rw [← decide_not]; exact decide_eq_decide.mpr hb.2, c2]
        generalize decide (heldB (v 65) (v 64) / 2 % 2 = 0) = x1
        generalize occB v (homeB 8 R (v 64) 1) = x2
        generalize occB v (homeB 8 R (v 64) 2) = x3
        generalize occB v (homeB 8 R (v 64) 3) = x7
        generalize atkB 8 R v (homeB 8 R (v 64) 4) (1 - v 64) = x4
        generalize atkB 8 R v (homeB 8 R (v 64) 3) (1 - v 64) = x5
        generalize atkB 8 R v (homeB 8 R (v 64) 2) (1 - v 64) = x6
        revert x1 x2 x3 x4 x5 x6 x7
        simp
      · rw [decide_eq_false c2]; simp
section
variable {D : wD} {S : wS} {o : Nat → Nat} {c : cM} {F R : Int} {p : Nat} {v : Int → Int}
theorem ush_and {P : Int → Bool} {hm : Int} {M : Int64} {Q : Int → Bool} (hM : M = zS Q) (hh : 0 ≤ hm ∧ hm < 64) (hQ : ∀ k : Int, 0 ≤ k → k < 64 → Q k = true → hm + k < 64) :
    (jlushr (zS P) (iI hm) &&& M = 0) = (∀ k : Int, 0 ≤ k → k < 64 → Q k = true → P (hm + k) = false) := by
  have e : jlushr (zS P) (iI hm) &&& M = zS (fun k => zt (zS P) (hm + k) && Q k) := zS_eq fun k h0 h1 => by
    rw [zt_and, zt_ushr _ hh h0, hM, zt_S Q h0 h1]
  rw [e, zS_0]
  apply propext
  constructor
  · intro h k h0 h1 hq
    have := h k h0 h1
    rw [hq, Bool.and_true, zt_S P (by omega) (hQ k h0 h1 hq)] at this
    exact this
  · intro h k h0 h1
    cases q : Q k
    · rw [Bool.and_false]
    · rw [zt_S P (by omega) (hQ k h0 h1 q), h k h0 h1 q]; rfl
theorem m96 : (96 : Int64) = zS (fun k => decide (k = 5) || decide (k = 6)) := zS_eq fun k h0 h1 => by
  have key : ∀ n : Nat, n < 64 → zt 96 (n : Int) = (decide ((n : Int) = 5) || decide ((n : Int) = 6)) := by decide +kernel
  have := key k.toNat (by omega)
  rw [Int.toNat_of_nonneg h0] at this
  exact this
theorem m14 : (14 : Int64) = zS (fun k => decide (k = 1) || decide (k = 2) || decide (k = 3)) := zS_eq fun k h0 h1 => by
  have key : ∀ n : Nat, n < 64 → zt 14 (n : Int) = (decide ((n : Int) = 1) || decide ((n : Int) = 2) || decide ((n : Int) = 3)) := by decide +kernel
  have := key k.toNat (by omega)
  rw [Int.toNat_of_nonneg h0] at this
  exact this
theorem q_castlings {post : Int64 → wS → Prop} (h : CC D S o) (hB : BG c F R) (hp : isP p) (hv : okV F R v) (hb : brd F R v) (hsn : soundB F R v = true) (hA : PAt c p v) (hR : RA c F R v)
    (k : post (zS (castC F R v)) (cS S o c)) : wp_X8_castlings D post (cS S o c) (o 10) (o p) := by
  have hm := hB.m
  have h4 := hB.f4; have h8 := hB.f8; have r4 := hB.r4; have r8 := hB.r8
  have hs : v 64 = 0 ∨ v 64 = 1 := by have := hv.s; omega
  have hr := hv.r
  have s5 : sI (cS S o c) (o p) 5 = iI (v 64) := by rw [c_i1 h hp.1 (show ((5 : Nat) : Int) = 5 from rfl)]; exact congrArg iI hA.2.2.2.2.1
  have s6 : sI (cS S o c) (o p) 6 = iI (v 65) := by rw [c_i1 h hp.1 (show ((6 : Nat) : Int) = 6 from rfl)]; exact congrArg iI hA.2.2.2.2.2.1
  have sz : sI (cS S o c) (o 1) 2 = iI (F * R) := by rw [c_i1 h (by decide) (show ((2 : Nat) : Int) = 2 from rfl)]; exact congrArg iI hB.n
  have s4 : sI (cS S o c) (o 10) 4 = iI (bI (chkB F R v (v 64))) := by rw [c_i1 h (by decide) (show ((4 : Nat) : Int) = 4 from rfl)]; exact congrArg iI hR.2.2.2.1
  have z2 : sJ (cS S o c) (o 10) 2 = zS (occB v) := by rw [c_j1 h (by decide) (show ((2 : Nat) : Int) = 2 from rfl)]; exact hR.2.1
  have hz : (iI (v 64) = 0) = (v 64 = 0) := by rw [show (0 : Int32) = iI 0 from rfl, iI_eq (by omega) (by omega) (by decide) (by decide)]
  have hH : 0 ≤ heldB (v 65) (v 64) ∧ heldB (v 65) (v 64) ≤ 3 := by unfold heldB; split <;> omega
  have r3 : iI (v 65) &&& (3 : Int32) = iI (v 65 % 4) := by
    generalize v 65 = r at hr
    rcases (show r = 0 ∨ r = 1 ∨ r = 2 ∨ r = 3 ∨ r = 4 ∨ r = 5 ∨ r = 6 ∨ r = 7 ∨ r = 8 ∨ r = 9 ∨ r = 10 ∨ r = 11 ∨ r = 12 ∨ r = 13 ∨ r = 14 ∨ r = 15 by omega) with rfl | rfl | rfl | rfl | rfl | rfl | rfl | rfl | rfl | rfl | rfl | rfl | rfl | rfl | rfl | rfl <;> decide
  have r2 : jiushr (iI (v 65)) (2 : Int32) = iI (v 65 / 4) := by
    generalize v 65 = r at hr
    rcases (show r = 0 ∨ r = 1 ∨ r = 2 ∨ r = 3 ∨ r = 4 ∨ r = 5 ∨ r = 6 ∨ r = 7 ∨ r = 8 ∨ r = 9 ∨ r = 10 ∨ r = 11 ∨ r = 12 ∨ r = 13 ∨ r = 14 ∨ r = 15 by omega) with rfl | rfl | rfl | rfl | rfl | rfl | rfl | rfl | rfl | rfl | rfl | rfl | rfl | rfl | rfl | rfl <;> decide
  have b1 : (iI (heldB (v 65) (v 64)) &&& (1 : Int32) = 0) = (heldB (v 65) (v 64) % 2 = 0) := by
    rcases (show heldB (v 65) (v 64) = 0 ∨ heldB (v 65) (v 64) = 1 ∨ heldB (v 65) (v 64) = 2 ∨ heldB (v 65) (v 64) = 3 by omega) with e | e | e | e <;> rw [e] <;> decide
  have b2 : (iI (heldB (v 65) (v 64)) &&& (2 : Int32) = 0) = (heldB (v 65) (v 64) / 2 % 2 = 0) := by
    rcases (show heldB (v 65) (v 64) = 0 ∨ heldB (v 65) (v 64) = 1 ∨ heldB (v 65) (v 64) = 2 ∨ heldB (v 65) (v 64) = 3 by omega) with e | e | e | e <;> rw [e] <;> decide
  have lh : (iI (heldB (v 65) (v 64)) = 0) = (heldB (v 65) (v 64) = 0) := by rw [show (0 : Int32) = iI 0 from rfl, iI_eq (by omega) (by omega) (by decide) (by decide)]
  have at22 : wp_X8_castlings_22 D post (cS S o c) (o 10) (o p) (iI (heldB (v 65) (v 64))) := by
    unfold wp_X8_castlings_22 wp_X8_castlings_34
    rw [lh, s4, bF, s5, hz]
    have none : castC F R v = (fun _ => false) → post 0 (cS S o c) := fun e => by rw [zS_f, ← e]; exact k
    refine ⟨fun g => none ?_, fun g => ⟨fun g2 => ?_, fun g2 => none ?_⟩⟩
    · funext b; unfold castC; rw [decide_eq_true g]; rfl
    · have hne : v 65 ≠ 0 := fun e => g (by unfold heldB; rw [e]; split <;> rfl)
      have e8 := rights_8 hr hsn hne
      subst e8
      have hhr : ∀ f : Int, 0 ≤ f → f < 8 → 0 ≤ homeB 8 R (v 64) f ∧ homeB 8 R (v 64) f < 8 * R := fun f f0 f1 => by
        have := homeB_r (F := 8) (R := R) (its := v 64) (f := f) (by decide) (by decide) r4 r8 ⟨f0, f1⟩
        exact ⟨this.1, this.2.1⟩
      have hh : ∀ f : Int, homeB 8 R (v 64) f = homeB 8 R (v 64) 0 + f := fun f => by unfold homeB; omega
      have h07 := hhr 7 (by decide) (by decide)
      have e7 := hh 7
      have h00 := hhr 0 (by decide) (by decide)
      -- the attackers of a square of the home rank
      have atk : ∀ (f u : Int) {post2 : Int64 → wS → Prop}, 0 ≤ f → f < 8 → u = 1 - v 64 → (atkB 8 R v (homeB 8 R (v 64) f) (1 - v 64) = false → post2 0 (cS S o c)) → (∀ P, zS P ≠ 0 → atkB 8 R v (homeB 8 R (v 64) f) (1 - v 64) = true → post2 (zS P) (cS S o c)) →
          wp_X7_attackers D post2 (cS S o c) (o p) (iI (homeB 8 R (v 64) 0) + iI f) (iI u) (zS (occB v)) := by
        intro f u post2 f0 f1 hu g1 g2
        rw [iI_add, ← hh f]
        refine q_attackers h hB hp hv.p hA (hhr f f0 f1) (by omega) ?_
        have hf := found_zero hB hv.p hb (s := u) (by omega) (hhr f f0 f1)
        rw [hu] at hf ⊢
        cases q : atkB 8 R v (homeB 8 R (v 64) f) (1 - v 64)
        · rw [hf.mpr q]; exact g1 q
        · exact g2 _ (fun z => by rw [hf.mp z] at q; exact absurd q (by decide)) q
      have hu0 : ∀ (X : Int → Prop), (∀ u, u = 1 - v 64 → X u) → (¬ (iI (v 64) = 0) → X 0) ∧ ((iI (v 64) = 0) → X 1) := fun X hX => ⟨fun z => hX 0 (by rw [hz] at z; omega), fun z => hX 1 (by rw [hz] at z; omega)⟩
      -- both answers known
      have ends : ∀ (bs bl : Bool), bs = ((!decide (heldB (v 65) (v 64) % 2 = 0) && (!occB v (homeB 8 R (v 64) 5) && !occB v (homeB 8 R (v 64) 6))) && (!atkB 8 R v (homeB 8 R (v 64) 5) (1 - v 64) && !atkB 8 R v (homeB 8 R (v 64) 6) (1 - v 64))) →
          bl = ((!decide (heldB (v 65) (v 64) / 2 % 2 = 0) && (!occB v (homeB 8 R (v 64) 1) && !occB v (homeB 8 R (v 64) 2) && !occB v (homeB 8 R (v 64) 3))) && (!atkB 8 R v (homeB 8 R (v 64) 3) (1 - v 64) && !atkB 8 R v (homeB 8 R (v 64) 2) (1 - v 64))) →
          wp_X8_castlings_225 D post (cS S o c) (iI (homeB 8 R (v 64) 0)) (iI (bI bs)) (iI (bI bl)) := by
        intro bs bl hbs hbl
        unfold wp_X8_castlings_225 wp_X8_castlings_242 wp_X8_castlings_256
        rw [bF, bF, show (6 : Int32) = iI 6 from rfl, show (2 : Int32) = iI 2 from rfl, iI_add, iI_add, ← hh 6, ← hh 2, zS_one (show 0 ≤ homeB 8 R (v 64) 6 ∧ homeB 8 R (v 64) 6 < 64 by have := hhr 6 (by decide) (by decide); omega), zS_one (show 0 ≤ homeB 8 R (v 64) 2 ∧ homeB 8 R (v 64) 2 < 64 by have := hhr 2 (by decide) (by decide); omega)]
        have e : ∀ P, P = castC 8 R v → post (zS P) (cS S o c) := fun P hP => by rw [hP]; exact k
        have ec : castC 8 R v = fun b => (bs && decide (b = homeB 8 R (v 64) 6)) || (bl && decide (b = homeB 8 R (v 64) 2)) := by
          funext b
          unfold castC
          rw [decide_eq_false g, g2, ← hbs, ← hbl]; rfl
        cases bs <;> cases bl
        · refine ⟨fun _ => ⟨fun _ => ?_, fun z => absurd rfl z⟩, fun z => absurd rfl z⟩
          rw [zS_f, zS_or]; exact e _ (by rw [ec]; funext b; rfl)
        · refine ⟨fun _ => ⟨fun z => absurd z (by decide), fun _ => ?_⟩, fun z => absurd rfl z⟩
          rw [zS_f, zS_or]; exact e _ (by rw [ec]; funext b; simp)
        · refine ⟨fun z => absurd z (by decide), fun _ => ⟨fun _ => ?_, fun z => absurd rfl z⟩⟩
          rw [zS_f, zS_or]; exact e _ (by rw [ec]; funext b; simp)
        · refine ⟨fun z => absurd z (by decide), fun _ => ⟨fun z => absurd z (by decide), fun _ => ?_⟩⟩
          rw [zS_or]; exact e _ (by rw [ec]; funext b; simp)
      have at141 : ∀ bs : Bool, bs = ((!decide (heldB (v 65) (v 64) % 2 = 0) && (!occB v (homeB 8 R (v 64) 5) && !occB v (homeB 8 R (v 64) 6))) && (!atkB 8 R v (homeB 8 R (v 64) 5) (1 - v 64) && !atkB 8 R v (homeB 8 R (v 64) 6) (1 - v 64))) →
          wp_X8_castlings_141 D post (cS S o c) (o 10) (o p) (iI (heldB (v 65) (v 64))) (iI (homeB 8 R (v 64) 0)) (iI (bI bs)) := by
        intro bs hbs
        unfold wp_X8_castlings_141 wp_X8_castlings_224
        have ef := ends bs
        rw [b2, z2, s5]
        have em : (lg_cmp (jlushr (zS (occB v)) (iI (homeB 8 R (v 64) 0)) &&& (14 : Int64)) 0 = 0) = ((!occB v (homeB 8 R (v 64) 1) && !occB v (homeB 8 R (v 64) 2) && !occB v (homeB 8 R (v 64) 3)) = true) := by
          rw [propext (lg_cmp_eq _ _), ush_and m14 (by omega) (fun k h0 h1 q => by simp at q; omega)]
          apply propext
          simp only [Bool.and_eq_true, Bool.not_eq_true', Bool.or_eq_true, decide_eq_true_eq]
          rw [hh 1, hh 2, hh 3]
          constructor
          · intro q; exact ⟨⟨q 1 (by decide) (by decide) (by decide), q 2 (by decide) (by decide) (by decide)⟩, q 3 (by decide) (by decide) (by decide)⟩
          · rintro ⟨⟨q1, q2⟩, q3⟩ k h0 h1 (⟨rfl | rfl⟩ | rfl) <;> assumption
        rw [em]
        refine ⟨fun q => ef false hbs (by rw [decide_eq_true q]; rfl), fun q => ⟨fun q2 => ef false hbs ?_, fun q2 => hu0 (fun u => wp_X8_castlings_180 D post (cS S o c) (o 10) (o p) (iI (homeB 8 R (v 64) 0)) (iI (bI bs)) (o p) (iI (homeB 8 R (v 64) 0) + 3) (iI u)) fun u hu => ?_⟩⟩
        · have : (!occB v (homeB 8 R (v 64) 1) && !occB v (homeB 8 R (v 64) 2) && !occB v (homeB 8 R (v 64) 3)) = false := by simpa using q2
          rw [this]; simp
        · unfold wp_X8_castlings_180 wp_X8_castlings_224
          rw [z2]
          refine atk 3 u (by decide) (by decide) hu (fun a3 => ?_) (fun P hP a3 => ?_)
          · refine ⟨fun z => absurd (by decide) z, fun _ => ?_⟩
            rw [s5]
            refine hu0 (fun u => wp_X8_castlings_208 D post (cS S o c) (o 10) (iI (homeB 8 R (v 64) 0)) (iI (bI bs)) (o p) (iI (homeB 8 R (v 64) 0) + 2) (iI u)) fun u hu => ?_
            unfold wp_X8_castlings_208 wp_X8_castlings_224
            rw [z2]
            refine atk 2 u (by decide) (by decide) hu (fun a2 => ?_) (fun P hP a2 => ?_)
            · refine ⟨fun z => absurd (by decide) z, fun _ => ef true hbs ?_⟩
              rw [decide_eq_false q, q2, a3, a2]; rfl
            · refine ⟨fun _ => ef false hbs ?_, fun z => absurd ((lg_cmp_eq _ _).mp z) hP⟩
              rw [a2]; simp
          · refine ⟨fun _ => ef false hbs ?_, fun z => absurd ((lg_cmp_eq _ _).mp z) hP⟩
            rw [a3]; simp
      have at57 : wp_X8_castlings_57 D post (cS S o c) (o 10) (o p) (iI (heldB (v 65) (v 64))) (iI (homeB 8 R (v 64) 0)) := by
        unfold wp_X8_castlings_57 wp_X8_castlings_140
        rw [b1, z2, s5]
        have em : (lg_cmp (jlushr (zS (occB v)) (iI (homeB 8 R (v 64) 0)) &&& (96 : Int64)) 0 = 0) = ((!occB v (homeB 8 R (v 64) 5) && !occB v (homeB 8 R (v 64) 6)) = true) := by
          rw [propext (lg_cmp_eq _ _), ush_and m96 (by omega) (fun k h0 h1 q => by simp at q; omega)]
          apply propext
          simp only [Bool.and_eq_true, Bool.not_eq_true', Bool.or_eq_true, decide_eq_true_eq]
          rw [hh 5, hh 6]
          constructor
          · intro q; exact ⟨q 5 (by decide) (by decide) (by decide), q 6 (by decide) (by decide) (by decide)⟩
          · rintro ⟨q1, q2⟩ k h0 h1 (rfl | rfl) <;> assumption
        rw [em]
        refine ⟨fun q => at141 false (by rw [decide_eq_true q]; rfl), fun q => ⟨fun q2 => at141 false ?_, fun q2 => hu0 (fun u => wp_X8_castlings_95 D post (cS S o c) (o 10) (o p) (iI (heldB (v 65) (v 64))) (iI (homeB 8 R (v 64) 0)) (o p) (iI (homeB 8 R (v 64) 0) + 5) (iI u)) fun u hu => ?_⟩⟩
        · have : (!occB v (homeB 8 R (v 64) 5) && !occB v (homeB 8 R (v 64) 6)) = false := by simpa using q2
          rw [this]; simp
        · unfold wp_X8_castlings_95 wp_X8_castlings_140
          rw [z2]
          refine atk 5 u (by decide) (by decide) hu (fun a5 => ?_) (fun P hP a5 => ?_)
          · refine ⟨fun z => absurd (by decide) z, fun _ => ?_⟩
            rw [s5]
            refine hu0 (fun u => wp_X8_castlings_124 D post (cS S o c) (o 10) (o p) (iI (heldB (v 65) (v 64))) (iI (homeB 8 R (v 64) 0)) (o p) (iI (homeB 8 R (v 64) 0) + 6) (iI u)) fun u hu => ?_
            unfold wp_X8_castlings_124 wp_X8_castlings_140
            rw [z2]
            refine atk 6 u (by decide) (by decide) hu (fun a6 => ?_) (fun P hP a6 => ?_)
            · refine ⟨fun z => absurd (by decide) z, fun _ => at141 true ?_⟩
              rw [decide_eq_false q, q2, a5, a6]; rfl
            · refine ⟨fun _ => at141 false ?_, fun z => absurd ((lg_cmp_eq _ _).mp z) hP⟩
              rw [a6]; simp
          · refine ⟨fun _ => at141 false ?_, fun z => absurd ((lg_cmp_eq _ _).mp z) hP⟩
            rw [a5]; simp
      refine ⟨fun q => ⟨o 1, c_r h rfl, (c_m h (by decide)).mpr trivial, c_k h (by decide), ?_⟩, fun q => ?_⟩
      · rw [sz, show (8 : Int32) = iI 8 from rfl, iI_sub, show 8 * R - 8 = homeB 8 R (v 64) 0 by rw [q]; unfold homeB; simp; omega]
        exact at57
      · rw [show (0 : Int32) = iI (homeB 8 R (v 64) 0) by rw [show v 64 = 1 by omega]; unfold homeB; simp; rfl]
        exact at57
    · have : chkB F R v (v 64) = true := by simpa using g2
      funext b; unfold castC; rw [this]; simp
  unfold wp_X8_castlings wp_X8_castlings_0
  rw [s5, s6, hz, r2, r3]
  have hhe : heldB (v 65) (v 64) = if v 64 = 1 then v 65 % 4 else v 65 / 4 := rfl
  rw [hhe] at at22
  rcases hs with e | e
  · rw [if_neg (by omega)] at at22
    exact ⟨fun _ => at22, fun z => absurd e z⟩
  · rw [if_pos e] at at22
    exact ⟨fun z => by omega, fun _ => at22⟩
end
