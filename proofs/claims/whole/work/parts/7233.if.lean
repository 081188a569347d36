section
variable {F R N kd p0 v : Int} {t t' : eT} {D D' : Int → Int → Int → Bool}
theorem of_parts {its w b p : Int} (h : ofEnd F kd its w b p = true) : w ≠ b ∧ w ≠ p ∧ b ≠ p ∧ nearB F w b = false ∧ (its = 1 ∨ strkB F kd p b w = false) := by
  unfold ofEnd at h
  simp only [Bool.and_eq_true, Bool.or_eq_true, Bool.not_eq_true', decide_eq_true_eq, decide_eq_false_iff_not] at h
  obtain ⟨⟨⟨⟨a, b⟩, c⟩, d⟩, e⟩ := h
  exact ⟨a, b, c, d, e⟩
theorem IQ.congD (h : IQ F N kd p0 v t D) (hD : ∀ j x f, 0 ≤ x → x < N → (f = 0 ∨ f = 1 ∨ f = 2) → D' j x f = D j x f) (h1 : ∀ j a f, 0 ≤ j → j < p0 → D' j a f = true) (h2 : ∀ j a f, D' j a f = true → j ≤ p0) : IQ F N kd p0 v t D' := by
  obtain ⟨qa, ql, qw, qb, qp⟩ := h
  refine ⟨qa, ql, fun w b p hq => ⟨(qw w b p hq).1, fun z w' p' hs j j0 j1 j2 => ?_⟩, ?_, qp.1, qp.2.1, qp.2.2.1, h1, h2⟩
  · have := (qw w b p hq).2 z w' p' hs j j0 j1 j2
    rw [hD]
    · exact this
    · split; exact hq.2.2.1; exact hq.1.1
    · split; exact hq.2.2.2; exact hq.1.2
    · split; exact .inr (.inl rfl); exact .inl rfl
  · refine qb.keep (fun _ _ _ _ => rfl) (fun _ _ _ _ _ => rfl) rfl fun w b p u hq ho hl => ?_
    refine dn_eq qa.1.1 (Int.le_refl _) (fun j j0 j1 => ⟨rfl, fun _ => hD j b 2 hq.2.1.1 hq.2.1.2 (.inr (.inr rfl))⟩) (fun j j0 => ?_)
    cases c : D' j b 2
    · rfl
    · have := h2 j b 2 c
      have := qp.1.2
      omega
theorem win_qu0 {i v j : Int} (hj : j < t.2) : (winE kd i v t).1 1 j = t.1 1 j := by
  unfold winE
  split
  · unfold setE
    dsimp only
    rw [up_ne _ (Or.inr (by omega)), up_ne _ (Or.inl (by decide))]
  · rfl
theorem reach_qu0 {i v j : Int} (hj : j < t.2) : (reachE kd i v t).1 1 j = t.1 1 j := by
  unfold reachE
  split
  · exact win_qu0 hj
  · rfl
theorem lose_qu0 {i v j : Int} (hj : j < t.2) : (loseE kd i v t).1 1 j = t.1 1 j := by
  unfold loseE
  split
  · split
    · rw [win_qu0 (t := (up t.1 2 i (t.1 2 i - 1), t.2)) hj]
      show (up t.1 2 i (t.1 2 i - 1)) 1 j = t.1 1 j
      exact congrFun (up_r _ _ _ rfl) j
    · show (up t.1 2 i (t.1 2 i - 1)) 1 j = t.1 1 j
      exact congrFun (up_r _ _ _ rfl) j
  · rfl
def Dk (p0 k : Int) : Int → Int → Int → Bool := fun j x _ => decide (j < p0) || (decide (j = p0) && decide (x < k))
theorem Dk_iff {k j x f : Int} : Dk p0 k j x f = true ↔ j < p0 ∨ (j = p0 ∧ x < k) := by
  unfold Dk
  simp only [Bool.or_eq_true, Bool.and_eq_true, decide_eq_true_eq]
/-- one square's step back -/
theorem back_ok (bb : BFR F R) (h25 : F * R ≤ 25) (hk : 2 ≤ kd ∧ kd ≤ 5) {its w b p k : Int} (hi : its = 0 ∨ its = 1) (h : IQ F (F * R) kd p0 v t (Dk p0 k)) (hs : t.1 1 p0 = eIx its w b p) (hq : in3 (F * R) w b p) (hk0 : 0 ≤ k ∧ k < F * R) :
    IQ F (F * R) kd p0 v (backAt F R kd its w b p v k t) (Dk p0 (k + 1)) ∧ (backAt F R kd its w b p v k t).1 1 p0 = eIx its w b p := by
  have hn := FR_r bb.1.1 bb.1.2 bb.2.1 bb.2.2
  have hN : 0 ≤ F * R ∧ F * R ≤ 25 := by omega
  have pos := (h.1.2.1 p0 h.2.2.2.2.1.1 h.2.2.2.2.1.2).2
  rw [hs] at pos
  have nf : ∀ P : Prop, [Decidable P] → ¬ ((if P then (1 : Int) else 0) = 2) := fun P _ => by split <;> decide
  -- the three edges together
  have join : ∀ t', IQ F (F * R) kd p0 v t' (Dadd (Dadd (Dadd (Dk p0 k) p0 k 2) p0 k 0) p0 k 1) → IQ F (F * R) kd p0 v t' (Dk p0 (k + 1)) := by
    intro t' h'
    refine h'.congD (fun j x f x0 x1 hf => ?_) (fun j a f j0 j1 => Dk_iff.mpr (.inl j1)) (fun j a f z => by have := Dk_iff.mp z; omega)
    apply Bool.eq_iff_iff.mpr
    rw [Dadd_iff, Dadd_iff, Dadd_iff, Dk_iff, Dk_iff]
    omega
  rcases hi with rfl | rfl
  · -- Black to move there: White's steps back
    have ho : ofEnd F kd 1 w b p = true := by
      cases o : ofEnd F kd 1 w b p
      · have := (h.2.1 w b p hq).1.2.mpr o
        have this : valE kd t.1 (eIx 0 w b p) = -2 := this
        omega
      · rfl
    obtain ⟨o1, o2, o3, o4, -⟩ := of_parts ho
    have s1 := skip_ok h (a := k) (f := 2) (fun w2 b2 p2 w' p' _ _ _ _ z => nf _ z.2) (fun w2 b2 p2 u hq2 _ hl2 e _ => by
      rw [hs] at e
      have := (eI_inj hN.2 (.inl rfl) (.inr rfl) hq ⟨hq2.1, hl2.1, hq2.2.2⟩ e).1
      omega)
    have bk : backAt F R kd 0 w b p v k t = (if pcS F R kd w b p k = true then reachE kd (eIx 1 w b k) v (if kgS F R w k = true then reachE kd (eIx 1 k b p) v t else t) else (if kgS F R w k = true then reachE kd (eIx 1 k b p) v t else t)) := by
      unfold backAt
      simp
    rw [bk]
    have s2 : IQ F (F * R) kd p0 v (if kgS F R w k = true then reachE kd (eIx 1 k b p) v t else t) (Dadd (Dadd (Dk p0 k) p0 k 2) p0 k 0) ∧ (if kgS F R w k = true then reachE kd (eIx 1 k b p) v t else t).1 1 p0 = eIx 0 w b p := by
      by_cases c : kgS F R w k = true
      · rw [if_pos c]
        have c' := c
        rw [kg_iff bb hk0] at c
        simp only [Bool.and_eq_true, Bool.not_eq_true', decide_eq_false_iff_not] at c
        refine ⟨reach_ok hN s1 hs hq ⟨hk0, hq.2.1, hq.2.2⟩ ⟨hq.1, hq.2.2, .inl ⟨rfl, by rw [near_symm]; exact c.1, fun z => c.2 z.symm, o2⟩⟩ (by rw [if_neg (fun z => c.2 z.symm)]) (by rw [if_neg (fun z => c.2 z.symm)]), ?_⟩
        rw [reach_qu0 h.2.2.2.2.1.2]; exact hs
      · rw [if_neg c]
        refine ⟨skip_ok s1 (fun w2 b2 p2 w' p' hq2 _ hs2 e z => ?_) (fun _ _ _ _ _ _ _ _ z => by omega), hs⟩
        rw [hs] at e
        obtain ⟨-, e1, e2, e3⟩ := eI_inj hN.2 (.inl rfl) (.inl rfl) hq (sW_in hq2.2.1 hs2) e
        subst e1; subst e2; subst e3
        by_cases y : w = w2
        · rw [if_pos y, if_pos y] at z; omega
        · rw [if_neg y, if_neg y] at z
          rcases hs2.2.2 with x | x
          · apply c
            rw [kg_iff bb hk0, ← z.1, near_symm, x.2.1, decide_eq_false (fun q => y q.symm)]
            rfl
          · exact y x.1
    generalize (if kgS F R w k = true then reachE kd (eIx 1 k b p) v t else t) = t1 at s2 ⊢
    obtain ⟨s2, hs1⟩ := s2
    by_cases c : pcS F R kd w b p k = true
    · rw [if_pos c]
      have c' := c
      rw [pc_symm bb hk hq.2.2 hk0, pc_iff bb hk hk0 hq.2.2, Bool.and_eq_true] at c'
      refine ⟨join _ (reach_ok hN s2 hs1 hq ⟨hq.1, hq.2.1, hk0⟩ ⟨hq.1, hq.2.2, .inr ⟨rfl, fun z => o2 z.symm, fun z => o3 z.symm, c'.1, c'.2⟩⟩ (by rw [if_pos rfl]) (by rw [if_pos rfl])), ?_⟩
      rw [reach_qu0 s2.2.2.2.2.1.2]; exact hs1
    · rw [if_neg c]
      refine ⟨join _ (skip_ok s2 (fun w2 b2 p2 w' p' hq2 _ hs2 e z => ?_) (fun _ _ _ _ _ _ _ _ z => by omega)), hs1⟩
      rw [hs1] at e
      obtain ⟨-, e1, e2, e3⟩ := eI_inj hN.2 (.inl rfl) (.inl rfl) hq (sW_in hq2.2.1 hs2) e
      subst e1; subst e2; subst e3
      by_cases y : w = w2
      · rw [if_pos y, if_pos y] at z
        rcases hs2.2.2 with x | x
        · exact x.2.2.1 y
        · apply c
          rw [pc_symm bb hk hq.2.2 hk0, pc_iff bb hk hk0 hq.2.2, ← z.1, y, x.2.2.2.1, x.2.2.2.2]
          rfl
      · rw [if_neg y, if_neg y] at z; omega
  · -- White to move there: Black's steps back
    have ho : ofEnd F kd 0 w b p = true := by
      cases o : ofEnd F kd 0 w b p
      · have := (h.2.1 w b p hq).1.1.mpr o
        have this : valE kd t.1 (eIx 1 w b p) = -2 := this
        omega
      · rfl
    obtain ⟨o1, o2, o3, o4, o5⟩ := of_parts ho
    have o5 : strkB F kd p b w = false := by rcases o5 with z | z; omega; exact z
    have bk : backAt F R kd 1 w b p v k t = if kgS F R b k = true then loseE kd (eIx 0 w k p) v t else t := by
      unfold backAt
      simp
    rw [bk]
    have s1 : IQ F (F * R) kd p0 v (if kgS F R b k = true then loseE kd (eIx 0 w k p) v t else t) (Dadd (Dk p0 k) p0 k 2) ∧ (if kgS F R b k = true then loseE kd (eIx 0 w k p) v t else t).1 1 p0 = eIx 1 w b p := by
      by_cases c : kgS F R b k = true
      · rw [if_pos c]
        rw [kg_iff bb hk0] at c
        simp only [Bool.and_eq_true, Bool.not_eq_true', decide_eq_false_iff_not] at c
        refine ⟨lose_ok hN h hs hq hk0 ⟨hq.2.1, fun z => c.2 z.symm, by rw [near_symm]; exact c.1, o4, o3, o5⟩ ?_, ?_⟩
        · cases z : Dk p0 k p0 k 2
          · rfl
          · have := Dk_iff.mp z; omega
        · rw [lose_qu0 h.2.2.2.2.1.2]; exact hs
      · rw [if_neg c]
        refine ⟨skip_ok h (fun w2 b2 p2 w' p' _ _ _ _ z => nf _ z.2) (fun w2 b2 p2 u hq2 _ hl2 e z => ?_), hs⟩
        rw [hs] at e
        obtain ⟨-, e1, e2, e3⟩ := eI_inj hN.2 (.inr rfl) (.inr rfl) hq ⟨hq2.1, hl2.1, hq2.2.2⟩ e
        subst e1; subst e2; subst e3
        apply c
        rw [kg_iff bb hk0, ← z.1, near_symm, hl2.2.2.1, decide_eq_false (fun q => hl2.2.1 q.symm)]
        rfl
    generalize (if kgS F R b k = true then loseE kd (eIx 0 w k p) v t else t) = t1 at s1 ⊢
    obtain ⟨s1, hs1⟩ := s1
    have sk : ∀ (D : Int → Int → Int → Bool) (f : Int), (f = 0 ∨ f = 1) → IQ F (F * R) kd p0 v t1 D → IQ F (F * R) kd p0 v t1 (Dadd D p0 k f) := by
      intro D f hf hD
      refine skip_ok hD (fun w2 b2 p2 w' p' hq2 _ hs2 e _ => ?_) (fun _ _ _ _ _ _ _ _ z => by omega)
      rw [hs1] at e
      have := (eI_inj hN.2 (.inr rfl) (.inl rfl) hq (sW_in hq2.2.1 hs2) e).1
      omega
    exact ⟨join _ (sk _ 1 (.inr rfl) (sk _ 0 (.inl rfl) s1)), hs1⟩
theorem backs_ok (bb : BFR F R) (h25 : F * R ≤ 25) (hk : 2 ≤ kd ∧ kd ≤ 5) {its w b p : Int} (hi : its = 0 ∨ its = 1) (hq : in3 (F * R) w b p) : ∀ (d : Nat) (k : Int) (t : eT), 0 ≤ k → k + d = F * R → IQ F (F * R) kd p0 v t (Dk p0 k) → t.1 1 p0 = eIx its w b p →
    IQ F (F * R) kd p0 v (runL (backAt F R kd its w b p v) k d t) (Dk p0 (F * R))
  | 0, k, t, k0, k1, h, hs => by
    have e : k = F * R := by omega
    rw [e] at h; exact h
  | d + 1, k, t, k0, k1, h, hs => by
    obtain ⟨a, b'⟩ := back_ok bb h25 hk hi h hs hq ⟨k0, by omega⟩
    exact backs_ok bb h25 hk hi hq d (k + 1) _ (by omega) (by omega) a b'
def Dp (p : Int) : Int → Int → Int → Bool := fun j _ _ => decide (j < p)
/-- so many decided positions have told theirs -/
def WQ (F N kd p : Int) (t : eT) : Prop := QA N kd t ∧ QL F N kd t ∧ QW F N kd t (Dp p) ∧ QB F N kd t (Dp p) ∧ (p < t.2 → ∀ j, 0 ≤ j → j < t.2 → valE kd t.1 (t.1 1 j) ≤ valE kd t.1 (t.1 1 p) + 1)
theorem WQ.step (bb : BFR F R) (h25 : F * R ≤ 25) (hk : 2 ≤ kd ∧ kd ≤ 5) {p : Int} (hp : 0 ≤ p ∧ p < t.2) (h : WQ F (F * R) kd p t) : WQ F (F * R) kd (p + 1) (backE F R kd (t.1 1 p) t) := by
  obtain ⟨qa, ql, qw, qb, bd⟩ := h
  have hn := FR_r bb.1.1 bb.1.2 bb.2.1 bb.2.2
  obtain ⟨vx, pos⟩ := qa.2.1 p hp.1 hp.2
  obtain ⟨ei, e01, e3⟩ := eI_of vx
  have i0 : IQ F (F * R) kd p (valE kd t.1 (t.1 1 p) + 1) t (Dk p 0) := by
    have i1 : IQ F (F * R) kd p (valE kd t.1 (t.1 1 p) + 1) t (Dp p) := ⟨qa, ql, qw, qb, hp, by omega, bd hp.2, fun j a f j0 j1 => decide_eq_true j1, fun j a f z => by have := of_decide_eq_true z; omega⟩
    refine i1.congD (fun j x f x0 x1 _ => ?_) (fun j a f j0 j1 => Dk_iff.mpr (.inl j1)) (fun j a f z => by have := Dk_iff.mp z; omega)
    apply Bool.eq_iff_iff.mpr
    rw [Dk_iff]
    unfold Dp
    rw [decide_eq_true_eq]
    omega
  have r := backs_ok bb h25 hk e01 e3 (F * R).toNat 0 t (by omega) (by omega) i0 ei
  have er : backE F R kd (t.1 1 p) t = runL (backAt F R kd (dIt (t.1 1 p)) (dW (t.1 1 p)) (dB (t.1 1 p)) (dP (t.1 1 p)) (valE kd t.1 (t.1 1 p) + 1)) 0 (F * R).toNat t := rfl
  rw [← er] at r
  generalize backE F R kd (t.1 1 p) t = t' at r ⊢
  generalize valE kd t.1 (t.1 1 p) + 1 = v at r
  obtain ⟨ra, rl, rw', rb, rp⟩ := r
  have agree : ∀ j x f, 0 ≤ x → x < F * R → Dp (p + 1) j x f = Dk p (F * R) j x f := by
    intro j x f x0 x1
    apply Bool.eq_iff_iff.mpr
    rw [Dk_iff]
    unfold Dp
    rw [decide_eq_true_eq]
    omega
  refine ⟨ra, rl, fun w b q hq => ⟨(rw' w b q hq).1, fun z w' p' hs j j0 j1 j2 => ?_⟩, ?_, fun l j j0 j1 => ?_⟩
  · rw [agree]
    · exact (rw' w b q hq).2 z w' p' hs j j0 j1 j2
    · split; exact hq.2.2.1; exact hq.1.1
    · split; exact hq.2.2.2; exact hq.1.2
  · refine rb.keep (fun _ _ _ _ => rfl) (fun _ _ _ _ _ => rfl) rfl fun w b q u hq ho hl => ?_
    refine dn_eq ra.1.1 (Int.le_refl _) (fun j j0 j1 => ⟨rfl, fun _ => agree j b 2 hq.2.1.1 hq.2.1.2⟩) (fun j j0 => ?_)
    unfold Dp
    rw [decide_eq_false_iff_not]
    have := rp.1.2
    omega
  · have g1 := rp.2.2.1 j j0 j1
    have g2 := (ra.2.2.1 p (p + 1) hp.1 (by omega) l).2
    have g3 := rp.2.1
    omega
theorem work_ok (bb : BFR F R) (h25 : F * R ≤ 25) (hk : 2 ≤ kd ∧ kd ≤ 5) : ∀ (f : Nat) (i : Int) (t : eT), 0 ≤ i → i + f = 31251 → WQ F (F * R) kd i t → ∃ p, WQ F (F * R) kd p (workL F R kd f i t) ∧ (workL F R kd f i t).2 ≤ p
  | 0, i, t, i0, i1, h => by
    refine ⟨i, h, ?_⟩
    have := h.1.1
    show t.2 ≤ i
    omega
  | f + 1, i, t, i0, i1, h => by
    rw [show workL F R kd (f + 1) i t = if t.2 ≤ i ∨ 31250 ≤ i then t else workL F R kd f (i + 1) (backE F R kd (t.1 1 i) t) from rfl]
    have := h.1.1
    by_cases c : t.2 ≤ i ∨ 31250 ≤ i
    · rw [if_pos c]; exact ⟨i, h, by omega⟩
    · rw [if_neg c]
      exact work_ok bb h25 hk f (i + 1) _ (by omega) (by omega) (h.step bb h25 hk ⟨i0, by omega⟩)
/-- THE CLASS'S TABLE -/
theorem WQ.fin (hN : 0 ≤ N ∧ N ≤ 25) {p : Int} (h : WQ F N kd p t) (hp : t.2 ≤ p) : LQ F N kd (VW kd t) (VB kd t) := by
  obtain ⟨qa, ql, qw, qb, -⟩ := h
  intro w b q hw hb hq
  have h3 : in3 N w b q := ⟨hw, hb, hq⟩
  obtain ⟨⟨l1, l2⟩, l3, l4⟩ := ql w b q h3
  have mvS : cpB F w b q = false → mvB F N kd w b q = sumL (fun u => if lgB F kd w b q u = true then 1 else 0) 0 N.toNat := fun z => by unfold mvB; rw [if_neg (by rw [z]; simp)]
  have noleg : cpB F w b q = false → mvB F N kd w b q = 0 → ∀ u, ¬ legE F N kd w b q u := fun z y u hu => by
    have := sum_pos (p := fun u => lgB F kd w b q u) ((lg_iff hu.1).mpr hu) N.toNat 0 hu.1.1 (by have := hu.1.2; omega)
    rw [mvS z] at y
    omega
  have capF : cpB F w b q = false → ¬ capE F w b q := fun z y => by rw [cp_iff.mpr y] at z; exact nomatch z
  have legal : VB kd t w b q ≠ -2 → ofEnd F kd 1 w b q = true := fun z => by
    cases o : ofEnd F kd 1 w b q
    · exact absurd (l2.mpr o) z
    · rfl
  refine ⟨⟨l1, l2, l3, l4⟩, ⟨(qw w b q h3).1, fun z w' p' hs => ?_⟩, fun z => ?_, fun z => ?_⟩
  · by_cases y : 0 ≤ VB kd t w' b p'
    · exfalso
      have s3 := sW_in hb hs
      obtain ⟨j, j0, j1, j2⟩ := qa.2.2.2.1 _ (VIx.of hN.2 (.inl rfl) s3.1 s3.2.1 s3.2.2) y
      have := (qw w b q h3).2 z w' p' hs j j0 j1 j2
      unfold Dp at this
      rw [decide_eq_false_iff_not] at this
      omega
    · omega
  · have ho := legal (by omega)
    rcases (qb w b q h3 ho).2.1 z with ⟨y1, y2, y3⟩ | ⟨y1, y2, y3, u, y4, y5⟩
    · have cf : cpB F w b q = false := by
        cases c : cpB F w b q
        · rfl
        · have : mvB F N kd w b q = 100 := by unfold mvB; rw [if_pos c]
          omega
      exact ⟨capF cf, fun t ht => absurd ht (noleg cf y1 t), fun _ => y3, fun x => by omega⟩
    · exact ⟨capF y1, fun u hu => (y3 u hu).1, fun x => by omega, fun _ => ⟨u, y4, y5⟩⟩
  · have ho := legal (by omega)
    obtain ⟨c1, -, c3⟩ := qb w b q h3 ho
    obtain ⟨d1, d2⟩ := c3 z
    cases cf : cpB F w b q
    · right
      by_cases m0 : mvB F N kd w b q = 0
      · right
        refine ⟨noleg cf m0, ?_⟩
        cases s : strkB F kd q b w
        · rfl
        · exact absurd ⟨m0, s⟩ d1
      · left
        by_cases ex : ∃ u, legE F N kd w b q u ∧ VW kd t w u q < 0
        · exact ex
        · exfalso
          have g := sum_01 (p := fun u => lgB F kd w b q u) N.toNat 0
          rw [← mvS cf] at g
          have g2 := d2 (by omega)
          have : dnS F N kd w b q t (Dp p) = mvB F N kd w b q := by
            rw [mvS cf]
            unfold dnS
            refine sumL_congr _ _ fun u u0 u1 => ?_
            cases cl : lgB F kd w b q u
            · rfl
            · have hl := (lg_iff (N := N) ⟨u0, by omega⟩).mp cl
              have vu : 0 ≤ VW kd t w u q := by
                by_cases y : VW kd t w u q < 0
                · exact absurd ⟨u, hl, y⟩ ex
                · omega
              obtain ⟨j, j0, j1, j2⟩ := qa.2.2.2.1 _ (VIx.of hN.2 (.inr rfl) hw hl.1 hq) vu
              have : dnB t (Dp p) (eIx 1 w u q) b = true := by
                rw [dn_iff qa.1.1]
                exact ⟨j, j0, j1, j2, decide_eq_true (by omega)⟩
              rw [this]; rfl
          omega
    · exact .inl (cp_iff.mp cf)
end
