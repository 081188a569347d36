section
variable {F R N kd : Int} {t : eT} {E Z Z' : Int → Int}
/-- the halves of the tables lie the other way round -/
def swI (i : Int) : Int := if 15625 ≤ i then i - 15625 else i + 15625
theorem sw_vl {its w b p : Int} (hi : its = 0 ∨ its = 1) (hN : N ≤ 25) (h : in3 N w b p) : 31250 * (kd - 2) + swI (eIx its w b p) = vlIx kd (1 - its) w b p := by
  obtain ⟨h1, h2, h3⟩ := h
  unfold swI vlIx eIx
  rcases hi with rfl | rfl
  · rw [if_pos rfl]
    rw [if_neg (by omega)]; omega
  · rw [if_neg (show ¬ (1 : Int) = 0 by decide)]
    rw [if_pos (by omega)]; omega
theorem sw_r {i : Int} (h : 0 ≤ i ∧ i < 31250) : 0 ≤ swI i ∧ swI i < 31250 ∧ swI (swI i) = i := by
  unfold swI
  by_cases c : 15625 ≤ i
  · rw [if_pos c, if_neg (by omega)]; omega
  · rw [if_neg c, if_pos (by omega)]; omega
/-- what the two tables hold at a place -/
abbrev TabR (N kd : Int) (t : eT) (T : Int → Int) : Prop := (∀ i, VIx N i → valE kd t.1 i = T (31250 * (kd - 2) + swI i)) ∧ ∀ i, 0 ≤ i → i < 31250 → ¬ VIx N i → T (31250 * (kd - 2) + swI i) = -2
theorem tab_R (hN : 0 ≤ N ∧ N ≤ 25) (h : LQ F N kd (VW kd t) (VB kd t)) (Z : Int → Int) : TabR N kd t (tabE F N kd Z) := by
  have h2 := tab_LQ (F := F) (kd := kd) hN Z
  refine ⟨fun i hi => ?_, fun i i0 i1 hi => ?_⟩
  · obtain ⟨e1, e2, e3⟩ := eI_of hi
    have u := h.uniq h2 _ _ _ e3.1 e3.2.1 e3.2.2
    have s := sw_vl (kd := kd) e2 hN.2 e3
    rw [← e1] at s
    rw [s]
    rcases e2 with e2 | e2
    · rw [e2] at e1 ⊢
      have g : valE kd t.1 (eIx 0 (dW i) (dB i) (dP i)) = tabE F N kd Z (vlIx kd 1 (dW i) (dB i) (dP i)) := u.2
      rw [← e1] at g
      exact g
    · rw [e2] at e1 ⊢
      have g : valE kd t.1 (eIx 1 (dW i) (dB i) (dP i)) = tabE F N kd Z (vlIx kd 0 (dW i) (dB i) (dP i)) := u.1
      rw [← e1] at g
      exact g
  · have r := sw_r ⟨i0, i1⟩
    rw [tab_out hN Z, if_pos (by omega)]
    intro its w b p h1 hq e
    apply hi
    have s := sw_vl (kd := kd) (its := 1 - its) (by omega) hN.2 hq
    rw [show 1 - (1 - its) = its by omega, ← e] at s
    have e4 : swI (eIx (1 - its) w b p) = swI i := by omega
    have v := VIx.of hN.2 (show 1 - its = 0 ∨ 1 - its = 1 by omega) hq.1 hq.2.1 hq.2.2
    have e5 : eIx (1 - its) w b p = i := by rw [← (sw_r v.1).2.2, e4, r.2.2]
    rw [← e5]; exact v
/-- a solved ending's table is one, whatever was there before -/
theorem tab_same (hN : 0 ≤ N ∧ N ≤ 25) (Z Z' : Int → Int) {i : Int} (hi : 31250 * (kd - 2) ≤ i ∧ i < 31250 * (kd - 2) + 31250) : tabE F N kd Z i = tabE F N kd Z' i := by
  by_cases c : ∃ its w b p, (its = 0 ∨ its = 1) ∧ in3 N w b p ∧ i = vlIx kd its w b p
  · obtain ⟨its, w, b, p, h1, hq, e⟩ := c
    have u := (tab_LQ (F := F) (kd := kd) hN Z).uniq (tab_LQ (F := F) (kd := kd) hN Z') w b p hq.1 hq.2.1 hq.2.2
    rw [e]
    rcases h1 with rfl | rfl
    · exact u.1
    · exact u.2
  · have o : ∀ its w b p, (its = 0 ∨ its = 1) → in3 N w b p → i ≠ vlIx kd its w b p := fun its w b p h1 hq e => c ⟨its, w, b, p, h1, hq, e⟩
    rw [tab_out hN Z o, tab_out hN Z' o, if_pos hi, if_pos hi]
theorem sumL_sh (f : Int → Int) (c : Int) : ∀ (d : Nat) (k : Int), sumL f (k + c) d = sumL (fun j => f (j + c)) k d
  | 0, k => rfl
  | d + 1, k => by
    unfold sumL
    rw [show k + c + 1 = k + 1 + c by omega, sumL_sh f c d (k + 1)]
/-- as many are won -/
theorem won_eq {T : Int → Int} (h : TabR N kd t T) : nmE N kd t.1 = wonN kd T := by
  have tm : ∀ i, 0 ≤ i → i < 31250 → (if (vlB N i && decide (0 ≤ valE kd t.1 i)) = true then (1 : Int) else 0) = if 0 ≤ T (31250 * (kd - 2) + swI i) then 1 else 0 := by
    intro i i0 i1
    by_cases c : VIx N i
    · rw [vlB_iff.mpr c, h.1 i c, Bool.true_and]
      by_cases d : 0 ≤ T (31250 * (kd - 2) + swI i)
      · rw [decide_eq_true d, if_pos rfl, if_pos d]
      · rw [decide_eq_false d, if_neg d]; rfl
    · rw [h.2 i i0 i1 c, if_neg (by omega : ¬ (0 : Int) ≤ -2)]
      have : vlB N i = false := by cases q : vlB N i; rfl; exact absurd (vlB_iff.mp q) c
      rw [this]; rfl
  have gen : ∀ (f g : Int → Int) (n : Nat), (∀ i, 0 ≤ i → i < ((n + n : Nat) : Int) → f i = g (if (n : Int) ≤ i then i - n else i + n)) → sumL f 0 (n + n) = sumL g 0 (n + n) := by
    intro f g n hf
    rw [sumL_split, sumL_split, sumL_sh f (n : Int) n 0, sumL_sh g (n : Int) n 0]
    have hA : sumL f 0 n = sumL (fun j => g (j + n)) 0 n := sumL_congr _ _ fun j j0 j1 => by
      rw [hf j j0 (by omega), if_neg (by omega)]
    have hB : sumL (fun j => f (j + n)) 0 n = sumL g 0 n := sumL_congr _ _ fun j j0 j1 => by
      rw [hf (j + n) (by omega) (by omega), if_pos (by omega), show j + (n : Int) - n = j by omega]
    rw [hA, hB, Int.add_comm]
  exact gen _ _ 15625 fun i i0 i1 => by
    rw [tm i i0 (by omega)]
    have e : swI i = (if ((15625 : Nat) : Int) ≤ i then i - ((15625 : Nat) : Int) else i + ((15625 : Nat) : Int)) := rfl
    rw [e]
/-- the greatest of a table -/
theorem lng_spec (kd : Int) (T : Int → Int) : ∀ (d : Nat) (most i : Int), most ≤ lngL kd T most i d ∧ (∀ j, i ≤ j → j < i + d → T (31250 * (kd - 2) + j) ≤ lngL kd T most i d) ∧ (lngL kd T most i d = most ∨ ∃ j, i ≤ j ∧ j < i + d ∧ T (31250 * (kd - 2) + j) = lngL kd T most i d)
  | 0, most, i => ⟨Int.le_refl _, fun j h1 h2 => by omega, .inl rfl⟩
  | d + 1, most, i => by
    rw [show lngL kd T most i (d + 1) = lngL kd T (if T (31250 * (kd - 2) + i) ≤ most then most else T (31250 * (kd - 2) + i)) (i + 1) d from rfl]
    have hx : ∃ x, x = (if T (31250 * (kd - 2) + i) ≤ most then most else T (31250 * (kd - 2) + i)) ∧ most ≤ x ∧ T (31250 * (kd - 2) + i) ≤ x ∧ (x = most ∨ x = T (31250 * (kd - 2) + i)) := ⟨_, rfl, by split <;> omega, by split <;> omega, by split; exact .inl rfl; exact .inr rfl⟩
    obtain ⟨x, ex, x1, x2, x3⟩ := hx
    rw [← ex]
    obtain ⟨a, b, c⟩ := lng_spec kd T d x (i + 1)
    refine ⟨Int.le_trans x1 a, fun j h1 h2 => ?_, ?_⟩
    · by_cases e : j = i
      · rw [e]; exact Int.le_trans x2 a
      · exact b j (by clear c; omega) (by clear c; omega)
    · rcases c with c | ⟨j, c1, c2, c3⟩
      · rcases x3 with x3 | x3
        · exact .inl (c.trans x3)
        · exact .inr ⟨i, by omega, by omega, (c.trans x3).symm⟩
      · exact .inr ⟨j, by omega, by omega, c3⟩
/-- the longest win -/
theorem lng_eq {T : Int → Int} (h : TabR N kd t T) (qa : QA N kd t) : grtE kd t = lngL kd T (-1) 0 31250 := by
  obtain ⟨a, b, c⟩ := lng_spec kd T 31250 (-1) 0
  generalize lngL kd T (-1) 0 31250 = r at a b c
  have dec : ∀ i, 0 ≤ i → i < 31250 → 0 ≤ T (31250 * (kd - 2) + i) → VIx N (swI i) ∧ valE kd t.1 (swI i) = T (31250 * (kd - 2) + i) := by
    intro i i0 i1 z
    have s := sw_r ⟨i0, i1⟩
    by_cases v : VIx N (swI i)
    · have := h.1 _ v
      rw [s.2.2] at this
      exact ⟨v, this⟩
    · have := h.2 _ s.1 s.2.1 v
      rw [s.2.2] at this
      omega
  unfold grtE
  have q0 := qa.1
  by_cases z : t.2 - 1 < 0
  · rw [if_pos z]
    rcases c with c | ⟨j, c1, c2, c3⟩
    · exact c.symm
    · by_cases y : 0 ≤ r
      · obtain ⟨d1, d2⟩ := dec j c1 (by omega) (by omega)
        obtain ⟨k, k0, k1, -⟩ := qa.2.2.2.1 _ d1 (by omega)
        omega
      · omega
  · rw [if_neg z]
    obtain ⟨v1, v2⟩ := qa.2.1 (t.2 - 1) (by omega) (by omega)
    have e1 := h.1 _ v1
    have s := sw_r v1.1
    have g1 := b (swI (t.1 1 (t.2 - 1))) s.1 (by omega)
    rw [← e1] at g1
    rcases c with c | ⟨j, c1, c2, c3⟩
    · omega
    · obtain ⟨d1, d2⟩ := dec j c1 (by omega) (by omega)
      obtain ⟨k, k0, k1, k2⟩ := qa.2.2.2.1 _ d1 (by omega)
      have mono : valE kd t.1 (t.1 1 k) ≤ valE kd t.1 (t.1 1 (t.2 - 1)) := by
        by_cases l : k = t.2 - 1
        · rw [l]; exact Int.le_refl _
        · exact (qa.2.2.1 k (t.2 - 1) k0 (by omega) (by omega)).2
      rw [k2, d2] at mono
      omega
/-- SOLVED ALIKE -/
theorem sol_eq (bb : BFR F R) (h25 : F * R ≤ 25) (hk : 2 ≤ kd ∧ kd ≤ 5) (e : xM) (Z : Int → Int) : TabR (F * R) kd (solveE F R kd e) (tabE F (F * R) kd Z) ∧ (solveE F R kd e).2 = wonN kd (tabE F (F * R) kd Z) ∧ grtE kd (solveE F R kd e) = lngL kd (tabE F (F * R) kd Z) (-1) 0 31250 := by
  have hn := FR_r bb.1.1 bb.1.2 bb.2.1 bb.2.2
  have hN : 0 ≤ F * R ∧ F * R ≤ 25 := by omega
  obtain ⟨p, wq, hp⟩ := work_ok bb h25 hk 31251 0 _ (by omega) (by omega) (counted bb h25 hk e)
  have es : workL F R kd 31251 0 (forE (F * R) (countE F R kd) (forE (F * R) (markE F R kd) (e, 0))) = solveE F R kd e := rfl
  rw [es] at wq hp
  have tr := tab_R hN (wq.fin hN hp) Z
  exact ⟨tr, by rw [wq.1.2.2.2.2]; exact won_eq tr, lng_eq tr wq.1⟩
end
