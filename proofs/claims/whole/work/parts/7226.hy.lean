section
theorem runL_hit {T : Type} (J Q : T → Prop) (f : Int → T → T) : ∀ (d : Nat) (k : Int) (t : T), (∀ j t, k ≤ j → j < k + d → J t → J (f j t)) → (∀ j t, k ≤ j → j < k + d → J t → Q t → Q (f j t)) → J t →
    J (runL f k d t) ∧ (Q t → Q (runL f k d t)) ∧ ∀ q : Int, k ≤ q → q < k + d → (∀ t, J t → Q (f q t)) → Q (runL f k d t)
  | 0, k, t, _, _, h => ⟨h, fun q => q, fun q h1 h2 => by omega⟩
  | d + 1, k, t, hJ, hQ, h => by
    obtain ⟨a, b, c⟩ := runL_hit J Q f d (k + 1) (f k t) (fun j t h1 h2 => hJ j t (by omega) (by omega)) (fun j t h1 h2 => hQ j t (by omega) (by omega)) (hJ k t (by omega) (by omega) h)
    refine ⟨a, fun q => b (hQ k t (by omega) (by omega) h q), fun q h1 h2 hq => ?_⟩
    by_cases e : q = k
    · exact b (by rw [← e]; exact hq t h)
    · exact c q (by omega) (by omega) hq
/-- three loops -/
theorem run3_hit {T : Type} {N : Int} (J Q : T → Prop) (g : Int → Int → Int → T → T) (hJ : ∀ w b p : Int, (0 ≤ w ∧ w < N) → (0 ≤ b ∧ b < N) → (0 ≤ p ∧ p < N) → ∀ t, J t → J (g w b p t)) (hQ : ∀ w b p : Int, (0 ≤ w ∧ w < N) → (0 ≤ b ∧ b < N) → (0 ≤ p ∧ p < N) → ∀ t, J t → Q t → Q (g w b p t)) (t : T) (h : J t) :
    J (runL (fun w => runL (fun b => runL (fun p => g w b p) 0 N.toNat) 0 N.toNat) 0 N.toNat t) ∧
    ∀ w b p : Int, (0 ≤ w ∧ w < N) → (0 ≤ b ∧ b < N) → (0 ≤ p ∧ p < N) → (∀ t, J t → Q (g w b p t)) → Q (runL (fun w => runL (fun b => runL (fun p => g w b p) 0 N.toNat) 0 N.toNat) 0 N.toNat t) := by
  have l1 : ∀ w b : Int, (0 ≤ w ∧ w < N) → (0 ≤ b ∧ b < N) → ∀ t, J t → J (runL (fun p => g w b p) 0 N.toNat t) ∧ (Q t → Q (runL (fun p => g w b p) 0 N.toNat t)) ∧ ∀ p : Int, 0 ≤ p → p < N → (∀ t, J t → Q (g w b p t)) → Q (runL (fun p => g w b p) 0 N.toNat t) := by
    intro w b hw hb t ht
    obtain ⟨a, b', c⟩ := runL_hit J Q (fun p => g w b p) N.toNat 0 t (fun j t h1 h2 => hJ w b j hw hb (by omega) t) (fun j t h1 h2 => hQ w b j hw hb (by omega) t) ht
    exact ⟨a, b', fun p h1 h2 => c p h1 (by omega)⟩
  have l2 : ∀ w : Int, (0 ≤ w ∧ w < N) → ∀ t, J t → J (runL (fun b => runL (fun p => g w b p) 0 N.toNat) 0 N.toNat t) ∧ (Q t → Q (runL (fun b => runL (fun p => g w b p) 0 N.toNat) 0 N.toNat t)) ∧ ∀ b p : Int, (0 ≤ b ∧ b < N) → (0 ≤ p ∧ p < N) → (∀ t, J t → Q (g w b p t)) → Q (runL (fun b => runL (fun p => g w b p) 0 N.toNat) 0 N.toNat t) := by
    intro w hw t ht
    obtain ⟨a, b', c⟩ := runL_hit J Q (fun b => runL (fun p => g w b p) 0 N.toNat) N.toNat 0 t (fun j t h1 h2 ht => (l1 w j hw (by omega) t ht).1) (fun j t h1 h2 ht => (l1 w j hw (by omega) t ht).2.1) ht
    exact ⟨a, b', fun b p hb hp hq => c b hb.1 (by omega) fun t ht => (l1 w b hw hb t ht).2.2 p hp.1 hp.2 hq⟩
  obtain ⟨a, b', c⟩ := runL_hit J Q (fun w => runL (fun b => runL (fun p => g w b p) 0 N.toNat) 0 N.toNat) N.toNat 0 t (fun j t h1 h2 ht => (l2 j (by omega) t ht).1) (fun j t h1 h2 ht => (l2 j (by omega) t ht).2.1) h
  exact ⟨a, fun w b p hw hb hp hq => c w hw.1 (by omega) fun t ht => (l2 w hw t ht).2.2 b p hb hp hq⟩
variable {F N kd n : Int} {E : Int → Int}
abbrev in3 (N w b p : Int) : Prop := (0 ≤ w ∧ w < N) ∧ (0 ≤ b ∧ b < N) ∧ (0 ≤ p ∧ p < N)
theorem vl_inj {i i' w b p w' b' p' : Int} (hN : N ≤ 25) (h : in3 N w b p) (h' : in3 N w' b' p') (hi : i = 0 ∨ i = 1) (hi' : i' = 0 ∨ i' = 1) (e : vlIx kd i w b p = vlIx kd i' w' b' p') : i = i' ∧ w = w' ∧ b = b' ∧ p = p' := by
  unfold vlIx at e
  obtain ⟨⟨a1, a2⟩, ⟨b1, b2⟩, c1, c2⟩ := h
  obtain ⟨⟨d1, d2⟩, ⟨e1, e2⟩, f1, f2⟩ := h'
  rcases hi with rfl | rfl <;> rcases hi' with rfl | rfl <;> refine ⟨?_, ?_, ?_, ?_⟩ <;> omega
theorem sW_in {w b p w' p' : Int} (hb : 0 ≤ b ∧ b < N) (h : sWE F N kd w b p w' p') : in3 N w' b p' := ⟨h.1, hb, h.2.1⟩
/-- whether a position gets the value n -/
abbrev cnE (F N kd n : Int) (E : Int → Int) (w b p : Int) : Prop := (if n % 2 = 0 then decide (lstB F N kd w b p E = n) else rchB F N kd w b p (n - 1) E) = true
abbrev itE (n : Int) : Int := if n % 2 = 0 then 1 else 0
theorem cn_cong (hN : 0 ≤ N ∧ N ≤ 25) {E' : Int → Int} (h : ∀ w b p, in3 N w b p → E' (vlIx kd (1 - itE n) w b p) = E (vlIx kd (1 - itE n) w b p)) {w b p : Int} (hq : in3 N w b p) : cnE F N kd n E' w b p ↔ cnE F N kd n E w b p := by
  unfold cnE
  by_cases c : n % 2 = 0
  · rw [if_pos c, if_pos c, decide_eq_true_eq, decide_eq_true_eq]
    have e1 : itE n = 1 := if_pos c
    rw [e1] at h
    have : ∀ (d : Nat) (t most : Int) (has : Bool), 0 ≤ t → t + d ≤ N → lstL F kd w b p E' most has t d = lstL F kd w b p E most has t d := by
      intro d
      induction d with
      | zero => intro t most has _ _; rfl
      | succ d ih =>
        intro t most has t0 t1
        have e := h w t p ⟨hq.1, ⟨t0, by omega⟩, hq.2.2⟩
        rw [show (1 : Int) - 1 = 0 from rfl] at e
        unfold lstL
        rw [e, ih (t + 1) most has (by omega) (by omega), ih (t + 1) _ true (by omega) (by omega)]
    unfold lstB
    rw [this _ _ _ _ (by omega) (by omega)]
  · rw [if_neg c, if_neg c]
    have e1 : itE n = 0 := if_neg c
    rw [e1] at h
    rw [rch_iff hq.1 hq.2.2, rch_iff hq.1 hq.2.2]
    constructor
    · rintro ⟨w', p', hs, e⟩
      exact ⟨w', p', hs, by rw [← e]; exact (h w' b p' (sW_in hq.2.1 hs)).symm⟩
    · rintro ⟨w', p', hs, e⟩
      exact ⟨w', p', hs, by rw [← e]; exact h w' b p' (sW_in hq.2.1 hs)⟩
/-- A ROUND -/
theorem rnd_ok (hN : 0 ≤ N ∧ N ≤ 25) (hn : 0 ≤ n) (E : Int → Int) :
    ((∀ i, (fndE F N kd n E).1 i = E i ∨ ((fndE F N kd n E).1 i = n ∧ E i = -1 ∧ ∃ w b p, in3 N w b p ∧ i = vlIx kd (itE n) w b p ∧ cnE F N kd n E w b p)) ∧ ((fndE F N kd n E).2 = false → (fndE F N kd n E).1 = E)) ∧
    ∀ w b p, in3 N w b p → E (vlIx kd (itE n) w b p) = -1 → cnE F N kd n E w b p → (fndE F N kd n E).1 (vlIx kd (itE n) w b p) = n := by
  have hit : itE n = 0 ∨ itE n = 1 := by unfold itE; split; exact .inr rfl; exact .inl rfl
  have J0 : ∀ t : (Int → Int) × Bool, ((∀ i, t.1 i = E i ∨ (t.1 i = n ∧ E i = -1 ∧ ∃ w b p, in3 N w b p ∧ i = vlIx kd (itE n) w b p ∧ cnE F N kd n E w b p)) ∧ (t.2 = false → t.1 = E)) → ∀ w b p, in3 N w b p → (cnE F N kd n t.1 w b p ↔ cnE F N kd n E w b p) := by
    intro t ht w b p hq
    refine cn_cong hN (fun w b p hq => ?_) hq
    rcases ht.1 (vlIx kd (1 - itE n) w b p) with h | ⟨-, -, w', b', p', hq', e, -⟩
    · exact h
    · have := (vl_inj hN.2 hq hq' (by omega) hit e).1
      omega
  have stp : ∀ (w b p : Int) (t : (Int → Int) × Bool), (fnP F N kd n (itE n) w b p t) = if t.1 (vlIx kd (itE n) w b p) = -1 ∧ cnE F N kd n t.1 w b p then (upE t.1 (vlIx kd (itE n) w b p) n, true) else t := by
    intro w b p t
    unfold fnP cnE itE
    by_cases c : n % 2 = 0
    · simp only [if_pos c]
      rw [if_neg (show ¬ (1 : Int) = 0 by decide)]
    · simp only [if_neg c]
      rw [if_pos trivial]
  have key := fun (w0 b0 p0 : Int) (h0 : in3 N w0 b0 p0) => run3_hit (N := N) (fun t : (Int → Int) × Bool => (∀ i, t.1 i = E i ∨ (t.1 i = n ∧ E i = -1 ∧ ∃ w b p, in3 N w b p ∧ i = vlIx kd (itE n) w b p ∧ cnE F N kd n E w b p)) ∧ (t.2 = false → t.1 = E))
    (fun t => E (vlIx kd (itE n) w0 b0 p0) = -1 → cnE F N kd n E w0 b0 p0 → t.1 (vlIx kd (itE n) w0 b0 p0) = n) (fnP F N kd n (itE n))
    (fun w b p hw hb hp t ht => by
      rw [stp]
      by_cases c : t.1 (vlIx kd (itE n) w b p) = -1 ∧ cnE F N kd n t.1 w b p
      · rw [if_pos c]
        refine ⟨fun i => ?_, fun z => nomatch z⟩
        by_cases ci : i = vlIx kd (itE n) w b p
        · right
          refine ⟨by rw [ci]; exact if_pos rfl, ?_, w, b, p, ⟨hw, hb, hp⟩, ci, (J0 t ht w b p ⟨hw, hb, hp⟩).mp c.2⟩
          rcases ht.1 i with h | ⟨-, h, -⟩
          · rw [← h, ci]; exact c.1
          · exact h
        · rw [show (upE t.1 (vlIx kd (itE n) w b p) n, true).1 i = t.1 i from if_neg ci]
          exact ht.1 i
      · rw [if_neg c]; exact ht)
    (fun w b p hw hb hp t ht hq h1 h2 => by
      rw [stp]
      by_cases c : t.1 (vlIx kd (itE n) w b p) = -1 ∧ cnE F N kd n t.1 w b p
      · rw [if_pos c]
        show upE t.1 (vlIx kd (itE n) w b p) n (vlIx kd (itE n) w0 b0 p0) = n
        unfold upE
        split
        · rfl
        · exact hq h1 h2
      · rw [if_neg c]; exact hq h1 h2)
    (E, false) ⟨fun i => .inl rfl, fun _ => rfl⟩
  refine ⟨?_, fun w b p hq h1 h2 => ?_⟩
  · by_cases c : 0 < N
    · exact (key 0 0 0 ⟨⟨by omega, c⟩, ⟨by omega, c⟩, ⟨by omega, c⟩⟩).1
    · have e : N.toNat = 0 := by omega
      unfold fndE
      rw [e]
      exact ⟨fun i => .inl rfl, fun _ => rfl⟩
  · refine (key w b p hq).2 w b p hq.1 hq.2.1 hq.2.2 (fun t ht g1 g2 => ?_) h1 h2
    rw [stp]
    by_cases c : t.1 (vlIx kd (itE n) w b p) = -1 ∧ cnE F N kd n t.1 w b p
    · rw [if_pos c]; exact if_pos rfl
    · rw [if_neg c]
      rcases ht.1 (vlIx kd (itE n) w b p) with h | ⟨h, -⟩
      · exact absurd ⟨by rw [h]; exact g1, (J0 t ht w b p hq).mpr g2⟩ c
      · exact h
end
