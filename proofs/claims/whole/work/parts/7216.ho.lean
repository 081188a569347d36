/-! PHASE 4, class = reference: the shelves -/
/-- shelf s of the reference is the class's -/
abbrev shR (m : xM) (s : Int) (l : Nat) (n : Int → Int) (w : Int → Int → Int → Int) (mv : Int → Int → Mv) (inf : Int → Nat → Int) : Prop :=
  m 30 s = l ∧ ∀ g : Int, 0 ≤ g → g < l → (m 33 (slotB s g) = n g ∧ 0 ≤ n g ∧ n g ≤ 80) ∧ (∀ k : Int, 0 ≤ k → k ≤ n g → sv m s g k = w g k) ∧ (∀ k : Int, 0 ≤ k → k < n g → m 32 (80 * slotB s g + k) = codeT (mv g k)) ∧
    m 34 (slotB s g) = inf g 4 ∧ m 35 (slotB s g) = inf g 5 ∧ m 36 (slotB s g) = inf g 6 ∧ m 37 (slotB s g) = inf g 7 ∧ m 38 (slotB s g) = inf g 8
/-- the marks of the positions that are new say what they mean -/
abbrev frR (l : Nat) (n : Int → Int) (w : Int → Int → Int → Int) (fr : Int → Int → Bool) : Prop := ∀ g : Int, 0 ≤ g → g < l → ∀ k : Int, 0 ≤ k → k ≤ n g → fr g k = !knownC n w g.toNat (w g) k
section
variable {F R : Int} {m : xM} {s : Int} {l : Nat} {n : Int → Int} {w : Int → Int → Int → Int} {mv : Int → Int → Mv} {inf : Int → Nat → Int} {fr : Int → Int → Bool} {v : Int → Int}
theorem anyL_cong {p q : Int → Bool} : ∀ (d : Nat) (j : Int), (∀ i : Int, j ≤ i → i < j + d → p i = q i) → anyL p j d = anyL q j d
  | 0, j, _ => rfl
  | d + 1, j, h => by
    unfold anyL
    rw [h j (by omega) (by omega), anyL_cong d (j + 1) (fun i h1 h2 => h i (by omega) (by omega))]
theorem shR.pass (h : shR m s l n w mv inf) {g : Int} (hg : 0 ≤ g ∧ g < l) (v : Int → Int) : passB m s g v = thruC n w v g := by
  obtain ⟨⟨e, -⟩, e2, -⟩ := h.2 g hg.1 hg.2
  unfold passB thruC
  rw [e]
  exact anyL_cong _ _ fun k h1 h2 => by rw [e2 k h1 (by omega)]
theorem shR.games (h : shR m s l n w mv inf) (r a b : Int) : gamesB m s r a b = sumL (fun g => if (decide (r = -1) || decide (inf g 4 = r)) && inB (inf g 5) a b && thruC n w (pv m) g then 1 else 0) 0 l := by
  unfold gamesB
  rw [h.1]
  exact sumL_congr _ _ fun g h1 h2 => by
    have e := h.2 g h1 (by omega)
    unfold hereB
    rw [h.pass ⟨h1, by omega⟩, e.2.2.2.1, e.2.2.2.2.1]
theorem shR.passN (h : shR m s l n w mv inf) (hy : ∀ g : Int, 0 ≤ g → g < l → 0 ≤ inf g 5 ∧ inf g 5 ≤ 9999) (r : Int) : gamesB m s r 0 9999 = passN n w inf (pv m) r l := by
  rw [h.games]
  unfold COpeningsCabinetLaw_law_r5693_3db0e9.passN
  exact sumL_congr _ _ fun g h1 h2 => by
    have e : inB (inf g 5) 0 9999 = true := by
      have := hy g h1 (by omega)
      unfold inB
      simp only [Bool.and_eq_true, decide_eq_true_eq]
      exact this
    rw [e, Bool.and_true]
theorem shR.years (h : shR m s l n w mv inf) (a b : Int) : gamesB m s (-1) a b = sumL (fun g => if inB (inf g 5) a b && thruC n w (pv m) g then 1 else 0) 0 l := by
  rw [h.games]
  exact sumL_congr _ _ fun g h1 h2 => by
    rw [decide_eq_true rfl, Bool.true_or, Bool.true_and]
theorem shR.str (h : shR m s l n w mv inf) : strB m s = passS n w inf (pv m) l := by
  unfold strB passS
  rw [h.1]
  exact sumL_congr _ _ fun g h1 h2 => by
    have e := h.2 g h1 (by omega)
    rw [h.pass ⟨h1, by omega⟩, e.2.2.2.2.2.1]
theorem shR.mean (h : shR m s l n w mv inf) (hy : ∀ g : Int, 0 ≤ g → g < l → 0 ≤ inf g 5 ∧ inf g 5 ≤ 9999) (t : Int) :
    meanB m s t = (if t = 0 then passS n w inf (pv m) l else COpeningsCabinetLaw_law_r5693_3db0e9.passN n w inf (pv m) (-1) l) / (Nat.gcd (passS n w inf (pv m) l).toNat (COpeningsCabinetLaw_law_r5693_3db0e9.passN n w inf (pv m) (-1) l).toNat : Nat) := by
  unfold meanB
  rw [h.str, h.passN hy]
  split <;> rfl
theorem shR.len (h : shR m s l n w mv inf) : lenB m s = sumL n 0 l := by
  unfold lenB
  rw [h.1]
  exact sumL_congr _ _ fun g h1 h2 => (h.2 g h1 (by omega)).1.1
theorem shR.mLen (h : shR m s l n w mv inf) : mLenB m s = mLenC n l := by
  unfold mLenB mLenC
  rw [h.1, h.len]
  by_cases c : l = 0
  · rw [if_pos c, if_pos (by omega)]
  · rw [if_neg c, if_neg (by omega)]
theorem shR.won (h : shR m s l n w mv inf) (hy : ∀ g : Int, 0 ≤ g → g < l → 0 ≤ inf g 5 ∧ inf g 5 ≤ 9999) : shWonB m s = shWonC n w inf (pv m) l := by
  unfold shWonB shWonC
  rw [h.passN hy, h.passN hy]
theorem shR.old (h : shR m s l n w mv inf) {g k : Int} (hg : 0 ≤ g ∧ g < l) (hk : 0 ≤ k ∧ k ≤ n g) : oldB m s g k = knownC n w g.toNat (w g) k := by
  have e := h.2 g hg.1 hg.2
  unfold oldB knownC
  rw [Bool.or_comm]
  congr 1
  · exact anyL_cong _ _ fun q h1 h2 => by
      rw [e.2.1 q (by omega) (by omega), e.2.1 k hk.1 hk.2]
      exact same_comm _ _
  · exact anyL_cong _ _ fun q h1 h2 => by
      have eq := h.2 q (by omega) (by omega)
      rw [h.pass ⟨by omega, by omega⟩, e.2.1 k hk.1 hk.2]
      unfold thruC
      exact anyL_cong _ _ fun i h3 h4 => same_comm _ _
theorem shR.pos (h : shR m s l n w mv inf) (hf : frR l n w fr) : posB F R m false s = sumL (freshC n fr) 0 l := by
  unfold posB
  rw [h.1]
  exact sumL_congr _ _ fun g h1 h2 => by
    have e := h.2 g h1 (by omega)
    unfold posG freshC
    rw [e.1.1]
    exact sumL_congr _ _ fun k h3 h4 => by
      unfold posAt
      rw [h.old ⟨h1, by omega⟩ ⟨h3, by omega⟩, hf g h1 (by omega) k h3 (by omega)]
      rfl
theorem shR.fit (h : shR m s l n w mv inf) (hf : frR l n w fr) : posB F R m true s = sumL (fitC F R (m 40) n w fr) 0 l := by
  unfold posB
  rw [h.1]
  exact sumL_congr _ _ fun g h1 h2 => by
    have e := h.2 g h1 (by omega)
    unfold posG fitC
    rw [e.1.1]
    exact sumL_congr _ _ fun k h3 h4 => by
      unfold posAt
      rw [h.old ⟨h1, by omega⟩ ⟨h3, by omega⟩, hf g h1 (by omega) k h3 (by omega), e.2.1 k h3 (by omega), Bool.and_comm]
      rfl
theorem newL_first {m : xM} {s g : Int} {P : Int → Bool} : ∀ (d : Nat) (k : Int), (∀ i : Int, k ≤ i → i < k + d → anyL (fun q => passB m s q (sv m s g i)) 0 g.toNat = !P i) → newL m s g k d = firstL P k d
  | 0, k, _ => rfl
  | d + 1, k, h => by
    unfold newL firstL
    rw [h k (by omega) (by omega), newL_first d (k + 1) (fun i h1 h2 => h i (by omega) (by omega))]
    cases P k <;> rfl
/-- the first position of a game that no game before it has: the first that is marked -/
theorem shR.new (h : shR m s l n w mv inf) (hf : frR l n w fr) {g : Int} (hg : 0 ≤ g ∧ g < l) : newL m s g 0 (m 33 (slotB s g) + 1).toNat = firstL (fr g) 0 (n g + 1).toNat := by
  have e := h.2 g hg.1 hg.2
  have en : n g = (n g).toNat := by omega
  have old : ∀ i : Int, 0 ≤ i → i ≤ n g → anyL (fun q => passB m s q (sv m s g i)) 0 g.toNat = anyL (fun q => anyL (fun k => sameB (w g i) (w q k)) 0 (n q + 1).toNat) 0 g.toNat := by
    intro i i0 i1
    exact anyL_cong _ _ fun q h1 h2 => by
      rw [h.pass ⟨by omega, by omega⟩, e.2.1 i i0 i1]
      unfold thruC
      exact anyL_cong _ _ fun j h3 h4 => same_comm _ _
  have fk : ∀ i : Int, 0 ≤ i → i ≤ n g → fr g i = !(anyL (fun k => sameB (w g i) (w g k)) 0 i.toNat || anyL (fun q => anyL (fun k => sameB (w g i) (w q k)) 0 (n q + 1).toNat) 0 g.toNat) := fun i i0 i1 => hf g hg.1 hg.2 i i0 i1
  -- the first that no game before has is not behind one like it in its own game
  rw [e.1.1, newL_first (P := fun i => !anyL (fun q => anyL (fun k => sameB (w g i) (w q k)) 0 (n q + 1).toNat) 0 g.toNat) _ _ (fun i h1 h2 => by rw [old i h1 (by omega), Bool.not_not])]
  rcases firstL_p (fun i => !anyL (fun q => anyL (fun k => sameB (w g i) (w q k)) 0 (n q + 1).toNat) 0 g.toNat) (n g + 1).toNat 0 (by omega) with ⟨a1, a2⟩ | ⟨a1, a2, a3, a4⟩
  · rw [a1]
    refine (firstL_no _ (by omega) fun i h1 h2 => ?_).symm
    have := a2 i h1 h2
    rw [fk i h1 (by omega)]
    simp only [Bool.not_eq_false'] at this
    rw [this, Bool.or_true]; rfl
  · refine (firstL_u _ (by omega) ⟨a1, a2⟩ ?_ ?_).symm
    · rw [fk _ a1 (by omega)]
      simp only [Bool.not_eq_true'] at a3
      rw [a3, Bool.or_false, Bool.not_eq_true']
      -- one like it before it would be new itself
      rw [Bool.eq_false_iff]
      intro z
      rw [anyL_iff] at z
      obtain ⟨j, j0, j1, j2⟩ := z
      have q := a4 j (by omega) (by omega)
      simp only [Bool.not_eq_false'] at q
      rw [anyL_iff] at q
      obtain ⟨p, p0, p1, p2⟩ := q
      rw [anyL_iff] at p2
      obtain ⟨i, i0, i1, i2⟩ := p2
      have : anyL (fun q => anyL (fun k => sameB (w g (firstL (fun i => !anyL (fun q => anyL (fun k => sameB (w g i) (w q k)) 0 (n q + 1).toNat) 0 g.toNat) 0 (n g + 1).toNat)) (w q k)) 0 (n q + 1).toNat) 0 g.toNat = true := by
        rw [anyL_iff]
        refine ⟨p, p0, p1, ?_⟩
        rw [anyL_iff]
        refine ⟨i, i0, i1, ?_⟩
        rw [same_iff] at j2 i2 ⊢
        exact ⟨fun k k0 k1 => (j2.1 k k0 k1).trans (i2.1 k k0 k1), j2.2.1.trans i2.2.1, j2.2.2.1.trans i2.2.2.1, j2.2.2.2.trans i2.2.2.2⟩
      rw [this] at a3; exact nomatch a3
    · intro i h1 h2
      rw [fk i h1 (by omega)]
      have := a4 i h1 h2
      simp only [Bool.not_eq_false'] at this
      rw [this, Bool.or_true]; rfl
theorem shR.ask (h : shR m 0 l n w mv inf) (hl : 0 < l) : askB m = dueC inf (-1) 0 l := by
  unfold askB
  rw [h.1]
  cases l with
  | zero => omega
  | succ l =>
    unfold dueC
    rw [if_pos (.inl rfl), show (((l + 1 : Nat) : Int) - 1).toNat = l by omega]
    refine (due_eq (l := ((l + 1 : Nat) : Int)) (fun g h1 h2 => ?_) l 0 1 (by omega) (by omega) (by omega) (by omega)).symm
    have e := h.2 g h1 h2
    have : slotB 0 g = g := by unfold slotB; omega
    rw [this] at e
    exact ⟨e.2.2.2.2.2.2.2.symm, e.2.2.2.2.2.2.1.symm⟩
end
