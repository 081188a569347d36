section
variable {F R : Int} {m m1 : xM} {s : Int} {l : Nat} {n : Int → Int} {w : Int → Int → Int → Int} {mv : Int → Int → Mv} {inf : Int → Nat → Int} {fr : Int → Int → Bool} {v : Int → Int}
/-- slot q is left alone -/
abbrev slSame (m m1 : xM) (q : Int) : Prop := (∀ r : Nat, 33 ≤ r → r ≤ 38 → m1 r q = m r q) ∧ (∀ k : Int, 0 ≤ k → k ≤ 80 → vec m1 31 (5427 * q + 67 * k) = vec m 31 (5427 * q + 67 * k)) ∧ ∀ j : Int, 0 ≤ j → j < 80 → m1 32 (80 * q + j) = m 32 (80 * q + j)
/-- slot q holds a game -/
abbrev slNew (m1 : xM) (q n1 : Int) (w1 : Int → Int → Int) (mv1 : Int → Mv) (inf1 : Nat → Int) : Prop := (m1 33 q = n1 ∧ 0 ≤ n1 ∧ n1 ≤ 80) ∧ (∀ k : Int, 0 ≤ k → k ≤ n1 → vec m1 31 (5427 * q + 67 * k) = w1 k) ∧ (∀ k : Int, 0 ≤ k → k < n1 → m1 32 (80 * q + k) = codeT (mv1 k)) ∧
  m1 34 q = inf1 4 ∧ m1 35 q = inf1 5 ∧ m1 36 q = inf1 6 ∧ m1 37 q = inf1 7 ∧ m1 38 q = inf1 8
theorem sv_vec (m : xM) (s g k : Int) : sv m s g k = vec m 31 (5427 * slotB s g + 67 * k) := rfl
theorem shR.iff : shR m s l n w mv inf ↔ m 30 s = l ∧ ∀ g : Int, 0 ≤ g → g < l → slNew m (slotB s g) (n g) (w g) (mv g) (inf g) := Iff.rfl
theorem slNew.same {q n1 : Int} {w1 : Int → Int → Int} {mv1 : Int → Mv} {inf1 : Nat → Int} (h : slNew m q n1 w1 mv1 inf1) (e : slSame m m1 q) : slNew m1 q n1 w1 mv1 inf1 := by
  obtain ⟨⟨a, b, c⟩, d, f, g1, g2, g3, g4, g5⟩ := h
  refine ⟨⟨(e.1 33 (by omega) (by omega)).trans a, b, c⟩, fun k k0 k1 => (e.2.1 k k0 (by omega)).trans (d k k0 k1), fun k k0 k1 => (e.2.2 k k0 (by omega)).trans (f k k0 k1), ?_, ?_, ?_, ?_, ?_⟩
  · exact (e.1 34 (by omega) (by omega)).trans g1
  · exact (e.1 35 (by omega) (by omega)).trans g2
  · exact (e.1 36 (by omega) (by omega)).trans g3
  · exact (e.1 37 (by omega) (by omega)).trans g4
  · exact (e.1 38 (by omega) (by omega)).trans g5
theorem shR.stay (h : shR m s l n w mv inf) (e30 : m1 30 s = m 30 s) (e : ∀ g : Int, 0 ≤ g → g < l → slSame m m1 (slotB s g)) : shR m1 s l n w mv inf :=
  shR.iff.mpr ⟨e30.trans h.1, fun g h1 h2 => slNew.same (shR.iff.mp h |>.2 g h1 h2) (e g h1 h2)⟩
theorem shR.snoc {n1 : Int} {w1 : Int → Int → Int} {mv1 : Int → Mv} {inf1 : Nat → Int} (h : shR m s l n w mv inf) (e30 : m1 30 s = l + 1) (e : ∀ g : Int, 0 ≤ g → g < l → slSame m m1 (slotB s g)) (hn : slNew m1 (slotB s l) n1 w1 mv1 inf1) :
    shR m1 s (l + 1) (upN n l n1) (upN w l w1) (upN mv l mv1) (upN inf l inf1) := by
  refine shR.iff.mpr ⟨by rw [e30]; omega, fun g h1 h2 => ?_⟩
  by_cases c : g = (l : Int)
  · rw [c, upN_at, upN_at, upN_at, upN_at]; exact hn
  · have hg : g < (l : Int) := by omega
    rw [upN_ne _ _ _ hg, upN_ne _ _ _ hg, upN_ne _ _ _ hg, upN_ne _ _ _ hg]
    exact slNew.same (shR.iff.mp h |>.2 g h1 hg) (e g h1 hg)
theorem shR.row (h : shR m s l n w mv inf) (e : ∀ r : Nat, 30 ≤ r → r ≤ 38 → m1 r = m r) : shR m1 s l n w mv inf := by
  refine h.stay (by rw [e 30 (by omega) (by omega)]) fun g _ _ => ⟨fun r h1 h2 => by rw [e r (by omega) h2], fun k _ _ => vec_row (e 31 (by omega) (by omega)) _, fun j _ _ => by rw [e 32 (by omega) (by omega)]⟩
theorem known_upN {w1 : Int → Int → Int} {n1 : Int} {l' : Nat} (hl : l' ≤ l) (u : Int → Int → Int) (i : Int) : knownC (upN n l n1) (upN w l w1) l' u i = knownC n w l' u i := by
  unfold knownC
  congr 1
  exact anyL_cong _ _ fun g h1 h2 => by rw [upN_ne _ _ _ (by omega), upN_ne _ _ _ (by omega)]
theorem frR.snoc {w1 : Int → Int → Int} {n1 : Int} (h : frR l n w fr) : frR (l + 1) (upN n l n1) (upN w l w1) (upN fr l fun i => !knownC n w l w1 i) := by
  intro g h1 h2 k h3 h4
  by_cases c : g = (l : Int)
  · subst c
    rw [upN_at, upN_at, Int.toNat_natCast, known_upN (Nat.le_refl _)]
  · have hg : g < (l : Int) := by omega
    rw [upN_ne _ _ _ hg] at h4
    rw [upN_ne _ _ _ hg, upN_ne _ _ _ hg, known_upN (by omega)]
    exact h g h1 hg k h3 h4
theorem RUL.snoc {n1 : Int} {w1 : Int → Int → Int} {mv1 : Int → Mv} (h : RUL F R l n w mv) (h1 : ∀ k : Int, 0 ≤ k → k < n1 → PV F R (w1 k) ∧ okMv F R (w1 k) (mv1 k) ∧ w1 (k + 1) = mkT F R (w1 k) (mv1 k)) : RUL F R (l + 1) (upN n l n1) (upN w l w1) (upN mv l mv1) := by
  intro g h2 h3
  by_cases c : g = (l : Int)
  · rw [c, upN_at, upN_at, upN_at]; exact h1
  · have hg : g < (l : Int) := by omega
    rw [upN_ne _ _ _ hg, upN_ne _ _ _ hg, upN_ne _ _ _ hg]
    exact h g h2 hg
-- a game is added
theorem addM_30 (m : xM) (s r y z j : Int) : addM m s r y z 30 j = if j = s then m 30 s + 1 else m 30 j := by
  unfold addM
  rw [up_f _ _ _ _ rfl, up_f _ _ _ _ rfl, up_f _ _ _ _ rfl, up_f _ _ _ _ rfl, up_f _ _ _ _ rfl, up_f _ _ _ _ rfl, cpy_ne _ rfl, cpy_ne _ rfl]
  by_cases c : j = s
  · rw [if_pos c, c, up_at]
  · rw [if_neg c, up_ne _ (Or.inr c)]
theorem addM_31 (m : xM) (s r y z j : Int) : addM m s r y z 31 j = if 5427 * slotB s (m 30 s) ≤ j ∧ j < 5427 * slotB s (m 30 s) + 67 * (m 50 11 + 1) then m 8 (j - 5427 * slotB s (m 30 s)) else m 31 j := by
  unfold addM
  rw [up_f _ _ _ _ rfl, up_f _ _ _ _ rfl, up_f _ _ _ _ rfl, up_f _ _ _ _ rfl, up_f _ _ _ _ rfl, up_f _ _ _ _ rfl, cpy_ne _ rfl]
  have e : placeB s (m 30 s) 0 = 5427 * slotB s (m 30 s) := by unfold placeB slotB; omega
  unfold cpy
  rw [e]
  by_cases c : 5427 * slotB s (m 30 s) ≤ j ∧ j < 5427 * slotB s (m 30 s) + 67 * (m 50 11 + 1)
  · rw [if_pos ⟨rfl, c⟩, if_pos c, up_f _ _ _ _ rfl, Int.zero_add]
  · rw [if_neg (fun q => c q.2), if_neg c, up_f _ _ _ _ rfl]
theorem addM_32 (m : xM) (s r y z j : Int) : addM m s r y z 32 j = if 80 * slotB s (m 30 s) ≤ j ∧ j < 80 * slotB s (m 30 s) + m 50 11 then m 9 (j - 80 * slotB s (m 30 s)) else m 32 j := by
  unfold addM
  rw [up_f _ _ _ _ rfl, up_f _ _ _ _ rfl, up_f _ _ _ _ rfl, up_f _ _ _ _ rfl, up_f _ _ _ _ rfl, up_f _ _ _ _ rfl]
  by_cases c : 80 * slotB s (m 30 s) ≤ j ∧ j < 80 * slotB s (m 30 s) + m 50 11
  · rw [if_pos c]
    rw [show ∀ X : xM, cpy X 9 0 32 (80 * slotB s (m 30 s)) (m 50 11) 32 j = X 9 (0 + (j - 80 * slotB s (m 30 s))) from fun X => if_pos ⟨rfl, c⟩, cpy_ne _ rfl, up_f _ _ _ _ rfl, Int.zero_add]
  · rw [if_neg c]
    rw [show ∀ X : xM, cpy X 9 0 32 (80 * slotB s (m 30 s)) (m 50 11) 32 j = X 32 j from fun X => if_neg (fun q => c q.2), cpy_ne _ rfl, up_f _ _ _ _ rfl]
theorem addM_i (m : xM) (s r y z j : Int) {f : Nat} (hf : 33 ≤ f ∧ f ≤ 38) : addM m s r y z f j = if j = slotB s (m 30 s) then (if f = 33 then m 50 11 else infN r y z (f - 30)) else m f j := by
  unfold addM
  rcases (show f = 33 ∨ f = 34 ∨ f = 35 ∨ f = 36 ∨ f = 37 ∨ f = 38 by omega) with rfl | rfl | rfl | rfl | rfl | rfl <;>
  (by_cases c : j = slotB s (m 30 s)
   · rw [if_pos c, c]; unfold up cpy infN; simp
   · rw [if_neg c]; unfold up cpy; simp [c])
theorem addM_same {r y z q : Int} (h : q ≠ slotB s (m 30 s)) (hm : 0 ≤ m 50 11 ∧ m 50 11 ≤ 80) : slSame m (addM m s r y z) q := by
  refine ⟨fun f h1 h2 => by rw [addM_i _ _ _ _ _ _ ⟨h1, h2⟩, if_neg h], fun k h1 h2 => ?_, fun j h1 h2 => ?_⟩
  · funext j
    unfold vec
    by_cases c : 0 ≤ j ∧ j < 67
    · rw [if_pos c, if_pos c, addM_31, if_neg (by omega)]
    · rw [if_neg c, if_neg c]
  · rw [addM_32, if_neg (by omega)]
theorem shR.add {pn : Int} {pw : Int → Int → Int} {pm : Int → Mv} {r y z : Int} (h : shR m s l n w mv inf) (hm : m 50 11 = pn ∧ 0 ≤ pn ∧ pn ≤ 80) (hw : ∀ k : Int, 0 ≤ k → k ≤ pn → gv m k = pw k) (hc : ∀ k : Int, 0 ≤ k → k < pn → m 9 k = codeT (pm k)) :
    shR (addM m s r y z) s (l + 1) (upN n l pn) (upN w l pw) (upN mv l pm) (upN inf l (infN r y z)) := by
  obtain ⟨h1, h2, h3⟩ := hm
  refine h.snoc (by rw [addM_30, if_pos rfl, h.1]) (fun g g0 g1 => addM_same (by rw [h.1]; unfold slotB; omega) (by omega)) ?_
  rw [← h.1]
  refine ⟨⟨by rw [addM_i _ _ _ _ _ _ (by omega), if_pos rfl]; exact h1, h2, h3⟩, fun k k0 k1 => ?_, fun k k0 k1 => ?_, ?_, ?_, ?_, ?_, ?_⟩
  · rw [← hw k k0 k1]
    funext j
    unfold gv vec
    by_cases c : 0 ≤ j ∧ j < 67
    · rw [if_pos c, if_pos c, addM_31, if_pos (by omega)]
      congr 1; omega
    · rw [if_neg c, if_neg c]
  · rw [addM_32, if_pos (by omega), ← hc k k0 k1]
    congr 1; omega
  all_goals (rw [addM_i _ _ _ _ _ _ (by omega), if_pos rfl]; rfl)
theorem shR.other {r y z s' : Int} (h : shR m s l n w mv inf) (hl : l ≤ 40) (hs : (s = 0 ∧ s' = 1) ∨ (s = 1 ∧ s' = 0)) (h40 : 0 ≤ m 30 s' ∧ m 30 s' < 40) (hm : 0 ≤ m 50 11 ∧ m 50 11 ≤ 80) : shR (addM m s' r y z) s l n w mv inf :=
  h.stay (by rw [addM_30, if_neg (by omega)]) fun g g0 g1 => addM_same (by unfold slotB; omega) hm
end
