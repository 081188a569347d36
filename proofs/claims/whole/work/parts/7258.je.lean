section
variable {D : wD} {S U : wS} {o : Nat → Nat} {c c' : cM} {x : Nat} {A : Nat → Nat} {m m' : xM} {F R F' R' : Int} {v v' : Int → Int} {n n' : Int} {w w' : Int → Int → Int} {mv mv' : Int → Mv} {L W : List Int} {yb : Nat → Nat} {yl : Int → Nat} {d : Int → SDt} {ye lw : List Nat} {q q' : Int} {b Ln : Nat} {xs : Nat → Int32} {a3 a4 : Nat} {P Q : wS → Prop} {ε : Bool}
/-- the reference's rows that a change of the game leaves alone -/
abbrev KGo (m m' : xM) : Prop := (∀ r : Nat, (r = 12 ∨ r = 14 ∨ (30 ≤ r ∧ r ≤ 38) ∨ r = 40 ∨ r = 41 ∨ r = 42) → m' r = m r) ∧ ∀ j : Int, (j = 1 ∨ j = 2 ∨ j = 13 ∨ j = 15 ∨ j = 16 ∨ j = 39) → m' 50 j = m 50 j
abbrev KGx (m m' : xM) : Prop := (∀ r : Nat, (r = 12 ∨ r = 14 ∨ (30 ≤ r ∧ r ≤ 38) ∨ r = 41 ∨ r = 42) → m' r = m r) ∧ ∀ j : Int, (j = 1 ∨ j = 2) → m' 50 j = m 50 j
theorem KGo.gx (h : KGo m m') : KGx m m' := ⟨fun r hr => h.1 r (by omega), fun j hj => h.2 j (by omega)⟩
theorem XRo.game (h : XRo m F R) (s : KGx m m') (g : (0 ≤ m' 50 11 ∧ m' 50 11 ≤ 80) ∧ ∀ k, 0 ≤ k → k ≤ m' 50 11 → okV F R (gv m' k)) (r9 : ∀ k, 0 ≤ k → k < 80 → (0 ≤ m' 10 k ∧ m' 10 k ≤ 1) ∧ i32 (m' 9 k)) : XRo m' F R := by
  obtain ⟨⟨a1, a2, a3⟩, ⟨b1, b2, b3⟩, ⟨c1, c2, c3, c4⟩, t1, t2, t3, t4, t5, t6, t7⟩ := h
  have rw3 : ∀ r : Nat, 30 ≤ r → r ≤ 38 → m' r = m r := fun r h1 h2 => s.1 r (.inr (.inr (.inl ⟨h1, h2⟩)))
  have r30 := rw3 30 (by decide) (by decide)
  have r31 := rw3 31 (by decide) (by decide)
  have r32 := rw3 32 (by decide) (by decide)
  have r33 := rw3 33 (by decide) (by decide)
  have r34 := rw3 34 (by decide) (by decide)
  have r35 := rw3 35 (by decide) (by decide)
  have r36 := rw3 36 (by decide) (by decide)
  have r37 := rw3 37 (by decide) (by decide)
  have r38 := rw3 38 (by decide) (by decide)
  have r12 := s.1 12 (.inl rfl)
  have r14 := s.1 14 (.inr (.inl rfl))
  have r41 := s.1 41 (by omega)
  have r42 := s.1 42 (by omega)
  refine ⟨⟨⟨(s.2 1 (by omega)).trans a1.1, (s.2 2 (by omega)).trans a1.2.1, a1.2.2⟩, g.1, g.2⟩, ⟨fun i i0 i1 => by rw [r30]; exact b1 i i0 i1, fun k k0 k1 => by rw [r33, r34, r35]; exact b2 k k0 k1, fun i g k i0 i1 g0 g1 k0 k1 => ?_⟩, ⟨fun i i0 i1 => by rw [r30]; exact c1 i i0 i1, fun k k0 k1 => by rw [r33]; exact c2 k k0 k1, fun j j0 j1 => by rw [r32]; exact c3 j j0 j1, fun i g i0 i1 g0 g1 j j0 j1 => ?_⟩, fun k k0 k1 => by rw [r12]; exact t1 k k0 k1, fun k k0 k1 => by rw [r36, r37, r38]; exact t2 k k0 k1, by rw [r41]; exact t3, fun k k0 k1 => by rw [r42]; exact t4 k k0 k1, r9, fun k k0 k1 => by rw [r14]; exact t6 k k0 k1, by rw [r42]; exact t7⟩
  · rw [r30] at g1
    rw [r33] at k1
    rw [sv_vec, vec_row r31]; exact b3 i g k i0 i1 g0 g1 k0 k1
  · rw [r30] at g1
    rw [vec_row r31]; exact c4 i g i0 i1 g0 g1 j j0 j1
theorem LKo.game (h : LKo m c F R n w mv L W d ye ε) (s : KGo m m') (h0 : c'.1 0 = c.1 0) (h51 : c'.1 51 = c.1 51) (h46 : c'.1 46 = c.1 46)
    (g : m' 50 11 = n' ∧ (∀ k : Int, 0 ≤ k → k ≤ n' → gv m' k = w' k) ∧ (∀ k : Int, 0 ≤ k → k < n' → m' 9 k = codeT (mv' k)) ∧ ∀ k : Int, 0 ≤ k → k < n' → (quietC w' mv' k = true ↔ m' 10 k = 0)) : LKo m' c' F R n' w' mv' L W d ye ε := by
  obtain ⟨⟨a1, a2, a9⟩, -, ⟨c1, c2⟩, ⟨d1, d2⟩, ⟨e1, e2, e3⟩, ⟨f1, f2⟩, g1, g2⟩ := h
  have sh : ∀ r : Nat, 30 ≤ r → r ≤ 38 → m' r = m r := fun r h1 h2 => s.1 r (.inr (.inr (.inl ⟨h1, h2⟩)))
  have r41 := s.1 41 (by omega)
  have r42 := s.1 42 (by omega)
  refine ⟨⟨(s.2 1 (by omega)).trans a1, (s.2 2 (by omega)).trans a2, a9⟩, g, ⟨(s.2 13 (by omega)).trans c1, fun k k0 k1 => by rw [s.1 12 (.inl rfl)]; exact c2 k k0 k1⟩, ⟨(s.2 15 (by omega)).trans d1, fun k k0 k1 => by rw [s.1 14 (.inr (.inl rfl))]; exact d2 k k0 k1⟩, ⟨by rw [h0]; exact (s.2 16 (by omega)).trans e1, by rw [h0]; exact (s.2 39 (by omega)).trans e2, fun k k0 k1 => by rw [s.1 40 (by omega), h51]; exact e3 k k0 k1⟩, ⟨f1.row sh, f2.row sh⟩, fun kd k0 k1 => by rw [r42, h46]; exact g1 kd k0 k1, fun kd k0 k1 k2 i i0 i1 => ?_⟩
  rw [r42] at k2
  rw [r41]; exact g2 kd k0 k1 k2 i i0 i1
/-- CALL: startHere -/
theorem call_startHere (hD : wDok D b Ln xs) (hR : RELo D S o x A lw q ε) (hP : ∀ S', RELo D S' o x A lw (q + 1) ε → P S') : wp_X11_startHere D (fun r S2 => wp_X12_startHere D (DIRo P Q r) S2 x) S (o 0) := by
  refine REL.elim hR fun c m F R v n w mv L W yb yl d ye hf lk ev => ?_
  have e1 := hf.1.1.2
  obtain ⟨w1, w2, w3, w4, w5, w6, w7⟩ := hf.2.2.2.1.1.1
  rw [e1]
  refine q_startHereC hf.1.1.1 w6 (rg_of hf) hf.2.2.2.1.1.2.1 ?_
  have c1 : ∀ k, k ≠ 13 → (putS (cI c 13 3 0) 14 0 v).1 k = c.1 k := fun k hk => by
    rw [putS_i]; funext j; rw [cI_1]; exact up_ne _ (Or.inl hk)
  have c2 : ∀ k, k ≠ 14 → (putS (cI c 13 3 0) 14 0 v).2 k = c.2 k := fun k hk => by
    rw [putS_r _ _ _ hk, cI_2]
  have nw : NOW (putS (cI c 13 3 0) 14 0 v) F R v := ⟨BG_of (fun k hk => c1 k (by omega)) (fun k hk => c2 k (by omega)) w1, w2, w3, w4, w5, by unfold PAt at w6 ⊢; rw [c1 11 (by decide), c2 11 (by decide)]; exact w6, by
    have : (putS (cI c 13 3 0) 14 0 v).1 13 3 = 0 := by rw [putS_i, cI_1, up_at]
    refine ⟨by rw [this]; decide, fun z => by rw [this] at z; omega⟩⟩
  have hf1 := hf.cls hD.2.2.2.2 (hf.2.2.2.1.book hf.1.1.1 e1 (clsL_nd hf.2.2.1) (c' := putS (cI c 13 3 0) 14 0 v) (w' := fun _ => v) (n' := 0) (mv' := mv) ⟨nw, PG.begin (rg_of hf) mv, rfl, fun k k0 k1 => by omega, fun k k0 k1 => ⟨w3, w2⟩⟩ (c1 46 (by decide)) (c1 47 (by decide)) (c1 48 (by decide)) (by rw [c1 51 (by decide), c1 0 (by decide)]; exact hf.2.2.2.1.2.2.2.1))
  have b2 := hf1.1.2.1
  rw [b2.2]
  refine q_startHere b2.1 hf.2.2.2.2.1 ?_
  have g11 : hereM m 50 11 = 0 := up_at _ _ _ _
  have row : ∀ r : Nat, r ≠ 3 → r ≠ 8 → r ≠ 50 → hereM m r = m r := fun r h1 h2 h3 => by
    unfold hereM
    rw [up_r _ _ _ (by simpa using h3), cpy_r _ (by simpa using h2)]
    funext j
    rw [ldm_f _ _ (by simpa using h1), up_r _ _ _ (by simpa using h3)]
  have g8 : gv (hereM m) 0 = v := by
    funext j
    unfold gv vec
    by_cases z : 0 ≤ j ∧ j < 67
    · rw [if_pos z]
      unfold hereM
      rw [up_f _ _ _ _ rfl]
      unfold cpy
      rw [if_pos ⟨rfl, by omega, by omega⟩]
      have l0 : lv (ldm (up m 50 0 0)) 0 = pv (up m 50 0 0) := ldm_lv _
      have l1 : pv (up m 50 0 0) = pv m := SIM.pv ((SIM.rf m).up0 0)
      have l2 := congrFun (l0.trans (l1.trans ev)) j
      unfold lv vec at l2
      rw [if_pos z] at l2
      rw [← l2]
      congr 1
      omega
    · rw [if_neg z, w3 j z]
  have kg : KGo m (hereM m) := ⟨fun r hr => row r (by omega) (by omega) (by omega), fun j hj => by
    unfold hereM
    rw [up_ne _ (Or.inr (by omega)), cpy_ne _ rfl, ldm_f _ _ rfl, up_ne _ (Or.inr (by omega))]⟩
  have xr := hf.2.2.2.2.game (KGo.gx kg) ⟨by rw [g11]; decide, fun k k0 k1 => by
    have : k = 0 := by omega
    rw [this, g8]; exact w2⟩ (fun k k0 k1 => by rw [row 10 (by decide) (by decide) (by decide), row 9 (by decide) (by decide) (by decide)]; exact hf.2.2.2.2.2.2.2.2.2.2.2.1 k k0 k1)
  have lk1 := lk.game (c' := putS (cI c 13 3 0) 14 0 v) (n' := 0) (w' := fun _ => v) (mv' := mv) kg (c1 0 (by decide)) (c1 51 (by decide)) (c1 46 (by decide)) ⟨g11, fun k k0 k1 => by
    have : k = 0 := by omega
    rw [this]; exact g8, fun k k0 k1 => by omega, fun k k0 k1 => by omega⟩
  exact ⟨fun _ => hP _ (REL.mk ((hf1.ref hD.2.2.1.1 hD.2.2.2.2 xr).succ (by omega)) lk1), fun z => absurd (by rw [lk.2.1.1]) z⟩
end
