section
variable {D : wD} {S U : wS} {o : Nat → Nat} {c c' : cM} {x : Nat} {A : Nat → Nat} {m m' : xM} {F R F' R' : Int} {v v' u : Int → Int} {n n' : Int} {w w' : Int → Int → Int} {mv mv' : Int → Mv} {L W : List Int} {yb : Nat → Nat} {yl : Int → Nat} {d : Int → SDt} {ye lw : List Nat} {q q' : Int} {b Ln : Nat} {xs : Nat → Int32} {a3 a4 : Nat} {P Q : wS → Prop} {ε : Bool}
/-- a first position laid anew -/
theorem lay_ok (hf : HFo D S o x A lw c m F R v n w mv L W yb yl d ye q F' R') (h0 : sL D.2.2.2 = []) (hu : okV F R u ∧ clV u ∧ brd F R u ∧ epS F R u) (hr : rgV u) : HFo D (cS S o (putS (cI (putP c 11 u) 13 3 0) 14 0 u)) o x A lw (putS (cI (putP c 11 u) 13 3 0) 14 0 u) m F R u 0 (fun _ => u) mv L W yb yl d ye q F' R' ∧ cSim [11, 13, 14] c (putS (cI (putP c 11 u) 13 3 0) 14 0 u) := by
  have e1 := hf.1.1.2
  obtain ⟨w1, w2, w3, w4, w5, w6, w7⟩ := hf.2.2.2.1.1.1
  have sm : cSim [11, 13, 14] c (putS (cI (putP c 11 u) 13 3 0) 14 0 u) := (((putP_sim c 11 u).mono (by decide)).trans ((cI_sim _ 13 3 0).mono (by decide))).trans ((putS_sim _ 14 0 u).mono (by decide))
  have k10 : ∀ k, k < 10 → k ∉ [11, 13, 14] := fun k hk => by simp; omega
  have c13 : (putS (cI (putP c 11 u) 13 3 0) 14 0 u).1 13 3 = 0 := by rw [putS_i, cI_1, up_at]
  have pa : PAt (putS (cI (putP c 11 u) 13 3 0) 14 0 u) 11 u := by
    have p := putP_at c 11 u
    have s2 : cSim [13, 14] (putP c 11 u) (putS (cI (putP c 11 u) 13 3 0) 14 0 u) := ((cI_sim _ 13 3 0).mono (by decide)).trans ((putS_sim _ 14 0 u).mono (by decide))
    unfold PAt at p ⊢
    rw [(s2 11 (by decide)).1, (s2 11 (by decide)).2]
    exact p
  have nw : NOW (putS (cI (putP c 11 u) 13 3 0) 14 0 u) F R u := ⟨BG_of (fun k hk => (sm k (k10 k hk)).1) (fun k hk => (sm k (k10 k hk)).2) w1, hu.1, hu.2.1, hu.2.2.1, hu.2.2.2, pa, ⟨by rw [c13]; decide, fun z => by rw [c13] at z; omega⟩⟩
  exact ⟨hf.cls h0 (hf.2.2.2.1.book hf.1.1.1 e1 (clsL_nd hf.2.2.1) (w' := fun _ => u) (n' := 0) (mv' := mv) ⟨nw, PG.begin hr mv, rfl, fun k k0 k1 => by omega, fun k k0 k1 => ⟨hu.2.1, hu.1⟩⟩ (sm 46 (by decide)).1 (sm 47 (by decide)).1 (sm 48 (by decide)).1 (by rw [(sm 51 (by decide)).1, (sm 0 (by decide)).1]; exact hf.2.2.2.1.2.2.2.1)), sm⟩
/-- .. and by the reference -/
theorem lay_ref (hD : wDok D b Ln xs) (h5 : HFo D U o x A lw c' m F R u 0 (fun _ => u) mv L W yb yl d ye q F R) (lk : LKo m c F R n w mv L W d ye ε) (sm : cSim [11, 13, 14] c c') (row : ∀ r : Nat, r ≠ 8 → r ≠ 50 → m' r = m r) (o50 : ∀ j : Int, j ≠ 0 → m' 50 j = m 50 j) (e11 : m 50 11 = 0) (g8 : gv m' 0 = u) (hP : ∀ S', RELo D S' o x A lw (q + 1) ε → P S') : P (xS U x A m') := by
  have kg : KGo m m' := ⟨fun r hr => row r (by omega) (by omega), fun j hj => o50 j (by omega)⟩
  have g11 : m' 50 11 = 0 := by rw [o50 11 (by decide)]; exact e11
  have w2 := h5.2.2.2.1.1.1.2.1
  have xr := h5.2.2.2.2.game (KGo.gx kg) ⟨by rw [g11]; decide, fun k k0 k1 => by
    have : k = 0 := by omega
    rw [this, g8]; exact w2⟩ (fun k k0 k1 => by rw [row 10 (by decide) (by decide), row 9 (by decide) (by decide)]; exact h5.2.2.2.2.2.2.2.2.2.2.2.1 k k0 k1)
  have lk1 := lk.game (c' := c') (n' := 0) (w' := fun _ => u) (mv' := mv) kg (sm 0 (by decide)).1 (sm 51 (by decide)).1 (sm 46 (by decide)).1 ⟨g11, fun k k0 k1 => by
    have : k = 0 := by omega
    rw [this]; exact g8, fun k k0 k1 => by omega, fun k k0 k1 => by omega⟩
  exact hP _ (REL.mk ((h5.ref hD.2.2.1.1 hD.2.2.2.2 xr).succ (by omega)) lk1)
end
