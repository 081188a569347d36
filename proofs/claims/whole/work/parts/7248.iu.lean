section
variable {D : wD} {S U : wS} {o : Nat → Nat} {c c' : cM} {x : Nat} {A : Nat → Nat} {m m' : xM} {F R F' R' : Int} {v v' : Int → Int} {n n' : Int} {w w' : Int → Int → Int} {mv mv' : Int → Mv} {L W : List Int} {yb : Nat → Nat} {yl : Int → Nat} {d : Int → SDt} {ye lw : List Nat} {q q' : Int} {b Ln : Nat} {xs : Nat → Int32} {P Q : wS → Prop} {ε : Bool}
theorem REL.elim (hR : RELo D S o x A lw q ε) {G : Prop} (k : ∀ c m F R v n w mv L W yb yl d ye, HFo D S o x A lw c m F R v n w mv L W yb yl d ye q F R → LKo m c F R n w mv L W d ye ε → pv m = v → G) : G := by
  obtain ⟨c, m, F, R, v, n, w, mv, L, W, yb, yl, d, ye, bf, cs, hp, cl, xr, lk⟩ := hR
  exact k c m F R v n w mv L W yb yl d ye ⟨bf, cs, hp, cl, xr⟩ lk ((pv_eq lk cl.1.2.1.2.1.1).trans cl.1.2.2.1)
theorem REL.fin (hD : wDok D b Ln xs) (hf : HFo D U o x A lw c m F R v n w mv L W yb yl d ye q F R) (lk : LKo m c F R n w mv L W d ye ε) (s : SIM m m') (hP : ∀ S', RELo D S' o x A lw (q + 1) ε → P S') : P (xS U x A m') := hP _ (REL.mk ((hf.refq hD s).succ (by omega)) (lk.sim s))
/-- the law's comparison of two plain answers -/
abbrev DIRo (P Q : wS → Prop) (r1 : Int32) : Int32 → wS → Prop := fun r2 S4 => (r1 = r2 → P S4) ∧ (¬ r1 = r2 → Q S4)
theorem dir_ok (hD : wDok D b Ln xs) (hf : HFo D U o x A lw c m F R v n w mv L W yb yl d ye q F R) (lk : LKo m c F R n w mv L W d ye ε) (s : SIM m m') (hP : ∀ S', RELo D S' o x A lw (q + 1) ε → P S') {r1 r2 : Int32} (e : r1 = r2) : DIRo P Q r1 r2 (xS U x A m') := ⟨fun _ => REL.fin hD hf lk s hP, fun z => absurd e z⟩
theorem call_rights (hD : wDok D b Ln xs) (hR : RELo D S o x A lw q ε) (hP : ∀ S', RELo D S' o x A lw (q + 1) ε → P S') : wp_X11_rights D (fun r S2 => wp_X12_rights D (DIRo P Q r) S2 x) S (o 0) := by
  refine REL.elim hR fun c m F R v n w mv L W yb yl d ye hf lk ev => ?_
  rw [hf.1.1.2]
  refine q_rightsC hf.1.1.1 hf.2.2.2.1.1.1.2.2.2.2.2.1 ?_
  rw [← hf.1.1.2, hf.1.2.1.2]
  exact q_rights hf.1.2.1.1 hf.2.2.2.2.1 (dir_ok hD hf lk ((SIM.rf m).up0 0) hP (by rw [ev]))
theorem call_passing (hD : wDok D b Ln xs) (hR : RELo D S o x A lw q ε) (hP : ∀ S', RELo D S' o x A lw (q + 1) ε → P S') : wp_X11_passingSquare D (fun r S2 => wp_X12_passingSquare D (DIRo P Q r) S2 x) S (o 0) := by
  refine REL.elim hR fun c m F R v n w mv L W yb yl d ye hf lk ev => ?_
  rw [hf.1.1.2]
  refine q_passingC hf.1.1.1 hf.2.2.2.1.1.1.2.2.2.2.2.1 ?_
  rw [← hf.1.1.2, hf.1.2.1.2]
  exact q_passingSquare hf.1.2.1.1 hf.2.2.2.2.1 (dir_ok hD hf lk ((SIM.rf m).up0 0) hP (by rw [ev]))
theorem call_isProper (hD : wDok D b Ln xs) (hR : RELo D S o x A lw q ε) (hP : ∀ S', RELo D S' o x A lw (q + 1) ε → P S') : wp_X11_isProper D (fun r S2 => wp_X12_isProper D (DIRo P Q r) S2 x) S (o 0) := by
  refine REL.elim hR fun c m F R v n w mv L W yb yl d ye hf lk ev => ?_
  have nw := hf.2.2.2.1.1.1
  rw [hf.1.1.2]
  refine q_isProperC hf.1.1.1 nw.1 nw.2.1 nw.2.2.2.1 nw.2.2.2.2.2.1 ?_
  rw [← hf.1.1.2, hf.1.2.1.2]
  exact q_isProper hf.1.2.1.1 hf.2.2.2.2.1 (dir_ok hD hf lk ((SIM.rf m).up0 0).ldm hP (by rw [ev]))
theorem call_madeCount (hD : wDok D b Ln xs) (hR : RELo D S o x A lw q ε) (hP : ∀ S', RELo D S' o x A lw (q + 1) ε → P S') : wp_X11_madeCount D (fun r S2 => wp_X12_madeCount D (DIRo P Q r) S2 x) S (o 0) := by
  refine REL.elim hR fun c m F R v n w mv L W yb yl d ye hf lk ev => ?_
  rw [hf.1.1.2]
  refine q_madeCountC hf.1.1.1 hf.2.2.2.1.1.2.1 ?_
  rw [← hf.1.1.2, hf.1.2.1.2]
  exact q_madeCount hf.1.2.1.1 (dir_ok hD hf lk ((SIM.rf m).up0 0) hP (by rw [lk.2.1.1]))
theorem call_variation (hD : wDok D b Ln xs) (hR : RELo D S o x A lw q ε) (hP : ∀ S', RELo D S' o x A lw (q + 1) ε → P S') : wp_X11_variationMoves D (fun r S2 => wp_X12_variationMoves D (DIRo P Q r) S2 x) S (o 0) := by
  refine REL.elim hR fun c m F R v n w mv L W yb yl d ye hf lk ev => ?_
  rw [hf.1.1.2]
  refine q_variationC hf.1.1.1 ?_
  rw [← hf.1.1.2, hf.1.2.1.2]
  exact q_variationMoves hf.1.2.1.1 (dir_ok hD hf lk ((SIM.rf m).up0 0) hP (by rw [lk.2.2.2.2.1.1]))
theorem call_repetitions (hD : wDok D b Ln xs) (hR : RELo D S o x A lw q ε) (hP : ∀ S', RELo D S' o x A lw (q + 1) ε → P S') : wp_X11_repetitions D (fun r S2 => wp_X12_repetitions D (DIRo P Q r) S2 x) S (o 0) := by
  refine REL.elim hR fun c m F R v n w mv L W yb yl d ye hf lk ev => ?_
  have nw := hf.2.2.2.1.1.1
  have pg := hf.2.2.2.1.1.2.1
  have rg : rgV v := by
    rw [← hf.2.2.2.1.1.2.2.1]
    exact (pg.2.2.1 n pg.2.1.1 (Int.le_refl _)).2
  rw [hf.1.1.2]
  refine q_repetitionsC hf.1.1.1 rg nw.2.2.2.2.2.1 pg ?_
  rw [← hf.1.1.2, hf.1.2.1.2]
  refine q_repetitions hf.1.2.1.1 hf.2.2.2.2.1 (dir_ok hD hf lk ((SIM.rf m).up0 0) hP ?_)
  congr 1
  unfold stoodB
  rw [ev, lk.2.1.1]
  exact sumL_congr _ _ fun k k0 k1 => by rw [lk.2.1.2.1 k k0 (by have := pg.2.1; omega)]
end
