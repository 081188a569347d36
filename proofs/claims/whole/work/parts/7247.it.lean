section
variable {D : wD} {S U : wS} {o : Nat → Nat} {c c' : cM} {x : Nat} {A : Nat → Nat} {m m' : xM} {F R F' R' : Int} {v v' : Int → Int} {n n' : Int} {w w' : Int → Int → Int} {mv mv' : Int → Mv} {L W : List Int} {yb : Nat → Nat} {yl : Int → Nat} {d : Int → SDt} {ye : List Nat} {q q' : Int} {b Ln : Nat} {xs : Nat → Int32} {a3 a4 : Nat} {P Q : wS → Prop} {ε : Bool}
/-- the law's comparison of codes and answers -/
abbrev CMPo (D : wD) (x a3 : Nat) (P Q : wS → Prop) (r1 r3 : Int32) (S4 : wS) : Prop := wp_X12_thrown D (fun r5 S6 =>
    ((r5 = r1 → ((¬ r1 = 0 → P S6) ∧
     (r1 = 0 → vp_in (0 : Int32) (sN S6 a3) ∧
    (((lg_cmp (sJ S6 a3 ((0 : Int32)).toNatClampNeg) (Int32.toInt64 r3)) = 0 → P S6) ∧
     (¬ (lg_cmp (sJ S6 a3 ((0 : Int32)).toNatClampNeg) (Int32.toInt64 r3)) = 0 → Q S6))))) ∧
     (¬ r5 = r1 → Q S6))) S4 x
theorem cmp_ok {r1 r3 : Int32} {S4 : wS} (h : sI S4 x 0 = r1) (hP : P S4) (h0 : r1 = 0 → sN S4 a3 = 1 ∧ sJ S4 a3 0 = Int32.toInt64 r3) : CMPo D x a3 P Q r1 r3 S4 := by
  unfold CMPo wp_X12_thrown wp_X12_thrown_0
  refine ⟨fun _ => ⟨fun _ => hP, fun z => ?_⟩, fun z => absurd h z⟩
  obtain ⟨g1, g2⟩ := h0 z
  refine ⟨by rw [g1]; exact iI_in (a := 0) (by decide) (by decide) (by decide), fun _ => hP, fun y => ?_⟩
  exact absurd ((lg_cmp_eq _ _).mpr (by rw [show ((0 : Int32)).toNatClampNeg = 0 from rfl]; exact g2)) y
/-- the answer comes into the law's row -/
theorem HFo.ans (h : HFo D U o x A [a3, a4] c m F R v n w mv L W yb yl d ye q F' R') (hD : wDok D b Ln xs) (z : Int64) : (a3 ∈ sL U ∧ vp_in (0 : Int32) (sN U a3)) ∧ HFo D (uJ U a3 ((0 : Int32)).toNatClampNeg z) o x A [a3, a4] c m F R v n w mv L W yb yl d ye q F' R' ∧ sJ (uJ U a3 ((0 : Int32)).toNatClampNeg z) a3 0 = z := by
  have e : EX D U (uJ U a3 ((0 : Int32)).toNatClampNeg z) [a3] := EX.rf.uJ (fun _ => List.mem_singleton.mpr rfl) _ _
  have in3 : a3 ∈ ownL D o x A yb yl d ye [a3, a4] := own_mem.mpr (.inr (.inr (by simp)))
  have n1 := (h.2.1.2 a3 (by simp)).2
  refine ⟨⟨(h.2.2.1.2 a3 in3).1, by rw [n1]; exact iI_in (a := 0) (by decide) (by decide) (by decide)⟩, h.law hD.2.2.1.1 hD.2.2.2.2 e (fun a ha => by rw [List.mem_singleton.mp ha]; simp), ?_⟩
  show va_up (sJ U) a3 (va_up (sJ U a3) 0 z) a3 0 = z
  rw [va_up_self, va_up_self]
/-- the reference leaves the law's row alone -/
theorem ans_ref (h : HFo D U o x A [a3, a4] c m F R v n w mv L W yb yl d ye q F' R') (m' : xM) : sJ (xS U x A m') a3 = sJ U a3 ∧ sN (xS U x A m') a3 = 1 := ⟨rfl, (h.2.1.2 a3 (by simp)).2⟩
/-- CALL: gameCount -/
theorem call_gameCount (hD : wDok D b Ln xs) (hR : RELo D S o x A [a3, a4] q ε) {s : Int} (hs : i32 s) {r : wS → Int32} (hr : ∀ S', RELo D S' o x A [a3, a4] q ε → r S' = iI s) (hv : wS → Prop) (hvv : ∀ S', CST D S' → hv S') (hrr : ∀ S', CST D S' → r S' = iI s) (hP : ∀ S', RELo D S' o x A [a3, a4] (q + 1) ε → P S') :
    wp_L_gameCount D (fun r1 S2 => hv S2 ∧ wp_X12_gameCount D (fun r3 S4 => CMPo D x a3 P Q r1 r3 S4) S2 x (r S2)) S (o 0) (iI s) a3 := by
  obtain ⟨c, m, F, R, v, n, w, mv, L, W, yb, yl, d, ye, bf, cs, hp, cl, xr, lk⟩ := hR
  have hf : HFo D S o x A [a3, a4] c m F R v n w mv L W yb yl d ye q F R := ⟨bf, cs, hp, cl, xr⟩
  unfold wp_L_gameCount wp_L_gameCount_0
  have e1 := bf.1.2
  have hSH : SHL D S o c yl (fun i => (d i).1) (fun i => (d i).2.1) (fun i => (d i).2.2.1) (fun i => (d i).2.2.2.1) (fun i => (d i).2.2.2.2.1) (fun i => (d i).2.2.2.2.2.1) (fun i => (d i).2.2.2.2.2.2) := fun i hi => by
    rw [← e1]; exact (cl.2.2.1 i hi).1
  rw [e1]
  refine q_gameCountC bf.1.1 hSH hs (fun z => ⟨rfl, ?_⟩) (fun z => ?_)
  · -- no such shelf
    rw [← e1]
    refine ⟨hvv _ cs.1, ?_⟩
    rw [hrr _ cs.1, bf.2.1.2]
    refine q_gameCount bf.2.1.1 hs (fun _ => ?_) (fun y => by rw [z] at y; exact nomatch y)
    have s0 : SIM m (up m 50 0 1) := (SIM.rf m).up0 1
    exact cmp_ok (by rw [x_i0]; rfl) (hP _ (REL.mk ((hf.refq hD s0).succ (by omega)) (lk.sim s0))) (fun y => absurd y (by decide))
  · rw [← e1]
    obtain ⟨⟨g1, g2⟩, g3, g4⟩ := hf.ans hD (Int32.toInt64 (iI ((d s).1.length : Int)))
    refine ⟨g1, g2, fun S4 e4 => ?_⟩
    rw [e4]
    generalize uJ S a3 ((0 : Int32)).toNatClampNeg (Int32.toInt64 (iI ((d s).1.length : Int))) = S5 at g3 g4
    refine ⟨hvv _ g3.2.1.1, ?_⟩
    rw [hrr _ g3.2.1.1, g3.1.2.1.2]
    refine q_gameCount g3.1.2.1.1 hs (fun y => by rw [z] at y; exact nomatch y) (fun _ => ?_)
    have s0 : SIM m (up m 50 0 0) := (SIM.rf m).up0 0
    have em : m 30 s = ((d s).1.length : Int) := by
      rcases in01.mp z with rfl | rfl
      · exact lk.2.2.2.2.2.1.1.1
      · exact lk.2.2.2.2.2.1.2.1
    refine cmp_ok (by rw [x_i0]; rfl) (hP _ (REL.mk ((g3.refq hD s0).succ (by omega)) (lk.sim s0))) (fun _ => ⟨(ans_ref g3 _).2, ?_⟩)
    rw [(ans_ref g3 _).1, g4, em]
end
