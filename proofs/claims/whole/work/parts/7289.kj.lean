set_option maxHeartbeats 4000000
section
variable {D : wD} {o : Nat → Nat} {x : Nat} {A : Nat → Nat} {b L : Nat} {xs : Nat → Int32} {a3 a4 : Nat}
/-- THE LAW'S LOOP: q calls behind, k before it -/
theorem law_loop (hD : wDok D b L xs) (hL : L ≤ 2560) : ∀ (n k q : Nat) (ε : Bool) (bc bs : Nat) (S : wS), k < n → q + k = L / 5 → RELo D S o x A [a3, a4] (q : Int) ε → 1010 * k ≤ bc → 12000 * k + (if ε then 0 else 171881) ≤ bs → wp_L_law_28 D (fun r _ => r = 1) n bc bs S b (o 0) x a3 a4 (iI (5 * (q : Int))) := by
  intro n
  induction n with
  | zero => intro k q ε bc bs S hk; omega
  | succ n ih =>
  intro k q ε bc bs S hk hq hR hbc hbs
  have cst := REL.cst hR
  have sc := cst.scr hD
  have eN : Int32.ofNat (sN S b) = iI (L : Int) := by rw [sc.2.1]; rfl
  unfold wp_L_law_28
  rw [eN, show (5 : Int32) = iI 5 from rfl, iI_sub, iI_lt (by omega) (by omega) (by omega) (by omega)]
  refine ⟨fun _ => rfl, fun h5 => ?_⟩
  obtain ⟨k, rfl⟩ : ∃ k', k = k' + 1 := ⟨k - 1, by omega⟩
  generalize hB0 : (if ε then 0 else 171881) = B at hbs
  have hB : ε = false → B = 171881 := fun e => by rw [← hB0, e]; rfl
  have nx : ∀ (ε' : Bool) (bc' bs' : Nat) (S' : wS), RELo D S' o x A [a3, a4] ((q : Int) + 1) ε' → 1010 * k ≤ bc' → 12000 * k + (if ε' then 0 else 171881) ≤ bs' → wp_L_law_3394 D (fun r _ => r = 1) (wp_L_law_28 D (fun r _ => r = 1) n) bc' bs' S' b (o 0) x a3 a4 (iI (5 * (q : Int))) := fun ε' bc' bs' S' h h1 h2 => by
    unfold wp_L_law_3394
    intro x1 ex1
    rw [ex1, show (5 : Int32) = iI 5 from rfl, iI_add, show 5 * (q : Int) + 5 = 5 * ((q + 1 : Nat) : Int) by omega]
    exact ih k (q + 1) ε' bc' bs' S' (by omega) (by omega) (by rw [show ((q + 1 : Nat) : Int) = (q : Int) + 1 by omega]; exact h) h1 h2
  generalize hsv : (fun j : Nat => (xs (5 * q + j)).toInt) = sv
  have i : ∀ j, i32 (sv j) := fun j => by
    rw [← hsv]
    exact ⟨Int32.le_toInt _, Int32.toInt_lt _⟩
  have scr : ∀ j : Nat, j < 5 → ∀ S', CST D S' → vp_in (iI (5 * (q : Int)) + iI (j : Int)) (sN S' b) ∧ sI S' b ((iI (5 * (q : Int)) + iI (j : Int))).toNatClampNeg = iI (sv j) := fun j hj S' h => by
    have g := h.scr hD
    rw [iI_add, g.2.1]
    refine ⟨iI_in (by omega) (by omega) (by omega), ?_⟩
    have en : (iI (5 * (q : Int) + (j : Int))).toNatClampNeg = 5 * q + j := by have := iI_nat (a := 5 * (q : Int) + (j : Int)) (by omega) (by omega); omega
    rw [en, g.2.2 _ (by omega), ← hsv]
    exact (iI_of _).symm
  have s1 : ∀ S', CST D S' → vp_in (iI (5 * (q : Int)) + (1 : Int32)) (sN S' b) ∧ sI S' b ((iI (5 * (q : Int)) + (1 : Int32))).toNatClampNeg = iI (sv 1) := scr 1 (by decide)
  have s2 : ∀ S', CST D S' → vp_in (iI (5 * (q : Int)) + (2 : Int32)) (sN S' b) ∧ sI S' b ((iI (5 * (q : Int)) + (2 : Int32))).toNatClampNeg = iI (sv 2) := scr 2 (by decide)
  have s3 : ∀ S', CST D S' → vp_in (iI (5 * (q : Int)) + (3 : Int32)) (sN S' b) ∧ sI S' b ((iI (5 * (q : Int)) + (3 : Int32))).toNatClampNeg = iI (sv 3) := scr 3 (by decide)
  have s4 : ∀ S', CST D S' → vp_in (iI (5 * (q : Int)) + (4 : Int32)) (sN S' b) ∧ sI S' b ((iI (5 * (q : Int)) + (4 : Int32))).toNatClampNeg = iI (sv 4) := scr 4 (by decide)
  have zz : ∀ j, (iI (sv j) = (0 : Int32)) = (sv j = 0) := fun j => by rw [show (0 : Int32) = iI 0 from rfl, iI_eq (i j).1 (i j).2 (by decide) (by decide)]
  have z1 := zz 1
  have z2 := zz 2
  refine ⟨by rw [sc.2.1]; exact iI_in (by omega) (by omega) (by omega), fun x3 _ => ?_⟩
  clear hsv
  subst hB0
  refine ⟨fun _ => ?_, fun _ => ?_, fun _ => ?_, fun _ => ?_, fun _ => ?_, fun _ => ?_, fun _ => ?_, fun _ => ?_, fun _ => ?_, fun _ => ?_, fun _ => ?_, fun _ => ?_, fun _ => ?_, fun _ => ?_, fun _ => ?_, fun _ => ?_, fun _ => ?_, fun _ => ?_, fun _ => ?_, fun _ => ?_, fun _ => ?_, fun _ => ?_, fun _ => ?_, fun _ => ?_, fun _ => ?_, fun _ => ?_, fun _ => ?_, fun _ => ?_, fun _ => ?_, fun _ => ?_, fun _ => ?_, fun _ => ?_, fun _ => ?_, fun _ => ?_, fun _ => ?_, fun _ => ?_, fun _ => ?_, fun _ => ?_, fun _ => ?_, fun _ => ?_, fun _ => ?_, fun _ => ?_, fun _ => ?_, fun _ => ?_, fun _ => ?_, fun _ => ?_, fun _ => ?_, fun _ => ?_, fun _ => ?_, fun _ => ?_, fun _ => ?_, fun _ => ?_, fun _ => ?_, fun _ => ?_, fun _ => ?_, fun _ => ?_, fun _ => ?_, fun _ => ?_, fun _ => ?_, fun _ => ?_, fun _ => ?_, ?_⟩
  · -- 0
    refine ⟨(s1 S cst).1, (s2 S cst).1, by omega, by omega, ?_⟩
    rw [(s1 S cst).2, (s2 S cst).2]
    refine (congrArg (fun p => wp_L_newBoard D p S (o 0) (iI (sv 1)) (iI (sv 2)) a3) as2).mpr ?_
    exact call_newBoard hD hR (i 1) (i 2) (r := (fun S' => sI S' b ((iI (5 * (q : Int)) + (1 : Int32))).toNatClampNeg)) (r' := (fun S' => sI S' b ((iI (5 * (q : Int)) + (2 : Int32))).toNatClampNeg)) (hv := fun S' => vp_in (iI (5 * (q : Int)) + (1 : Int32)) (sN S' b) ∧ vp_in (iI (5 * (q : Int)) + (2 : Int32)) (sN S' b)) (fun S' h => ⟨⟨(s1 S' h).1, (s2 S' h).1⟩, (s1 S' h).2, (s2 S' h).2⟩) (P := fun S' => wp_L_law_3394 D (fun r _ => r = 1) (wp_L_law_28 D (fun r _ => r = 1) n) (bc - 1) (bs - 6) S' b (o 0) x a3 a4 (iI (5 * (q : Int)))) (Q := fun _ => (0 : Int32) = 1) (fun S' h => nx ε (bc - 1) (bs - 6) S' h (by omega) (by omega))
  · -- 1
    exact call_startHere hD hR (P := fun S' => wp_L_law_3394 D (fun r _ => r = 1) (wp_L_law_28 D (fun r _ => r = 1) n) bc bs S' b (o 0) x a3 a4 (iI (5 * (q : Int)))) (Q := fun _ => (0 : Int32) = 1) (fun S' h => nx ε bc bs S' h (by omega) (by omega))
  · -- 2
    refine ⟨(s1 S cst).1, (s2 S cst).1, by omega, by omega, ?_⟩
    rw [(s1 S cst).2, (s2 S cst).2]
    refine (congrArg (fun p => wp_L_put D p S (o 0) (iI (sv 1)) (iI (sv 2)) a3) as2).mpr ?_
    exact call_put hD hR (i 1) (i 2) (r := (fun S' => sI S' b ((iI (5 * (q : Int)) + (1 : Int32))).toNatClampNeg)) (r' := (fun S' => sI S' b ((iI (5 * (q : Int)) + (2 : Int32))).toNatClampNeg)) (hv := fun S' => vp_in (iI (5 * (q : Int)) + (1 : Int32)) (sN S' b) ∧ vp_in (iI (5 * (q : Int)) + (2 : Int32)) (sN S' b)) (fun S' h => ⟨⟨(s1 S' h).1, (s2 S' h).1⟩, (s1 S' h).2, (s2 S' h).2⟩) (P := fun S' => wp_L_law_3394 D (fun r _ => r = 1) (wp_L_law_28 D (fun r _ => r = 1) n) (bc - 2) (bs - 12) S' b (o 0) x a3 a4 (iI (5 * (q : Int)))) (Q := fun _ => (0 : Int32) = 1) (fun S' h => nx ε (bc - 2) (bs - 12) S' h (by omega) (by omega))
  · -- 3
    have key : ∀ t : Int, (t = 0 ∨ t = 1) → (t = 0 ↔ sv 1 = 0) → wp_L_law_468 D (fun r _ => r = 1) (wp_L_law_28 D (fun r _ => r = 1) n) bc bs S b (o 0) x a3 a4 (iI (5 * (q : Int))) (o 0) (iI t) := fun t ht hz => by
      unfold wp_L_law_468
      refine ⟨(s2 S cst).1, by omega, by omega, ?_⟩
      rw [(s2 S cst).2]
      refine call_setSide2 hD hR ht (i 2) (P := fun S' => wp_L_law_3394 D (fun r _ => r = 1) (wp_L_law_28 D (fun r _ => r = 1) n) (bc - 1) (bs - 6) S' b (o 0) x a3 a4 (iI (5 * (q : Int)))) (Q := fun _ => (0 : Int32) = 1) (fun r1 S2 h2 w => ?_) (fun S' h => nx ε (bc - 1) (bs - 6) S' h (by omega) (by omega))
      rw [(s1 S2 h2).2, z1]
      refine ⟨(s1 S2 h2).1, fun z => ?_, fun z => ?_⟩
      · have e : t = 0 := hz.mpr z
        rw [e] at w
        unfold wp_L_law_495
        exact ⟨(s2 S2 h2).1, by rw [(s2 S2 h2).2]; exact w⟩
      · have e : t = 1 := ht.resolve_left fun y => z (hz.mp y)
        rw [e] at w
        unfold wp_L_law_495
        exact ⟨(s2 S2 h2).1, by rw [(s2 S2 h2).2]; exact w⟩
    rw [(s1 S cst).2, z1]
    exact ⟨(s1 S cst).1, fun z => key 0 (.inl rfl) ⟨fun _ => z, fun _ => rfl⟩, fun z => key 1 (.inr rfl) ⟨fun y => absurd y (by decide), fun y => absurd y z⟩⟩
  · -- 4
    exact ⟨1010, 12000, by omega, by omega, call_readPaper hD hR ⟨Nat.le_refl _, Nat.le_refl _⟩ (P := fun S' => wp_L_law_3394 D (fun r _ => r = 1) (wp_L_law_28 D (fun r _ => r = 1) n) (bc - 1010) (bs - 12000) S' b (o 0) x a3 a4 (iI (5 * (q : Int)))) (Q := fun _ => (0 : Int32) = 1) (fun S' h => nx ε (bc - 1010) (bs - 12000) S' h (by omega) (by omega))⟩
  · -- 5
    refine ⟨(s1 S cst).1, by omega, by omega, ?_⟩
    rw [(s1 S cst).2]
    exact call_pieceAt hD hR (i 1) (r := (fun S' => sI S' b ((iI (5 * (q : Int)) + (1 : Int32))).toNatClampNeg)) (hv := fun S' => vp_in (iI (5 * (q : Int)) + (1 : Int32)) (sN S' b)) (fun S' h => s1 S' h) (P := fun S' => wp_L_law_3394 D (fun r _ => r = 1) (wp_L_law_28 D (fun r _ => r = 1) n) (bc - 1) (bs - 6) S' b (o 0) x a3 a4 (iI (5 * (q : Int)))) (Q := fun _ => (0 : Int32) = 1) (fun S' h => nx ε (bc - 1) (bs - 6) S' h (by omega) (by omega))
  · -- 6
    exact call_white hD hR (P := fun S' => wp_L_law_3394 D (fun r _ => r = 1) (wp_L_law_28 D (fun r _ => r = 1) n) bc bs S' b (o 0) x a3 a4 (iI (5 * (q : Int)))) (Q := fun _ => (0 : Int32) = 1) (fun S' h => nx ε bc bs S' h (by omega) (by omega))
  · -- 7
    exact call_rights hD hR (P := fun S' => wp_L_law_3394 D (fun r _ => r = 1) (wp_L_law_28 D (fun r _ => r = 1) n) bc bs S' b (o 0) x a3 a4 (iI (5 * (q : Int)))) (Q := fun _ => (0 : Int32) = 1) (fun S' h => nx ε bc bs S' h (by omega) (by omega))
  · -- 8
    exact call_passing hD hR (P := fun S' => wp_L_law_3394 D (fun r _ => r = 1) (wp_L_law_28 D (fun r _ => r = 1) n) bc bs S' b (o 0) x a3 a4 (iI (5 * (q : Int)))) (Q := fun _ => (0 : Int32) = 1) (fun S' h => nx ε bc bs S' h (by omega) (by omega))
  · -- 9
    exact call_isProper hD hR (P := fun S' => wp_L_law_3394 D (fun r _ => r = 1) (wp_L_law_28 D (fun r _ => r = 1) n) bc bs S' b (o 0) x a3 a4 (iI (5 * (q : Int)))) (Q := fun _ => (0 : Int32) = 1) (fun S' h => nx ε bc bs S' h (by omega) (by omega))
  · -- 10
    have key : ∀ t : Int, (t = 0 ∨ t = 1) → (t = 0 ↔ sv 2 = 0) → wp_L_law_710 D (fun r _ => r = 1) (wp_L_law_28 D (fun r _ => r = 1) n) bc bs S b (o 0) x a3 a4 (iI (5 * (q : Int))) (o 0) (iI (sv 1)) (iI t) := fun t ht hz => by
      unfold wp_L_law_710
      refine ⟨by omega, by omega, ?_⟩
      refine call_isAttacked hD hR (i 1) ht (P := fun S' => wp_L_law_3394 D (fun r _ => r = 1) (wp_L_law_28 D (fun r _ => r = 1) n) (bc - 1) (bs - 6) S' b (o 0) x a3 a4 (iI (5 * (q : Int)))) (Q := fun _ => (0 : Int32) = 1) (fun r1 S2 h2 w => ?_) (fun S' h => nx ε (bc - 1) (bs - 6) S' h (by omega) (by omega))
      rw [(s2 S2 h2).2, z2, (s1 S2 h2).2]
      refine ⟨(s1 S2 h2).1, (s2 S2 h2).1, fun z => ?_, fun z => ?_⟩
      · have e : t = 0 := hz.mpr z
        rw [e] at w
        exact w
      · have e : t = 1 := ht.resolve_left fun y => z (hz.mp y)
        rw [e] at w
        exact w
    rw [(s2 S cst).2, z2, (s1 S cst).2]
    exact ⟨(s1 S cst).1, (s2 S cst).1, fun z => key 0 (.inl rfl) ⟨fun _ => z, fun _ => rfl⟩, fun z => key 1 (.inr rfl) ⟨fun y => absurd y (by decide), fun y => absurd y z⟩⟩
  · -- 11
    exact ⟨by omega, by omega, call_checkers hD hR (P := fun S' => wp_L_law_3394 D (fun r _ => r = 1) (wp_L_law_28 D (fun r _ => r = 1) n) (bc - 1) (bs - 6) S' b (o 0) x a3 a4 (iI (5 * (q : Int)))) (Q := fun _ => (0 : Int32) = 1) (fun S' h => nx ε (bc - 1) (bs - 6) S' h (by omega) (by omega))⟩
  · -- 12
    refine ⟨(s1 S cst).1, by omega, by omega, ?_⟩
    rw [(s1 S cst).2]
    exact call_isPinned hD hR (i 1) (r := (fun S' => sI S' b ((iI (5 * (q : Int)) + (1 : Int32))).toNatClampNeg)) (hv := fun S' => vp_in (iI (5 * (q : Int)) + (1 : Int32)) (sN S' b)) (fun S' h => s1 S' h) (P := fun S' => wp_L_law_3394 D (fun r _ => r = 1) (wp_L_law_28 D (fun r _ => r = 1) n) (bc - 2) (bs - 12) S' b (o 0) x a3 a4 (iI (5 * (q : Int)))) (Q := fun _ => (0 : Int32) = 1) (fun S' h => nx ε (bc - 2) (bs - 12) S' h (by omega) (by omega))
  · -- 13
    exact ⟨10, 12000, by omega, by omega, call_writePaper hD hR (P := fun S' => wp_L_law_3394 D (fun r _ => r = 1) (wp_L_law_28 D (fun r _ => r = 1) n) (bc - 10) (bs - 12000) S' b (o 0) x a3 a4 (iI (5 * (q : Int)))) (Q := fun _ => (0 : Int32) = 1) (fun S' h => nx ε (bc - 10) (bs - 12000) S' h (by omega) (by omega))⟩
  · -- 14
    refine ⟨(s1 S cst).1, by omega, by omega, ?_⟩
    rw [(s1 S cst).2]
    exact call_outputByte hD hR (i 1) (r := (fun S' => sI S' b ((iI (5 * (q : Int)) + (1 : Int32))).toNatClampNeg)) (hv := fun S' => vp_in (iI (5 * (q : Int)) + (1 : Int32)) (sN S' b)) (fun S' h => s1 S' h) (P := fun S' => wp_L_law_3394 D (fun r _ => r = 1) (wp_L_law_28 D (fun r _ => r = 1) n) (bc - 1) (bs - 6) S' b (o 0) x a3 a4 (iI (5 * (q : Int)))) (Q := fun _ => (0 : Int32) = 1) (fun S' h => nx ε (bc - 1) (bs - 6) S' h (by omega) (by omega))
  · -- 15
    have key : ∀ t : Int, (t = 0 ∨ t = 1) → (t = 0 ↔ sv 1 = 0) → wp_L_law_971 D (fun r _ => r = 1) (wp_L_law_28 D (fun r _ => r = 1) n) bc bs S b (o 0) x a3 a4 (iI (5 * (q : Int))) (o 0) (iI t) := fun t ht hz => by
      unfold wp_L_law_971
      refine call_material hD hR ht (P := fun S' => wp_L_law_3394 D (fun r _ => r = 1) (wp_L_law_28 D (fun r _ => r = 1) n) bc bs S' b (o 0) x a3 a4 (iI (5 * (q : Int)))) (Q := fun _ => (0 : Int32) = 1) (fun r1 S2 h2 w => ?_) (fun S' h => nx ε bc bs S' h (by omega) (by omega))
      rw [(s1 S2 h2).2, z1]
      refine ⟨(s1 S2 h2).1, fun z => ?_, fun z => ?_⟩
      · have e : t = 0 := hz.mpr z
        rw [e] at w
        exact w
      · have e : t = 1 := ht.resolve_left fun y => z (hz.mp y)
        rw [e] at w
        exact w
    rw [(s1 S cst).2, z1]
    exact ⟨(s1 S cst).1, fun z => key 0 (.inl rfl) ⟨fun _ => z, fun _ => rfl⟩, fun z => key 1 (.inr rfl) ⟨fun y => absurd y (by decide), fun y => absurd y z⟩⟩
  · -- 16
    refine ⟨(s1 S cst).1, by omega, by omega, ?_⟩
    rw [(s1 S cst).2]
    exact call_isOpenFile hD hR (i 1) (r := (fun S' => sI S' b ((iI (5 * (q : Int)) + (1 : Int32))).toNatClampNeg)) (hv := fun S' => vp_in (iI (5 * (q : Int)) + (1 : Int32)) (sN S' b)) (fun S' h => s1 S' h) (P := fun S' => wp_L_law_3394 D (fun r _ => r = 1) (wp_L_law_28 D (fun r _ => r = 1) n) (bc - 1) (bs - 6) S' b (o 0) x a3 a4 (iI (5 * (q : Int)))) (Q := fun _ => (0 : Int32) = 1) (fun S' h => nx ε (bc - 1) (bs - 6) S' h (by omega) (by omega))
  · -- 17
    exact ⟨by omega, by omega, call_moveCount hD hR (P := fun S' => wp_L_law_3394 D (fun r _ => r = 1) (wp_L_law_28 D (fun r _ => r = 1) n) (bc - 1) (bs - 6) S' b (o 0) x a3 a4 (iI (5 * (q : Int)))) (Q := fun _ => (0 : Int32) = 1) (fun S' h => nx ε (bc - 1) (bs - 6) S' h (by omega) (by omega))⟩
  · -- 18
    refine ⟨(s1 S cst).1, by omega, by omega, ?_⟩
    rw [(s1 S cst).2]
    exact call_moveFrom hD hR (i 1) (r := (fun S' => sI S' b ((iI (5 * (q : Int)) + (1 : Int32))).toNatClampNeg)) (hv := fun S' => vp_in (iI (5 * (q : Int)) + (1 : Int32)) (sN S' b)) (fun S' h => s1 S' h) (P := fun S' => wp_L_law_3394 D (fun r _ => r = 1) (wp_L_law_28 D (fun r _ => r = 1) n) (bc - 2) (bs - 12) S' b (o 0) x a3 a4 (iI (5 * (q : Int)))) (Q := fun _ => (0 : Int32) = 1) (fun S' h => nx ε (bc - 2) (bs - 12) S' h (by omega) (by omega))
  · -- 19
    refine ⟨(s1 S cst).1, by omega, by omega, ?_⟩
    rw [(s1 S cst).2]
    exact call_moveTo hD hR (i 1) (r := (fun S' => sI S' b ((iI (5 * (q : Int)) + (1 : Int32))).toNatClampNeg)) (hv := fun S' => vp_in (iI (5 * (q : Int)) + (1 : Int32)) (sN S' b)) (fun S' h => s1 S' h) (P := fun S' => wp_L_law_3394 D (fun r _ => r = 1) (wp_L_law_28 D (fun r _ => r = 1) n) (bc - 2) (bs - 12) S' b (o 0) x a3 a4 (iI (5 * (q : Int)))) (Q := fun _ => (0 : Int32) = 1) (fun S' h => nx ε (bc - 2) (bs - 12) S' h (by omega) (by omega))
  · -- 20
    refine ⟨(s1 S cst).1, by omega, by omega, ?_⟩
    rw [(s1 S cst).2]
    exact call_moveBecomes hD hR (i 1) (r := (fun S' => sI S' b ((iI (5 * (q : Int)) + (1 : Int32))).toNatClampNeg)) (hv := fun S' => vp_in (iI (5 * (q : Int)) + (1 : Int32)) (sN S' b)) (fun S' h => s1 S' h) (P := fun S' => wp_L_law_3394 D (fun r _ => r = 1) (wp_L_law_28 D (fun r _ => r = 1) n) (bc - 2) (bs - 12) S' b (o 0) x a3 a4 (iI (5 * (q : Int)))) (Q := fun _ => (0 : Int32) = 1) (fun S' h => nx ε (bc - 2) (bs - 12) S' h (by omega) (by omega))
  · -- 21
    refine ⟨(s1 S cst).1, 1010, 12000, by omega, by omega, ?_⟩
    rw [(s1 S cst).2]
    exact call_writeMove hD hR (i 1) (r := (fun S' => sI S' b ((iI (5 * (q : Int)) + (1 : Int32))).toNatClampNeg)) (hv := fun S' => vp_in (iI (5 * (q : Int)) + (1 : Int32)) (sN S' b)) (fun S' h => s1 S' h) ⟨Nat.le_refl _, Nat.le_refl _⟩ (P := fun S' => wp_L_law_3394 D (fun r _ => r = 1) (wp_L_law_28 D (fun r _ => r = 1) n) (bc - 1010) (bs - 12000) S' b (o 0) x a3 a4 (iI (5 * (q : Int)))) (Q := fun _ => (0 : Int32) = 1) (fun S' h => nx ε (bc - 1010) (bs - 12000) S' h (by omega) (by omega))
  · -- 22
    refine ⟨(s1 S cst).1, by omega, by omega, ?_⟩
    rw [(s1 S cst).2]
    exact call_play hD hR (i 1) (r := (fun S' => sI S' b ((iI (5 * (q : Int)) + (1 : Int32))).toNatClampNeg)) (hv := fun S' => vp_in (iI (5 * (q : Int)) + (1 : Int32)) (sN S' b)) (fun S' h => s1 S' h) (P := fun S' => wp_L_law_3394 D (fun r _ => r = 1) (wp_L_law_28 D (fun r _ => r = 1) n) (bc - 3) (bs - 18) S' b (o 0) x a3 a4 (iI (5 * (q : Int)))) (Q := fun _ => (0 : Int32) = 1) (fun S' h => nx ε (bc - 3) (bs - 18) S' h (by omega) (by omega))
  · -- 23
    exact ⟨by omega, by omega, call_takeBack hD hR (P := fun S' => wp_L_law_3394 D (fun r _ => r = 1) (wp_L_law_28 D (fun r _ => r = 1) n) (bc - 1) (bs - 6) S' b (o 0) x a3 a4 (iI (5 * (q : Int)))) (Q := fun _ => (0 : Int32) = 1) (fun S' h => nx ε (bc - 1) (bs - 6) S' h (by omega) (by omega))⟩
  · -- 24
    exact call_madeCount hD hR (P := fun S' => wp_L_law_3394 D (fun r _ => r = 1) (wp_L_law_28 D (fun r _ => r = 1) n) bc bs S' b (o 0) x a3 a4 (iI (5 * (q : Int)))) (Q := fun _ => (0 : Int32) = 1) (fun S' h => nx ε bc bs S' h (by omega) (by omega))
  · -- 25
    exact ⟨by omega, by omega, call_state hD hR (P := fun S' => wp_L_law_3394 D (fun r _ => r = 1) (wp_L_law_28 D (fun r _ => r = 1) n) (bc - 1) (bs - 6) S' b (o 0) x a3 a4 (iI (5 * (q : Int)))) (Q := fun _ => (0 : Int32) = 1) (fun S' h => nx ε (bc - 1) (bs - 6) S' h (by omega) (by omega))⟩
  · -- 26
    exact call_repetitions hD hR (P := fun S' => wp_L_law_3394 D (fun r _ => r = 1) (wp_L_law_28 D (fun r _ => r = 1) n) bc bs S' b (o 0) x a3 a4 (iI (5 * (q : Int)))) (Q := fun _ => (0 : Int32) = 1) (fun S' h => nx ε bc bs S' h (by omega) (by omega))
  · -- 27
    have key : ∀ t : Int, (t = 0 ∨ t = 1) → (t = 0 ↔ sv 2 = 0) → wp_L_law_1519 D (fun r _ => r = 1) (wp_L_law_28 D (fun r _ => r = 1) n) bc bs S b (o 0) x a3 a4 (iI (5 * (q : Int))) (o 0) (iI (sv 1)) (iI t) := fun t ht hz => by
      unfold wp_L_law_1519
      refine ⟨by omega, by omega, ?_⟩
      refine call_countMoves hD hR (z2 := iI t) (i 1) (P := fun S' => wp_L_law_3394 D (fun r _ => r = 1) (wp_L_law_28 D (fun r _ => r = 1) n) (bc - 1) (bs - 6) S' b (o 0) x a3 a4 (iI (5 * (q : Int)))) (Q := fun _ => (0 : Int32) = 1) (fun r1 S2 h2 w => ?_) (fun S' h => nx ε (bc - 1) (bs - 6) S' h (by omega) (by omega))
      rw [(s2 S2 h2).2, z2, (s1 S2 h2).2]
      refine ⟨(s1 S2 h2).1, (s2 S2 h2).1, fun z => ?_, fun z => ?_⟩
      · have e : t = 0 := hz.mpr z
        rw [e] at w
        exact w
      · have e : t = 1 := ht.resolve_left fun y => z (hz.mp y)
        rw [e] at w
        exact w
    rw [(s2 S cst).2, z2, (s1 S cst).2]
    exact ⟨(s1 S cst).1, (s2 S cst).1, fun z => key 0 (.inl rfl) ⟨fun _ => z, fun _ => rfl⟩, fun z => key 1 (.inr rfl) ⟨fun y => absurd y (by decide), fun y => absurd y z⟩⟩
  · -- 28
    refine ⟨(s1 S cst).1, (s2 S cst).1, 1010, 12000, by omega, by omega, ?_⟩
    refine (congrArg (fun p => wp_L_type D p 1010 12000 S (o 0) ((jlshl (Int32.toInt64 (sI S b ((iI (5 * (q : Int)) + (1 : Int32))).toNatClampNeg)) (32 : Int32)) ||| ((Int32.toInt64 (sI S b ((iI (5 * (q : Int)) + (2 : Int32))).toNatClampNeg)) &&& (4294967295 : Int64))) a3) as2).mpr ?_
    exact call_type hD hR (z := ((jlshl (Int32.toInt64 (sI S b ((iI (5 * (q : Int)) + (1 : Int32))).toNatClampNeg)) (32 : Int32)) ||| ((Int32.toInt64 (sI S b ((iI (5 * (q : Int)) + (2 : Int32))).toNatClampNeg)) &&& (4294967295 : Int64)))) (r := fun S' => ((jlshl (Int32.toInt64 (sI S' b ((iI (5 * (q : Int)) + (1 : Int32))).toNatClampNeg)) (32 : Int32)) ||| ((Int32.toInt64 (sI S' b ((iI (5 * (q : Int)) + (2 : Int32))).toNatClampNeg)) &&& (4294967295 : Int64)))) (hv := fun S' => vp_in (iI (5 * (q : Int)) + (1 : Int32)) (sN S' b) ∧ vp_in (iI (5 * (q : Int)) + (2 : Int32)) (sN S' b)) (fun S' h => ⟨⟨(s1 S' h).1, (s2 S' h).1⟩, by rw [(s1 S' h).2, (s2 S' h).2, (s1 S cst).2, (s2 S cst).2]⟩) ⟨Nat.le_refl _, Nat.le_refl _⟩ (P := fun S' => wp_L_law_3394 D (fun r _ => r = 1) (wp_L_law_28 D (fun r _ => r = 1) n) (bc - 1010) (bs - 12000) S' b (o 0) x a3 a4 (iI (5 * (q : Int)))) (Q := fun _ => (0 : Int32) = 1) (fun S' h => nx ε (bc - 1010) (bs - 12000) S' h (by omega) (by omega))
  · -- 29
    exact ⟨0, 0, by omega, by omega, call_clearText hD hR (P := fun S' => wp_L_law_3394 D (fun r _ => r = 1) (wp_L_law_28 D (fun r _ => r = 1) n) (bc - 0) (bs - 0) S' b (o 0) x a3 a4 (iI (5 * (q : Int)))) (Q := fun _ => (0 : Int32) = 1) (fun S' h => nx ε (bc - 0) (bs - 0) S' h (by omega) (by omega))⟩
  · -- 30
    exact ⟨by omega, by omega, call_fault hD hR (P := fun S' => wp_L_law_3394 D (fun r _ => r = 1) (wp_L_law_28 D (fun r _ => r = 1) n) (bc - 1) (bs - 6) S' b (o 0) x a3 a4 (iI (5 * (q : Int)))) (Q := fun _ => (0 : Int32) = 1) (fun S' h => nx ε (bc - 1) (bs - 6) S' h (by omega) (by omega))⟩
  · -- 31
    exact ⟨1010, 12000, by omega, by omega, call_readMoves hD hR ⟨Nat.le_refl _, Nat.le_refl _⟩ (P := fun S' => wp_L_law_3394 D (fun r _ => r = 1) (wp_L_law_28 D (fun r _ => r = 1) n) (bc - 1010) (bs - 12000) S' b (o 0) x a3 a4 (iI (5 * (q : Int)))) (Q := fun _ => (0 : Int32) = 1) (fun S' h => nx ε (bc - 1010) (bs - 12000) S' h (by omega) (by omega))⟩
  · -- 32
    exact call_variation hD hR (P := fun S' => wp_L_law_3394 D (fun r _ => r = 1) (wp_L_law_28 D (fun r _ => r = 1) n) bc bs S' b (o 0) x a3 a4 (iI (5 * (q : Int)))) (Q := fun _ => (0 : Int32) = 1) (fun S' h => nx ε bc bs S' h (by omega) (by omega))
  · -- 33
    refine ⟨(s1 S cst).1, (s2 S cst).1, (s3 S cst).1, (s4 S cst).1, 1010, 12000, by omega, by omega, ?_⟩
    rw [(s1 S cst).2, (s2 S cst).2, (s3 S cst).2, (s4 S cst).2]
    refine (congrArg (fun p => wp_L_addGame D p 1010 12000 S (o 0) (iI (sv 1)) (iI (sv 2)) (iI (sv 3)) (iI (sv 4)) a3) as4).mpr ?_
    exact call_addGame hD hR (by omega) (i 1) (i 2) (i 3) (i 4) (r := (fun S' => sI S' b ((iI (5 * (q : Int)) + (1 : Int32))).toNatClampNeg)) (r1 := (fun S' => sI S' b ((iI (5 * (q : Int)) + (2 : Int32))).toNatClampNeg)) (r2 := (fun S' => sI S' b ((iI (5 * (q : Int)) + (3 : Int32))).toNatClampNeg)) (r3 := (fun S' => sI S' b ((iI (5 * (q : Int)) + (4 : Int32))).toNatClampNeg)) (hv := fun S' => vp_in (iI (5 * (q : Int)) + (1 : Int32)) (sN S' b) ∧ vp_in (iI (5 * (q : Int)) + (2 : Int32)) (sN S' b) ∧ vp_in (iI (5 * (q : Int)) + (3 : Int32)) (sN S' b) ∧ vp_in (iI (5 * (q : Int)) + (4 : Int32)) (sN S' b)) (fun S' h => ⟨⟨(s1 S' h).1, (s2 S' h).1, (s3 S' h).1, (s4 S' h).1⟩, (s1 S' h).2, (s2 S' h).2, (s3 S' h).2, (s4 S' h).2⟩) ⟨Nat.le_refl _, Nat.le_refl _⟩ (P := fun S' => wp_L_law_3394 D (fun r _ => r = 1) (wp_L_law_28 D (fun r _ => r = 1) n) (bc - 1010) (bs - 12000) S' b (o 0) x a3 a4 (iI (5 * (q : Int)))) (Q := fun _ => (0 : Int32) = 1) (fun S' h => nx ε (bc - 1010) (bs - 12000) S' h (by omega) (by omega))
  · -- 34
    refine ⟨(s1 S cst).1, by omega, by omega, ?_⟩
    rw [(s1 S cst).2]
    exact call_gameCount hD hR (i 1) (r := (fun S' => sI S' b ((iI (5 * (q : Int)) + (1 : Int32))).toNatClampNeg)) (fun S' h => (s1 S' (REL.cst h)).2) (fun S' => vp_in (iI (5 * (q : Int)) + (1 : Int32)) (sN S' b)) (fun S' h => (s1 S' h).1) (fun S' h => (s1 S' h).2) (P := fun S' => wp_L_law_3394 D (fun r _ => r = 1) (wp_L_law_28 D (fun r _ => r = 1) n) (bc - 1) (bs - 6) S' b (o 0) x a3 a4 (iI (5 * (q : Int)))) (Q := fun _ => (0 : Int32) = 1) (fun S' h => nx ε (bc - 1) (bs - 6) S' h (by omega) (by omega))
  · -- 35
    refine ⟨(s1 S cst).1, (s2 S cst).1, by omega, by omega, ?_⟩
    rw [(s1 S cst).2, (s2 S cst).2]
    refine (congrArg (fun p => wp_L_gameLength D p S (o 0) (iI (sv 1)) (iI (sv 2)) a3) as2).mpr ?_
    exact call_gameLength hD hR (i 1) (i 2) (r := (fun S' => sI S' b ((iI (5 * (q : Int)) + (1 : Int32))).toNatClampNeg)) (r' := (fun S' => sI S' b ((iI (5 * (q : Int)) + (2 : Int32))).toNatClampNeg)) (hv := fun S' => vp_in (iI (5 * (q : Int)) + (1 : Int32)) (sN S' b) ∧ vp_in (iI (5 * (q : Int)) + (2 : Int32)) (sN S' b)) (fun S' h => ⟨⟨(s1 S' h).1, (s2 S' h).1⟩, (s1 S' h).2, (s2 S' h).2⟩) (P := fun S' => wp_L_law_3394 D (fun r _ => r = 1) (wp_L_law_28 D (fun r _ => r = 1) n) (bc - 2) (bs - 12) S' b (o 0) x a3 a4 (iI (5 * (q : Int)))) (Q := fun _ => (0 : Int32) = 1) (fun S' h => nx ε (bc - 2) (bs - 12) S' h (by omega) (by omega))
  · -- 36
    refine ⟨(s1 S cst).1, by omega, by omega, ?_⟩
    rw [(s1 S cst).2]
    exact call_positionCount hD hR (i 1) (r := (fun S' => sI S' b ((iI (5 * (q : Int)) + (1 : Int32))).toNatClampNeg)) (hv := fun S' => vp_in (iI (5 * (q : Int)) + (1 : Int32)) (sN S' b)) (fun S' h => s1 S' h) (P := fun S' => wp_L_law_3394 D (fun r _ => r = 1) (wp_L_law_28 D (fun r _ => r = 1) n) (bc - 1) (bs - 6) S' b (o 0) x a3 a4 (iI (5 * (q : Int)))) (Q := fun _ => (0 : Int32) = 1) (fun S' h => nx ε (bc - 1) (bs - 6) S' h (by omega) (by omega))
  · -- 37
    refine ⟨(s1 S cst).1, by omega, by omega, ?_⟩
    rw [(s1 S cst).2]
    exact call_count hD hR (i 1) (r := (fun S' => sI S' b ((iI (5 * (q : Int)) + (1 : Int32))).toNatClampNeg)) (hv := fun S' => vp_in (iI (5 * (q : Int)) + (1 : Int32)) (sN S' b)) (fun S' h => s1 S' h) (P := fun S' => wp_L_law_3394 D (fun r _ => r = 1) (wp_L_law_28 D (fun r _ => r = 1) n) (bc - 1) (bs - 6) S' b (o 0) x a3 a4 (iI (5 * (q : Int)))) (Q := fun _ => (0 : Int32) = 1) (fun S' h => nx ε (bc - 1) (bs - 6) S' h (by omega) (by omega))
  · -- 38
    refine ⟨(s1 S cst).1, (s2 S cst).1, by omega, by omega, ?_⟩
    rw [(s1 S cst).2, (s2 S cst).2]
    refine (congrArg (fun p => wp_L_countWith D p S (o 0) (iI (sv 1)) (iI (sv 2)) a3) as2).mpr ?_
    exact call_countWith hD hR (i 1) (i 2) (r := (fun S' => sI S' b ((iI (5 * (q : Int)) + (1 : Int32))).toNatClampNeg)) (r' := (fun S' => sI S' b ((iI (5 * (q : Int)) + (2 : Int32))).toNatClampNeg)) (hv := fun S' => vp_in (iI (5 * (q : Int)) + (1 : Int32)) (sN S' b) ∧ vp_in (iI (5 * (q : Int)) + (2 : Int32)) (sN S' b)) (fun S' h => ⟨⟨(s1 S' h).1, (s2 S' h).1⟩, (s1 S' h).2, (s2 S' h).2⟩) (P := fun S' => wp_L_law_3394 D (fun r _ => r = 1) (wp_L_law_28 D (fun r _ => r = 1) n) (bc - 2) (bs - 12) S' b (o 0) x a3 a4 (iI (5 * (q : Int)))) (Q := fun _ => (0 : Int32) = 1) (fun S' h => nx ε (bc - 2) (bs - 12) S' h (by omega) (by omega))
  · -- 39
    refine ⟨(s1 S cst).1, (s2 S cst).1, (s3 S cst).1, by omega, by omega, ?_⟩
    rw [(s1 S cst).2, (s2 S cst).2, (s3 S cst).2]
    refine (congrArg (fun p => wp_L_countYears D p S (o 0) (iI (sv 1)) (iI (sv 2)) (iI (sv 3)) a3) as3).mpr ?_
    exact call_countYears hD hR (i 1) (i 2) (i 3) (r := (fun S' => sI S' b ((iI (5 * (q : Int)) + (1 : Int32))).toNatClampNeg)) (r' := (fun S' => sI S' b ((iI (5 * (q : Int)) + (2 : Int32))).toNatClampNeg)) (r'' := (fun S' => sI S' b ((iI (5 * (q : Int)) + (3 : Int32))).toNatClampNeg)) (hv := fun S' => vp_in (iI (5 * (q : Int)) + (1 : Int32)) (sN S' b) ∧ vp_in (iI (5 * (q : Int)) + (2 : Int32)) (sN S' b) ∧ vp_in (iI (5 * (q : Int)) + (3 : Int32)) (sN S' b)) (fun S' h => ⟨⟨(s1 S' h).1, (s2 S' h).1, (s3 S' h).1⟩, (s1 S' h).2, (s2 S' h).2, (s3 S' h).2⟩) (P := fun S' => wp_L_law_3394 D (fun r _ => r = 1) (wp_L_law_28 D (fun r _ => r = 1) n) (bc - 2) (bs - 12) S' b (o 0) x a3 a4 (iI (5 * (q : Int)))) (Q := fun _ => (0 : Int32) = 1) (fun S' h => nx ε (bc - 2) (bs - 12) S' h (by omega) (by omega))
  · -- 40
    have key : ∀ t : Int, (t = 0 ∨ t = 1) → (t = 0 ↔ sv 2 = 0) → wp_L_law_2281 D (fun r _ => r = 1) (wp_L_law_28 D (fun r _ => r = 1) n) bc bs S b (o 0) x a3 a4 (iI (5 * (q : Int))) (o 0) (iI (sv 1)) (iI t) := fun t ht hz => by
      unfold wp_L_law_2281
      refine ⟨by omega, by omega, ?_⟩
      refine call_meanStrength2 hD hR (i 1) ht (P := fun S' => wp_L_law_3394 D (fun r _ => r = 1) (wp_L_law_28 D (fun r _ => r = 1) n) (bc - 2) (bs - 12) S' b (o 0) x a3 a4 (iI (5 * (q : Int)))) (Q := fun _ => (0 : Int32) = 1) (fun r1 S2 h2 w => ?_) (fun S' h => nx ε (bc - 2) (bs - 12) S' h (by omega) (by omega))
      rw [(s2 S2 h2).2, z2, (s1 S2 h2).2]
      refine ⟨(s1 S2 h2).1, (s2 S2 h2).1, fun z => ?_, fun z => ?_⟩
      · have e : t = 0 := hz.mpr z
        rw [e] at w
        exact w
      · have e : t = 1 := ht.resolve_left fun y => z (hz.mp y)
        rw [e] at w
        exact w
    rw [(s2 S cst).2, z2, (s1 S cst).2]
    exact ⟨(s1 S cst).1, (s2 S cst).1, fun z => key 0 (.inl rfl) ⟨fun _ => z, fun _ => rfl⟩, fun z => key 1 (.inr rfl) ⟨fun y => absurd y (by decide), fun y => absurd y z⟩⟩
  · -- 41
    refine ⟨(s1 S cst).1, by omega, by omega, ?_⟩
    rw [(s1 S cst).2]
    exact call_continuations hD hR (i 1) (r := (fun S' => sI S' b ((iI (5 * (q : Int)) + (1 : Int32))).toNatClampNeg)) (hv := fun S' => vp_in (iI (5 * (q : Int)) + (1 : Int32)) (sN S' b)) (fun S' h => s1 S' h) (P := fun S' => wp_L_law_3394 D (fun r _ => r = 1) (wp_L_law_28 D (fun r _ => r = 1) n) (bc - 2) (bs - 12) S' b (o 0) x a3 a4 (iI (5 * (q : Int)))) (Q := fun _ => (0 : Int32) = 1) (fun S' h => nx ε (bc - 2) (bs - 12) S' h (by omega) (by omega))
  · -- 42
    refine ⟨(s1 S cst).1, (s2 S cst).1, by omega, by omega, ?_⟩
    rw [(s1 S cst).2, (s2 S cst).2]
    refine (congrArg (fun p => wp_L_continuationAt D p S (o 0) (iI (sv 1)) (iI (sv 2)) a3) as2).mpr ?_
    exact call_continuationAt hD hR (i 1) (i 2) (r := (fun S' => sI S' b ((iI (5 * (q : Int)) + (1 : Int32))).toNatClampNeg)) (r' := (fun S' => sI S' b ((iI (5 * (q : Int)) + (2 : Int32))).toNatClampNeg)) (hv := fun S' => vp_in (iI (5 * (q : Int)) + (1 : Int32)) (sN S' b) ∧ vp_in (iI (5 * (q : Int)) + (2 : Int32)) (sN S' b)) (fun S' h => ⟨⟨(s1 S' h).1, (s2 S' h).1⟩, (s1 S' h).2, (s2 S' h).2⟩) (P := fun S' => wp_L_law_3394 D (fun r _ => r = 1) (wp_L_law_28 D (fun r _ => r = 1) n) (bc - 3) (bs - 18) S' b (o 0) x a3 a4 (iI (5 * (q : Int)))) (Q := fun _ => (0 : Int32) = 1) (fun S' h => nx ε (bc - 3) (bs - 18) S' h (by omega) (by omega))
  · -- 43
    refine ⟨(s1 S cst).1, (s2 S cst).1, by omega, by omega, ?_⟩
    rw [(s1 S cst).2, (s2 S cst).2]
    refine (congrArg (fun p => wp_L_gamesOf D p S (o 0) (iI (sv 1)) (iI (sv 2)) a3) as2).mpr ?_
    exact call_gamesOf hD hR (i 1) (i 2) (r := (fun S' => sI S' b ((iI (5 * (q : Int)) + (1 : Int32))).toNatClampNeg)) (r' := (fun S' => sI S' b ((iI (5 * (q : Int)) + (2 : Int32))).toNatClampNeg)) (hv := fun S' => vp_in (iI (5 * (q : Int)) + (1 : Int32)) (sN S' b) ∧ vp_in (iI (5 * (q : Int)) + (2 : Int32)) (sN S' b)) (fun S' h => ⟨⟨(s1 S' h).1, (s2 S' h).1⟩, (s1 S' h).2, (s2 S' h).2⟩) (P := fun S' => wp_L_law_3394 D (fun r _ => r = 1) (wp_L_law_28 D (fun r _ => r = 1) n) (bc - 3) (bs - 18) S' b (o 0) x a3 a4 (iI (5 * (q : Int)))) (Q := fun _ => (0 : Int32) = 1) (fun S' h => nx ε (bc - 3) (bs - 18) S' h (by omega) (by omega))
  · -- 44
    refine ⟨(s1 S cst).1, (s2 S cst).1, by omega, by omega, ?_⟩
    rw [(s1 S cst).2, (s2 S cst).2]
    refine (congrArg (fun p => wp_L_playMain D p S (o 0) (iI (sv 1)) (iI (sv 2)) a3) as2).mpr ?_
    exact call_playMain hD hR (i 1) (i 2) (r := (fun S' => sI S' b ((iI (5 * (q : Int)) + (1 : Int32))).toNatClampNeg)) (r' := (fun S' => sI S' b ((iI (5 * (q : Int)) + (2 : Int32))).toNatClampNeg)) (hv := fun S' => vp_in (iI (5 * (q : Int)) + (1 : Int32)) (sN S' b) ∧ vp_in (iI (5 * (q : Int)) + (2 : Int32)) (sN S' b)) (fun S' h => ⟨⟨(s1 S' h).1, (s2 S' h).1⟩, (s1 S' h).2, (s2 S' h).2⟩) (P := fun S' => wp_L_law_3394 D (fun r _ => r = 1) (wp_L_law_28 D (fun r _ => r = 1) n) (bc - 2) (bs - 12) S' b (o 0) x a3 a4 (iI (5 * (q : Int)))) (Q := fun _ => (0 : Int32) = 1) (fun S' h => nx ε (bc - 2) (bs - 12) S' h (by omega) (by omega))
  · -- 45
    refine ⟨(s1 S cst).1, (s2 S cst).1, by omega, by omega, ?_⟩
    rw [(s1 S cst).2, (s2 S cst).2]
    refine (congrArg (fun p => wp_L_firstNew D p S (o 0) (iI (sv 1)) (iI (sv 2)) a3) as2).mpr ?_
    exact call_firstNew hD hR (i 1) (i 2) (r := (fun S' => sI S' b ((iI (5 * (q : Int)) + (1 : Int32))).toNatClampNeg)) (r' := (fun S' => sI S' b ((iI (5 * (q : Int)) + (2 : Int32))).toNatClampNeg)) (hv := fun S' => vp_in (iI (5 * (q : Int)) + (1 : Int32)) (sN S' b) ∧ vp_in (iI (5 * (q : Int)) + (2 : Int32)) (sN S' b)) (fun S' h => ⟨⟨(s1 S' h).1, (s2 S' h).1⟩, (s1 S' h).2, (s2 S' h).2⟩) (P := fun S' => wp_L_law_3394 D (fun r _ => r = 1) (wp_L_law_28 D (fun r _ => r = 1) n) (bc - 2) (bs - 12) S' b (o 0) x a3 a4 (iI (5 * (q : Int)))) (Q := fun _ => (0 : Int32) = 1) (fun S' h => nx ε (bc - 2) (bs - 12) S' h (by omega) (by omega))
  · -- 46
    exact ⟨40, 4000, by omega, by omega, call_merge hD hR (by omega) (P := fun S' => wp_L_law_3394 D (fun r _ => r = 1) (wp_L_law_28 D (fun r _ => r = 1) n) (bc - 40) (bs - 4000) S' b (o 0) x a3 a4 (iI (5 * (q : Int)))) (Q := fun _ => (0 : Int32) = 1) (fun S' h => nx ε (bc - 40) (bs - 4000) S' h (by omega) (by omega))⟩
  · -- 47
    refine ⟨(s1 S cst).1, (s2 S cst).1, by omega, by omega, ?_⟩
    rw [(s1 S cst).2, (s2 S cst).2]
    refine (congrArg (fun p => wp_L_ask D p S (o 0) (iI (sv 1)) (iI (sv 2)) a3) as2).mpr ?_
    exact call_ask hD hR (i 1) (i 2) (r := (fun S' => sI S' b ((iI (5 * (q : Int)) + (1 : Int32))).toNatClampNeg)) (r' := (fun S' => sI S' b ((iI (5 * (q : Int)) + (2 : Int32))).toNatClampNeg)) (hv := fun S' => vp_in (iI (5 * (q : Int)) + (1 : Int32)) (sN S' b) ∧ vp_in (iI (5 * (q : Int)) + (2 : Int32)) (sN S' b)) (fun S' h => ⟨⟨(s1 S' h).1, (s2 S' h).1⟩, (s1 S' h).2, (s2 S' h).2⟩) (P := fun S' => wp_L_law_3394 D (fun r _ => r = 1) (wp_L_law_28 D (fun r _ => r = 1) n) (bc - 2) (bs - 12) S' b (o 0) x a3 a4 (iI (5 * (q : Int)))) (Q := fun _ => (0 : Int32) = 1) (fun S' h => nx ε (bc - 2) (bs - 12) S' h (by omega) (by omega))
  · -- 48
    exact call_holds hD hR (P := fun S' => wp_L_law_3394 D (fun r _ => r = 1) (wp_L_law_28 D (fun r _ => r = 1) n) bc bs S' b (o 0) x a3 a4 (iI (5 * (q : Int)))) (Q := fun _ => (0 : Int32) = 1) (fun S' h => nx ε bc bs S' h (by omega) (by omega))
  · -- 49
    refine ⟨(s1 S cst).1, by omega, by omega, ?_⟩
    rw [(s1 S cst).2]
    exact call_patternCount hD hR (i 1) (r := (fun S' => sI S' b ((iI (5 * (q : Int)) + (1 : Int32))).toNatClampNeg)) (hv := fun S' => vp_in (iI (5 * (q : Int)) + (1 : Int32)) (sN S' b)) (fun S' h => s1 S' h) (P := fun S' => wp_L_law_3394 D (fun r _ => r = 1) (wp_L_law_28 D (fun r _ => r = 1) n) (bc - 1) (bs - 6) S' b (o 0) x a3 a4 (iI (5 * (q : Int)))) (Q := fun _ => (0 : Int32) = 1) (fun S' h => nx ε (bc - 1) (bs - 6) S' h (by omega) (by omega))
  · -- 50
    exact ⟨by omega, by omega, call_forcesMate hD hR (P := fun S' => wp_L_law_3394 D (fun r _ => r = 1) (wp_L_law_28 D (fun r _ => r = 1) n) (bc - 1) (bs - 6) S' b (o 0) x a3 a4 (iI (5 * (q : Int)))) (Q := fun _ => (0 : Int32) = 1) (fun S' h => nx ε (bc - 1) (bs - 6) S' h (by omega) (by omega))⟩
  · -- 51
    exact ⟨by omega, by omega, call_keyCount hD hR (P := fun S' => wp_L_law_3394 D (fun r _ => r = 1) (wp_L_law_28 D (fun r _ => r = 1) n) (bc - 1) (bs - 6) S' b (o 0) x a3 a4 (iI (5 * (q : Int)))) (Q := fun _ => (0 : Int32) = 1) (fun S' h => nx ε (bc - 1) (bs - 6) S' h (by omega) (by omega))⟩
  · -- 52
    exact ⟨by omega, by omega, call_firstKey hD hR (P := fun S' => wp_L_law_3394 D (fun r _ => r = 1) (wp_L_law_28 D (fun r _ => r = 1) n) (bc - 2) (bs - 12) S' b (o 0) x a3 a4 (iI (5 * (q : Int)))) (Q := fun _ => (0 : Int32) = 1) (fun S' h => nx ε (bc - 2) (bs - 12) S' h (by omega) (by omega))⟩
  · -- 53
    refine ⟨(s1 S cst).1, ?_⟩
    rw [(s1 S cst).2]
    exact call_solve hD hR ⟨by omega, by omega⟩ (i 1) (r := (fun S' => sI S' b ((iI (5 * (q : Int)) + (1 : Int32))).toNatClampNeg)) (hv := fun S' => vp_in (iI (5 * (q : Int)) + (1 : Int32)) (sN S' b)) (fun S' h => s1 S' h) ⟨by omega, by omega⟩ (fun e => by have := hB e; omega) (P := fun mm zz S' => wp_L_law_3394 D (fun r _ => r = 1) (wp_L_law_28 D (fun r _ => r = 1) n) (bc - mm) (bs - zz) S' b (o 0) x a3 a4 (iI (5 * (q : Int)))) (Q := fun _ => (0 : Int32) = 1) (fun S' h => nx ε (bc - 1010) (bs - 12000) S' h (by omega) (by omega)) (fun e S' h => nx true (bc - 1010) (bs - 183881) S' h (by omega) (by have := hB e; show 12000 * k + 0 ≤ _; omega))
  · -- 54
    exact ⟨by omega, by omega, call_endingValue hD hR (P := fun S' => wp_L_law_3394 D (fun r _ => r = 1) (wp_L_law_28 D (fun r _ => r = 1) n) (bc - 1) (bs - 6) S' b (o 0) x a3 a4 (iI (5 * (q : Int)))) (Q := fun _ => (0 : Int32) = 1) (fun S' h => nx ε (bc - 1) (bs - 6) S' h (by omega) (by omega))⟩
  · -- 55
    refine ⟨(s1 S cst).1, by omega, by omega, ?_⟩
    rw [(s1 S cst).2]
    exact call_longest hD hR (i 1) (r := (fun S' => sI S' b ((iI (5 * (q : Int)) + (1 : Int32))).toNatClampNeg)) (hv := fun S' => vp_in (iI (5 * (q : Int)) + (1 : Int32)) (sN S' b)) (fun S' h => s1 S' h) (P := fun S' => wp_L_law_3394 D (fun r _ => r = 1) (wp_L_law_28 D (fun r _ => r = 1) n) (bc - 2) (bs - 12) S' b (o 0) x a3 a4 (iI (5 * (q : Int)))) (Q := fun _ => (0 : Int32) = 1) (fun S' h => nx ε (bc - 2) (bs - 12) S' h (by omega) (by omega))
  · -- 56
    exact ⟨by omega, by omega, call_asked hD hR (P := fun S' => wp_L_law_3394 D (fun r _ => r = 1) (wp_L_law_28 D (fun r _ => r = 1) n) (bc - 1) (bs - 6) S' b (o 0) x a3 a4 (iI (5 * (q : Int)))) (Q := fun _ => (0 : Int32) = 1) (fun S' h => nx ε (bc - 1) (bs - 6) S' h (by omega) (by omega))⟩
  · -- 57
    have key : ∀ t : Int, (t = 0 ∨ t = 1) → (t = 0 ↔ sv 1 = 0) → wp_L_law_3169 D (fun r _ => r = 1) (wp_L_law_28 D (fun r _ => r = 1) n) bc bs S b (o 0) x a3 a4 (iI (5 * (q : Int))) (o 0) (iI t) := fun t ht hz => by
      unfold wp_L_law_3169
      refine ⟨by omega, by omega, ?_⟩
      refine call_answer hD hR (by omega) ht (P := fun S' => wp_L_law_3394 D (fun r _ => r = 1) (wp_L_law_28 D (fun r _ => r = 1) n) (bc - 1) (bs - 6) S' b (o 0) x a3 a4 (iI (5 * (q : Int)))) (Q := fun _ => (0 : Int32) = 1) (fun r1 S2 h2 w => ?_) (fun S' h => nx ε (bc - 1) (bs - 6) S' h (by omega) (by omega))
      rw [(s1 S2 h2).2, z1]
      refine ⟨(s1 S2 h2).1, fun z => ?_, fun z => ?_⟩
      · have e : t = 0 := hz.mpr z
        rw [e] at w
        exact w
      · have e : t = 1 := ht.resolve_left fun y => z (hz.mp y)
        rw [e] at w
        exact w
    rw [(s1 S cst).2, z1]
    exact ⟨(s1 S cst).1, fun z => key 0 (.inl rfl) ⟨fun _ => z, fun _ => rfl⟩, fun z => key 1 (.inr rfl) ⟨fun y => absurd y (by decide), fun y => absurd y z⟩⟩
  · -- 58
    refine ⟨(s1 S cst).1, by omega, by omega, ?_⟩
    rw [(s1 S cst).2]
    exact call_meanLength hD hR (i 1) (r := (fun S' => sI S' b ((iI (5 * (q : Int)) + (1 : Int32))).toNatClampNeg)) (hv := fun S' => vp_in (iI (5 * (q : Int)) + (1 : Int32)) (sN S' b)) (fun S' h => s1 S' h) (P := fun S' => wp_L_law_3394 D (fun r _ => r = 1) (wp_L_law_28 D (fun r _ => r = 1) n) (bc - 1) (bs - 6) S' b (o 0) x a3 a4 (iI (5 * (q : Int)))) (Q := fun _ => (0 : Int32) = 1) (fun S' h => nx ε (bc - 1) (bs - 6) S' h (by omega) (by omega))
  · -- 59
    refine ⟨(s1 S cst).1, by omega, by omega, ?_⟩
    rw [(s1 S cst).2]
    exact call_shareWon hD hR (i 1) (r := (fun S' => sI S' b ((iI (5 * (q : Int)) + (1 : Int32))).toNatClampNeg)) (hv := fun S' => vp_in (iI (5 * (q : Int)) + (1 : Int32)) (sN S' b)) (fun S' h => s1 S' h) (P := fun S' => wp_L_law_3394 D (fun r _ => r = 1) (wp_L_law_28 D (fun r _ => r = 1) n) (bc - 1) (bs - 6) S' b (o 0) x a3 a4 (iI (5 * (q : Int)))) (Q := fun _ => (0 : Int32) = 1) (fun S' h => nx ε (bc - 1) (bs - 6) S' h (by omega) (by omega))
  · -- 60
    exact call_errors hD hR (P := fun S' => wp_L_law_3394 D (fun r _ => r = 1) (wp_L_law_28 D (fun r _ => r = 1) n) bc bs S' b (o 0) x a3 a4 (iI (5 * (q : Int)))) (Q := fun _ => (0 : Int32) = 1) (fun S' h => nx ε bc bs S' h (by omega) (by omega))
  · intros
    exact nx ε bc bs S (REL.succ hR) (by omega) (by omega)
end
