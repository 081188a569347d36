section
variable {D : wD} {S U : wS} {o : Nat → Nat} {c c' : cM} {x : Nat} {A : Nat → Nat} {m m' : xM} {F R F' R' : Int} {v v' : Int → Int} {n n' : Int} {w w' : Int → Int → Int} {mv mv' : Int → Mv} {L W : List Int} {yb : Nat → Nat} {yl : Int → Nat} {d : Int → SDt} {ye lw : List Nat} {q q' : Int} {b Ln : Nat} {xs : Nat → Int32} {a3 a4 : Nat} {P Q : wS → Prop} {ε : Bool}
/-- the law's comparison of codes and of answers yes or no -/
abbrev CMPb (D : wD) (x a3 : Nat) (P Q : wS → Prop) (r1 r3 : Int32) (S4 : wS) : Prop := wp_X12_thrown D (fun r5 S6 =>
    ((r5 = r1 → ((¬ r1 = 0 → P S6) ∧
     (r1 = 0 → vp_in (0 : Int32) (sN S6 a3) ∧
    ((r3 = 0 → ((lg_cmp (sJ S6 a3 ((0 : Int32)).toNatClampNeg) (0 : Int64)) = 0 → P S6) ∧ (¬ (lg_cmp (sJ S6 a3 ((0 : Int32)).toNatClampNeg) (0 : Int64)) = 0 → Q S6)) ∧
     (¬ r3 = 0 → ((lg_cmp (sJ S6 a3 ((0 : Int32)).toNatClampNeg) (1 : Int64)) = 0 → P S6) ∧ (¬ (lg_cmp (sJ S6 a3 ((0 : Int32)).toNatClampNeg) (1 : Int64)) = 0 → Q S6)))))) ∧
     (¬ r5 = r1 → Q S6))) S4 x
theorem errb_ok (hD : wDok D b Ln xs) (hf : HFo D S o x A lw c m F R v n w mv L W yb yl d ye q F R) (lk : LKo m c F R n w mv L W d ye ε) {k : Int} (hk : k = 1 ∨ k = 2 ∨ k = 3) (s : SIM m m') (h5 : m' 50 0 = k) (hP : ∀ S', RELo D S' o x A lw (q + 1) ε → P S') {r3 : Int32} : CMPb D x a3 P Q (iI k) r3 (xS S x A m') := by
  have e : sI (xS S x A m') x 0 = iI k := by rw [x_i0]; exact congrArg iI h5
  unfold CMPb wp_X12_thrown wp_X12_thrown_0
  refine ⟨fun _ => ⟨fun _ => REL.fin hD hf lk s hP, fun z => ?_⟩, fun z => absurd e z⟩
  rcases hk with rfl | rfl | rfl <;> exact absurd z (by decide)
theorem endb_ok (hD : wDok D b Ln xs) (hf : HFo D S o x A [a3, a4] c m F R v n w mv L W yb yl d ye q F R) (lk : LKo m c F R n w mv L W d ye ε) (s : SIM m m') (h5 : m' 50 0 = 0) (hP : ∀ S', RELo D S' o x A [a3, a4] (q + 1) ε → P S') {t t2 : Bool} (e : sJ S a3 0 = if t then 1 else 0) (e2 : t2 = t) : CMPb D x a3 P Q 0 (iI (bI t2)) (xS S x A m') := by
  subst e2
  have e0 : sI (xS S x A m') x 0 = 0 := by rw [x_i0]; exact congrArg iI h5
  have g := ans_ref hf m'
  have hp := REL.fin hD hf lk s hP
  unfold CMPb wp_X12_thrown wp_X12_thrown_0
  refine ⟨fun _ => ⟨fun _ => hp, fun _ => ⟨by rw [g.2]; exact iI_in (a := 0) (by decide) (by decide) (by decide), fun z => ⟨fun _ => hp, fun y => ?_⟩, fun z => ⟨fun _ => hp, fun y => ?_⟩⟩⟩, fun z => absurd e0 z⟩
  · refine absurd ((lg_cmp_eq _ _).mpr ?_) y
    rw [show ((0 : Int32)).toNatClampNeg = 0 from rfl, g.1, e]
    cases t2
    · rfl
    · exact absurd z (by decide)
  · refine absurd ((lg_cmp_eq _ _).mpr ?_) y
    rw [show ((0 : Int32)).toNatClampNeg = 0 from rfl, g.1, e]
    cases t2
    · exact absurd rfl z
    · rfl
theorem storeb_ok {G : wS → Prop} (hD : wDok D b Ln xs) (hf : HFo D S o x A [a3, a4] c m F R v n w mv L W yb yl d ye q F' R') {t : Bool} (K : ∀ S5, HFo D S5 o x A [a3, a4] c m F R v n w mv L W yb yl d ye q F' R' → sJ S5 a3 0 = (if t then 1 else 0) → G S5) :
    (iI (bI t) = 0 → a3 ∈ sL S ∧ vp_in (0 : Int32) (sN S a3) ∧ ∀ S4 : wS, S4 = uJ S a3 ((0 : Int32)).toNatClampNeg (0 : Int64) → G S4) ∧ (¬ iI (bI t) = 0 → a3 ∈ sL S ∧ vp_in (0 : Int32) (sN S a3) ∧ ∀ S4 : wS, S4 = uJ S a3 ((0 : Int32)).toNatClampNeg (1 : Int64) → G S4) := by
  cases t
  · exact ⟨fun _ => store_ok hD hf fun S5 h5 e5 => K S5 h5 (by rw [e5]; rfl), fun z => absurd rfl z⟩
  · exact ⟨fun z => absurd z (by decide), fun _ => store_ok hD hf fun S5 h5 e5 => K S5 h5 (by rw [e5]; rfl)⟩
theorem call_isOpenFile (hD : wDok D b Ln xs) (hR : RELo D S o x A [a3, a4] q ε) {f : Int} (hf0 : i32 f) {r : wS → Int32} {hv : wS → Prop} (hvv : ∀ S', CST D S' → hv S' ∧ r S' = iI f) (hP : ∀ S', RELo D S' o x A [a3, a4] (q + 1) ε → P S') :
    wp_L_isOpenFile D (fun r1 S2 => hv S2 ∧ wp_X12_isOpenFile D (fun r3 S4 => CMPb D x a3 P Q r1 r3 S4) S2 x (r S2)) S (o 0) (iI f) a3 := by
  refine REL.elim hR fun c m F R v n w mv L W yb yl d ye hf lk ev => ?_
  unfold wp_L_isOpenFile wp_L_isOpenFile_0
  have e1 := hf.1.1.2
  obtain ⟨w1, w2, w3, w4, w5, w6, w7⟩ := hf.2.2.2.1.1.1
  rw [e1]
  refine q_isOpenFileC hf.1.1.1 w1 w2.1 w4 w6 hf0 (fun z => ⟨rfl, ?_⟩) (fun z => ?_)
  · rw [← e1]
    obtain ⟨h1, h2⟩ := hvv _ hf.2.1.1
    refine ⟨h1, ?_⟩
    rw [h2, hf.1.2.1.2]
    exact q_isOpenFile hf.1.2.1.1 hf.2.2.2.2.1 hf0 (fun _ => errb_ok hD hf lk (.inl rfl) ((SIM.rf m).up0 1) rfl hP) (fun y => by rw [z] at y; exact nomatch y)
  · rw [← e1]
    refine storeb_ok hD hf (fun S5 h5 e5 => ?_)
    obtain ⟨h1, h2⟩ := hvv _ h5.2.1.1
    refine ⟨h1, ?_⟩
    rw [h2, h5.1.2.1.2]
    exact q_isOpenFile h5.1.2.1.1 h5.2.2.2.2.1 hf0 (fun y => by rw [z] at y; exact nomatch y) (fun _ => endb_ok hD h5 lk ((SIM.rf m).up0 0) rfl hP e5 (by rw [ev]))
theorem call_pieceAt (hD : wDok D b Ln xs) (hR : RELo D S o x A [a3, a4] q ε) {a : Int} (ha : i32 a) {r : wS → Int32} {hv : wS → Prop} (hvv : ∀ S', CST D S' → hv S' ∧ r S' = iI a) (hP : ∀ S', RELo D S' o x A [a3, a4] (q + 1) ε → P S') :
    wp_L_pieceAt D (fun r1 S2 => hv S2 ∧ wp_X12_pieceAt D (fun r3 S4 => CMPo D x a3 P Q r1 r3 S4) S2 x (r S2)) S (o 0) (iI a) a3 := by
  refine REL.elim hR fun c m F R v n w mv L W yb yl d ye hf lk ev => ?_
  unfold wp_L_pieceAt wp_L_pieceAt_0
  have e1 := hf.1.1.2
  obtain ⟨w1, w2, w3, w4, w5, w6, w7⟩ := hf.2.2.2.1.1.1
  rw [e1]
  refine q_pieceAtC hf.1.1.1 w1 w2.1 w6 ha (fun z => ⟨rfl, ?_⟩) (fun z => ?_)
  · rw [← e1]
    obtain ⟨h1, h2⟩ := hvv _ hf.2.1.1
    refine ⟨h1, ?_⟩
    rw [h2, hf.1.2.1.2]
    refine q_pieceAt hf.1.2.1.1 hf.2.2.2.2.1 ha ?_
    exact err_ok hD hf lk (.inl rfl) ((SIM.rf m).up0 _) (by rw [z]; rfl) hP
  · rw [← e1]
    refine store_ok hD hf (fun S5 h5 e5 => ?_)
    obtain ⟨h1, h2⟩ := hvv _ h5.2.1.1
    refine ⟨h1, ?_⟩
    rw [h2, h5.1.2.1.2]
    refine q_pieceAt h5.1.2.1.1 h5.2.2.2.2.1 ha ?_
    refine end_ok hD h5 lk ((SIM.rf m).up0 _) (by rw [z]; rfl) hP ?_
    rw [e5, ev, z, if_pos rfl]
theorem call_outputByte (hD : wDok D b Ln xs) (hR : RELo D S o x A [a3, a4] q ε) {i : Int} (hi : i32 i) {r : wS → Int32} {hv : wS → Prop} (hvv : ∀ S', CST D S' → hv S' ∧ r S' = iI i) (hP : ∀ S', RELo D S' o x A [a3, a4] (q + 1) ε → P S') :
    wp_L_outputByte D (fun r1 S2 => hv S2 ∧ wp_X12_outputByte D (fun r3 S4 => CMPo D x a3 P Q r1 r3 S4) S2 x (r S2)) S (o 0) (iI i) a3 := by
  refine REL.elim hR fun c m F R v n w mv L W yb yl d ye hf lk ev => ?_
  unfold wp_L_outputByte wp_L_outputByte_0
  have e1 := hf.1.1.2
  obtain ⟨⟨t1, t2, t3⟩, ⟨t4, t5, t6⟩, t7⟩ := hf.2.2.2.1.2.1
  have l15 := lk.2.2.2.1.1
  have hw : 0 ≤ m 50 15 ∧ m 50 15 ≤ 128 := by omega
  have s50 := (t7 50 (.inr (.inr rfl))).2
  rw [e1] at t2
  rw [e1]
  refine q_outputByteC hf.1.1.1 t2 (by omega) hi (fun z => ⟨rfl, ?_⟩) (fun z => ?_)
  · rw [← e1]
    obtain ⟨h1, h2⟩ := hvv _ hf.2.1.1
    refine ⟨h1, ?_⟩
    rw [h2, hf.1.2.1.2]
    exact q_outputByte hf.1.2.1.1 hw hi (fun _ => err_ok hD hf lk (.inl rfl) ((SIM.rf m).up0 1) rfl hP) (fun y => by rw [l15, z] at y; exact nomatch y)
  · rw [← e1]
    refine store_ok hD hf (fun S5 h5 e5 => ?_)
    obtain ⟨h1, h2⟩ := hvv _ h5.2.1.1
    refine ⟨h1, ?_⟩
    rw [h2, h5.1.2.1.2]
    refine q_outputByte h5.1.2.1.1 hw hi (fun y => by rw [l15, z] at y; exact nomatch y) (fun _ => end_ok hD h5 lk ((SIM.rf m).up0 0) rfl hP ?_)
    have i2 := inB_iff.mp z
    rw [e5, lk.2.2.2.1.2 i i2.1 (by omega)]
    rfl
end
