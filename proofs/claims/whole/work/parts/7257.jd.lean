section
variable {D : wD} {S U : wS} {o : Nat → Nat} {c c' : cM} {x : Nat} {A : Nat → Nat} {m m' : xM} {F R F' R' : Int} {v v' : Int → Int} {n n' : Int} {w w' : Int → Int → Int} {mv mv' : Int → Mv} {L W : List Int} {yb : Nat → Nat} {yl : Int → Nat} {d : Int → SDt} {ye lw : List Nat} {q q' : Int} {b Ln : Nat} {xs : Nat → Int32} {a3 a4 : Nat} {P Q : wS → Prop} {ε : Bool}
theorem call_continuationAt (hD : wDok D b Ln xs) (hR : RELo D S o x A [a3, a4] q ε) {s i : Int} (hs : i32 s) (hi : i32 i) {r r' : wS → Int32} {hv : wS → Prop} (hvv : ∀ S', CST D S' → hv S' ∧ r S' = iI s ∧ r' S' = iI i) (hP : ∀ S', RELo D S' o x A [a3, a4] (q + 1) ε → P S') :
    wp_L_continuationAt D (fun r1 S2 => hv S2 ∧ wp_X12_continuationAt D (fun r3 S4 => CMPo D x a3 P Q r1 r3 S4) S2 x (r S2) (r' S2)) S (o 0) (iI s) (iI i) a3 := by
  refine REL.elim hR fun c m F R v n w mv L W yb yl d ye hf lk ev => ?_
  unfold wp_L_continuationAt wp_L_continuationAt_0
  have e1 := hf.1.1.2
  have hSH := shl_of hf
  have pe := prop_eq hf lk
  have hK := mvst_of hf lk ev
  have hC := hf.2.2.2.2.2.2.1.2.2.1
  have ce : inB s 0 1 = true → cntF (gmB m s (movesL F R (pv m))) (wdB F R (pv m)) (movesL F R (pv m)).length i 0 (movesL F R (pv m)).length = cntF (gtF F R v (fun i => (d i).2.1) (fun i => (d i).2.2.1) (fun i => (d i).2.2.2.1) (fun i => (d i).1) s) (wdB F R v) (movesL F R v).length i 0 (movesL F R v).length := fun z => by
    rw [ev]
    exact cntF_cong (L := (movesL F R v).length) (made_of hf lk ev (in01.mp z)) i _ 0 (by omega) (by omega)
  rw [e1]
  refine q_continuationAtC hf.1.1.1 (CST.all hD (csts hf hD)).2.1 hf.2.2.2.1.1.1 (fun z => (few_of hf z).1) hSH (off_of hf) hs hi (fun z => .inl ⟨rfl, ?_⟩) (fun z z2 => .inr ⟨rfl, ?_⟩) (fun z z2 z3 c' sm => .inr ⟨rfl, ?_⟩) (fun z z2 z3 c' sm => ?_)
  · rw [← e1]
    obtain ⟨h1, h2, h3⟩ := hvv _ hf.2.1.1
    refine ⟨h1, ?_⟩
    rw [h2, h3, hf.1.2.1.2]
    exact q_continuationAt hf.1.2.1.1 hf.2.2.2.2.1 hf.2.2.2.2.2.1 hC hs hi hK (fun _ m' sm h5 => err_ok hD hf lk (.inl rfl) sm h5 hP) (fun y => by rw [pe, z] at y; exact nomatch y) (fun y => by rw [pe, z] at y; exact nomatch y)
  · rw [← e1]
    obtain ⟨h1, h2, h3⟩ := hvv _ hf.2.1.1
    refine ⟨h1, ?_⟩
    rw [h2, h3, hf.1.2.1.2]
    exact q_continuationAt hf.1.2.1.1 hf.2.2.2.2.1 hf.2.2.2.2.2.1 hC hs hi hK (fun y => by rw [pe, z] at y; exact nomatch y) (fun _ _ m' sm h5 => err_ok hD hf lk (.inr (.inl rfl)) sm h5 hP) (fun _ y => by rw [z2] at y; exact nomatch y)
  · have hf' := hf.query hD.2.2.2.2 sm (by decide)
    have lk' := lk.csim sm (by decide)
    obtain ⟨h1, h2, h3⟩ := hvv _ hf'.2.1.1
    refine ⟨h1, ?_⟩
    rw [h2, h3, hf'.1.2.1.2]
    exact q_continuationAt hf'.1.2.1.1 hf'.2.2.2.2.1 hf'.2.2.2.2.2.1 hC hs hi hK (fun y => by rw [pe, z] at y; exact nomatch y) (fun _ _ m' sm h5 => err_ok hD hf' lk' (.inr (.inl rfl)) sm h5 hP) (fun _ y k hk k1 => absurd ((hk.trans (ce z2)).trans z3) k1)
  · have hf' := hf.query hD.2.2.2.2 sm (by decide)
    have lk' := lk.csim sm (by decide)
    refine store_ok hD hf' (fun S5 h5 e5 => ?_)
    obtain ⟨h1, h2, h3⟩ := hvv _ h5.2.1.1
    refine ⟨h1, ?_⟩
    rw [h2, h3, h5.1.2.1.2]
    refine q_continuationAt h5.1.2.1.1 h5.2.2.2.2.1 h5.2.2.2.2.2.1 hC hs hi hK (fun y => by rw [pe, z] at y; exact nomatch y) (fun _ y => ?_) (fun _ _ k hk k1 k2 m' sm h0 => end_ok hD h5 lk' sm h0 hP ?_)
    · rcases y with y | y
      · rw [z2] at y; exact nomatch y
      · exact absurd ((ce z2).symm.trans y) z3
    · rw [e5, hk, ce z2]
theorem call_gamesOf (hD : wDok D b Ln xs) (hR : RELo D S o x A [a3, a4] q ε) {s i : Int} (hs : i32 s) (hi : i32 i) {r r' : wS → Int32} {hv : wS → Prop} (hvv : ∀ S', CST D S' → hv S' ∧ r S' = iI s ∧ r' S' = iI i) (hP : ∀ S', RELo D S' o x A [a3, a4] (q + 1) ε → P S') :
    wp_L_gamesOf D (fun r1 S2 => hv S2 ∧ wp_X12_gamesOf D (fun r3 S4 => CMPo D x a3 P Q r1 r3 S4) S2 x (r S2) (r' S2)) S (o 0) (iI s) (iI i) a3 := by
  refine REL.elim hR fun c m F R v n w mv L W yb yl d ye hf lk ev => ?_
  unfold wp_L_gamesOf wp_L_gamesOf_0
  have e1 := hf.1.1.2
  have hSH := shl_of hf
  have pe := prop_eq hf lk
  have hK := mvst_of hf lk ev
  have hC := hf.2.2.2.2.2.2.1.2.2.1
  have ce : inB s 0 1 = true → cntF (gmB m s (movesL F R (pv m))) (wdB F R (pv m)) (movesL F R (pv m)).length i 0 (movesL F R (pv m)).length = cntF (gtF F R v (fun i => (d i).2.1) (fun i => (d i).2.2.1) (fun i => (d i).2.2.2.1) (fun i => (d i).1) s) (wdB F R v) (movesL F R v).length i 0 (movesL F R v).length := fun z => by
    rw [ev]
    exact cntF_cong (L := (movesL F R v).length) (made_of hf lk ev (in01.mp z)) i _ 0 (by omega) (by omega)
  rw [e1]
  refine q_gamesOfC hf.1.1.1 (CST.all hD (csts hf hD)).2.1 hf.2.2.2.1.1.1 (fun z => (few_of hf z).1) hSH (off_of hf) hs hi (fun z => .inl ⟨rfl, ?_⟩) (fun z z2 => .inr ⟨rfl, ?_⟩) (fun z z2 z3 c' sm => .inr ⟨rfl, ?_⟩) (fun z z2 z3 c' sm => ?_)
  · rw [← e1]
    obtain ⟨h1, h2, h3⟩ := hvv _ hf.2.1.1
    refine ⟨h1, ?_⟩
    rw [h2, h3, hf.1.2.1.2]
    exact q_gamesOf hf.1.2.1.1 hf.2.2.2.2.1 hf.2.2.2.2.2.1 hC hs hi hK (fun _ m' sm h5 => err_ok hD hf lk (.inl rfl) sm h5 hP) (fun y => by rw [pe, z] at y; exact nomatch y) (fun y => by rw [pe, z] at y; exact nomatch y)
  · rw [← e1]
    obtain ⟨h1, h2, h3⟩ := hvv _ hf.2.1.1
    refine ⟨h1, ?_⟩
    rw [h2, h3, hf.1.2.1.2]
    exact q_gamesOf hf.1.2.1.1 hf.2.2.2.2.1 hf.2.2.2.2.2.1 hC hs hi hK (fun y => by rw [pe, z] at y; exact nomatch y) (fun _ _ m' sm h5 => err_ok hD hf lk (.inr (.inl rfl)) sm h5 hP) (fun _ y => by rw [z2] at y; exact nomatch y)
  · have hf' := hf.query hD.2.2.2.2 sm (by decide)
    have lk' := lk.csim sm (by decide)
    obtain ⟨h1, h2, h3⟩ := hvv _ hf'.2.1.1
    refine ⟨h1, ?_⟩
    rw [h2, h3, hf'.1.2.1.2]
    exact q_gamesOf hf'.1.2.1.1 hf'.2.2.2.2.1 hf'.2.2.2.2.2.1 hC hs hi hK (fun y => by rw [pe, z] at y; exact nomatch y) (fun _ _ m' sm h5 => err_ok hD hf' lk' (.inr (.inl rfl)) sm h5 hP) (fun _ y k hk k1 => absurd ((hk.trans (ce z2)).trans z3) k1)
  · have hf' := hf.query hD.2.2.2.2 sm (by decide)
    have lk' := lk.csim sm (by decide)
    refine store_ok hD hf' (fun S5 h5 e5 => ?_)
    obtain ⟨h1, h2, h3⟩ := hvv _ h5.2.1.1
    refine ⟨h1, ?_⟩
    rw [h2, h3, h5.1.2.1.2]
    refine q_gamesOf h5.1.2.1.1 h5.2.2.2.2.1 h5.2.2.2.2.2.1 hC hs hi hK (fun y => by rw [pe, z] at y; exact nomatch y) (fun _ y => ?_) (fun _ _ k hk k1 k2 m' sm h0 => end_ok hD h5 lk' sm h0 hP ?_)
    · rcases y with y | y
      · rw [z2] at y; exact nomatch y
      · exact absurd ((ce z2).symm.trans y) z3
    · rw [e5, ← (hk.trans (ce z2)), ev]
      rw [ev] at k2
      rw [made_of hf lk ev (in01.mp z2) k k2.1 k2.2]
end
