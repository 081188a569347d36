section
variable {D : wD} {S U : wS} {o : Nat → Nat} {c c' : cM} {x : Nat} {A : Nat → Nat} {m m' : xM} {F R F' R' : Int} {v v' : Int → Int} {n n' : Int} {w w' : Int → Int → Int} {mv mv' : Int → Mv} {L W : List Int} {yb : Nat → Nat} {yl : Int → Nat} {d : Int → SDt} {ye lw : List Nat} {q q' : Int} {b Ln : Nat} {xs : Nat → Int32} {a3 a4 : Nat} {P Q : wS → Prop} {ε : Bool}
theorem call_countWith (hD : wDok D b Ln xs) (hR : RELo D S o x A [a3, a4] q ε) {s g : Int} (hs : i32 s) (hg : i32 g) {r r' : wS → Int32} {hv : wS → Prop} (hvv : ∀ S', CST D S' → hv S' ∧ r S' = iI s ∧ r' S' = iI g) (hP : ∀ S', RELo D S' o x A [a3, a4] (q + 1) ε → P S') :
    wp_L_countWith D (fun r1 S2 => hv S2 ∧ wp_X12_countWith D (fun r3 S4 => CMPo D x a3 P Q r1 r3 S4) S2 x (r S2) (r' S2)) S (o 0) (iI s) (iI g) a3 := by
  refine REL.elim hR fun c m F R v n w mv L W yb yl d ye hf lk ev => ?_
  unfold wp_L_countWith wp_L_countWith_0
  have e1 := hf.1.1.2
  have hSH := shl_of hf
  have ref : ∀ (r1 : Int32), (inB s 0 1 = false → CMPo D x a3 P Q r1 (iI 0) (xS S x A (up m 50 0 1))) → (inB s 0 1 = true → inB g 0 2 = false → CMPo D x a3 P Q r1 (iI 0) (xS S x A (up m 50 0 2))) → (inB s 0 1 = true → inB g 0 2 = true → False) → hv S ∧ wp_X12_countWith D (fun r3 S4 => CMPo D x a3 P Q r1 r3 S4) S x (r S) (r' S) := fun r1 k0 k1 k2 => by
    obtain ⟨h1, h2, h3⟩ := hvv _ hf.2.1.1
    refine ⟨h1, ?_⟩
    rw [h2, h3, hf.1.2.1.2]
    exact q_countWith hf.1.2.1.1 hf.2.2.2.2.1 hf.2.2.2.2.2.1 hs hg k0 k1 (fun y1 y2 => (k2 y1 y2).elim)
  rw [e1]
  refine q_countWithC hf.1.1.1 hf.2.2.2.1.1.1.2.2.2.2.2.1 (rg_of hf) hSH hs hg (fun z => .inl ⟨rfl, ?_⟩) (fun z z2 => .inr ⟨rfl, ?_⟩) (fun z z2 => ?_)
  · rw [← e1]
    exact ref _ (fun _ => err_ok hD hf lk (.inl rfl) ((SIM.rf m).up0 1) rfl hP) (fun y => by rw [z] at y; exact nomatch y) (fun y => by rw [z] at y; exact nomatch y)
  · rw [← e1]
    exact ref _ (fun y => by rw [z] at y; exact nomatch y) (fun _ _ => err_ok hD hf lk (.inr (.inl rfl)) ((SIM.rf m).up0 2) rfl hP) (fun _ y => by rw [z2] at y; exact nomatch y)
  · rw [← e1]
    refine store_ok hD hf (fun S5 h5 e5 => ?_)
    obtain ⟨h1, h2, h3⟩ := hvv _ h5.2.1.1
    refine ⟨h1, ?_⟩
    rw [h2, h3, h5.1.2.1.2]
    refine q_countWith h5.1.2.1.1 h5.2.2.2.2.1 h5.2.2.2.2.2.1 hs hg (fun y => by rw [z] at y; exact nomatch y) (fun _ y => by rw [z2] at y; exact nomatch y) (fun _ _ => end_ok hD h5 lk ((SIM.rf m).up0 0) rfl hP ?_)
    have i1 := in01.mp z
    rw [e5, (shm_of lk i1).passN (yr_of hf i1), ev]
    rfl
theorem call_countYears (hD : wDok D b Ln xs) (hR : RELo D S o x A [a3, a4] q ε) {s g g2 : Int} (hs : i32 s) (hg : i32 g) (hg2 : i32 g2) {r r' r'' : wS → Int32} {hv : wS → Prop} (hvv : ∀ S', CST D S' → hv S' ∧ r S' = iI s ∧ r' S' = iI g ∧ r'' S' = iI g2) (hP : ∀ S', RELo D S' o x A [a3, a4] (q + 1) ε → P S') :
    wp_L_countYears D (fun r1 S2 => hv S2 ∧ wp_X12_countYears D (fun r3 S4 => CMPo D x a3 P Q r1 r3 S4) S2 x (r S2) (r' S2) (r'' S2)) S (o 0) (iI s) (iI g) (iI g2) a3 := by
  refine REL.elim hR fun c m F R v n w mv L W yb yl d ye hf lk ev => ?_
  unfold wp_L_countYears wp_L_countYears_0
  have e1 := hf.1.1.2
  have hSH := shl_of hf
  have ref : ∀ (r1 : Int32), (inB s 0 1 = false → CMPo D x a3 P Q r1 (iI 0) (xS S x A (up m 50 0 1))) → (inB s 0 1 = true → g2 < g → CMPo D x a3 P Q r1 (iI 0) (xS S x A (up m 50 0 2))) → (inB s 0 1 = true → ¬ g2 < g → False) → hv S ∧ wp_X12_countYears D (fun r3 S4 => CMPo D x a3 P Q r1 r3 S4) S x (r S) (r' S) (r'' S) := fun r1 k0 k1 k2 => by
    obtain ⟨h1, h2, h3, h4⟩ := hvv _ hf.2.1.1
    refine ⟨h1, ?_⟩
    rw [h2, h3, h4, hf.1.2.1.2]
    exact q_countYears hf.1.2.1.1 hf.2.2.2.2.1 hf.2.2.2.2.2.1 hs hg hg2 k0 k1 (fun y1 y2 => (k2 y1 y2).elim)
  rw [e1]
  refine q_countYearsC hf.1.1.1 hf.2.2.2.1.1.1.2.2.2.2.2.1 (rg_of hf) hSH hs hg hg2 (fun z => .inl ⟨rfl, ?_⟩) (fun z z2 => .inr ⟨rfl, ?_⟩) (fun z z2 => ?_)
  · rw [← e1]
    exact ref _ (fun _ => err_ok hD hf lk (.inl rfl) ((SIM.rf m).up0 1) rfl hP) (fun y => by rw [z] at y; exact nomatch y) (fun y => by rw [z] at y; exact nomatch y)
  · rw [← e1]
    exact ref _ (fun y => by rw [z] at y; exact nomatch y) (fun _ _ => err_ok hD hf lk (.inr (.inl rfl)) ((SIM.rf m).up0 2) rfl hP) (fun _ y => by omega)
  · rw [← e1]
    refine store_ok hD hf (fun S5 h5 e5 => ?_)
    obtain ⟨h1, h2, h3, h4⟩ := hvv _ h5.2.1.1
    refine ⟨h1, ?_⟩
    rw [h2, h3, h4, h5.1.2.1.2]
    refine q_countYears h5.1.2.1.1 h5.2.2.2.2.1 h5.2.2.2.2.2.1 hs hg hg2 (fun y => by rw [z] at y; exact nomatch y) (fun _ y => by omega) (fun _ _ => end_ok hD h5 lk ((SIM.rf m).up0 0) rfl hP ?_)
    have i1 := in01.mp z
    rw [e5, (shm_of lk i1).years, ev]
theorem call_asked (hD : wDok D b Ln xs) (hR : RELo D S o x A [a3, a4] q ε) (hP : ∀ S', RELo D S' o x A [a3, a4] (q + 1) ε → P S') :
    wp_L_asked D (fun r1 S2 => wp_X12_asked D (fun r3 S4 => CMPo D x a3 P Q r1 r3 S4) S2 x) S (o 0) a3 := by
  refine REL.elim hR fun c m F R v n w mv L W yb yl d ye hf lk ev => ?_
  unfold wp_L_asked wp_L_asked_0
  have e1 := hf.1.1.2
  have hSH := shl_of hf
  have h30 := hf.2.2.2.2.2.1.1 0 (by decide) (by decide)
  have hr : ∀ k, 0 ≤ k → k < 80 → i32 (m 38 k) ∧ i32 (m 37 k) := fun k k0 k1 => by
    have := hf.2.2.2.2.2.2.2.2.1 k k0 k1
    exact ⟨this.2.2, by unfold i32; omega⟩
  have e30 : m 30 0 = (d 0).1.length := (shm_of lk (.inl rfl)).1
  rw [e1]
  refine q_askedCl hf.1.1.1 hSH (fun z => ⟨rfl, ?_⟩) (fun z => ?_)
  · rw [← e1, hf.1.2.1.2]
    refine q_askedC hf.1.2.1.1 h30 hr (fun _ => err_ok hD hf lk (.inl rfl) ((SIM.rf m).up0 1) rfl hP) (fun y => ?_)
    have z : (d 0).1.length = 0 := z
    omega
  · rw [← e1]
    have z : (d 0).1.length ≠ 0 := z
    refine store_ok hD hf (fun S5 h5 e5 => ?_)
    show wp_X12_asked D _ S5 x
    rw [h5.1.2.1.2]
    refine q_askedC h5.1.2.1.1 h30 hr (fun y => by omega) (fun _ => end_ok hD h5 lk ((SIM.rf m).up0 0) rfl hP ?_)
    rw [e5, (shm_of lk (.inl rfl)).ask (by omega)]
theorem call_meanStrength (hD : wDok D b Ln xs) (hR : RELo D S o x A [a3, a4] q ε) {s t : Int} (hs : i32 s) (ht : t = 0 ∨ t = 1) {r r' : wS → Int32} {hv : wS → Prop} (hvv : ∀ S', CST D S' → hv S' ∧ r S' = iI s ∧ r' S' = iI t) (hP : ∀ S', RELo D S' o x A [a3, a4] (q + 1) ε → P S') :
    wp_L_meanStrength D (fun r1 S2 => hv S2 ∧ wp_X12_meanStrength D (fun r3 S4 => CMPo D x a3 P Q r1 r3 S4) S2 x (r S2) (r' S2)) S (o 0) (iI s) (iI t) a3 := by
  refine REL.elim hR fun c m F R v n w mv L W yb yl d ye hf lk ev => ?_
  unfold wp_L_meanStrength wp_L_meanStrength_0
  have e1 := hf.1.1.2
  have hSH := shl_of hf
  have hT : ∀ k, 0 ≤ k → k < 80 → 0 ≤ m 36 k ∧ m 36 k ≤ 3500 := fun k k0 k1 => (hf.2.2.2.2.2.2.2.2.1 k k0 k1).1
  have ht' : i32 t := by rcases ht with rfl | rfl <;> decide
  have gm : ∀ z : inB s 0 1 = true, gamesB m s (-1) 0 9999 = passN (d s).2.1 (d s).2.2.1 (d s).2.2.2.2.2.1 v (-1) (d s).1.length := fun z => by
    have i1 := in01.mp z
    rw [(shm_of lk i1).passN (yr_of hf i1), ev]
  rw [e1]
  refine q_meanStrengthC hf.1.1.1 hf.2.2.2.1.1.1.2.2.2.2.2.1 (rg_of hf) hSH (fun s g hs g0 g1 => ((hf.2.2.2.1.2.2.1 s hs).2.2 g g0 g1).2.2.1) hs ht (fun z => .inl ⟨rfl, ?_⟩) (fun z z2 => .inr ⟨rfl, ?_⟩) (fun z z2 => ?_)
  · rw [← e1]
    obtain ⟨h1, h2, h3⟩ := hvv _ hf.2.1.1
    refine ⟨h1, ?_⟩
    rw [h2, h3, hf.1.2.1.2]
    exact q_meanStrength hf.1.2.1.1 hf.2.2.2.2.1 hf.2.2.2.2.2.1 hT hs ht' (fun _ => err_ok hD hf lk (.inl rfl) ((SIM.rf m).up0 1) rfl hP) (fun y => by rw [z] at y; exact nomatch y) (fun y => by rw [z] at y; exact nomatch y)
  · rw [← e1]
    obtain ⟨h1, h2, h3⟩ := hvv _ hf.2.1.1
    refine ⟨h1, ?_⟩
    rw [h2, h3, hf.1.2.1.2]
    exact q_meanStrength hf.1.2.1.1 hf.2.2.2.2.1 hf.2.2.2.2.2.1 hT hs ht' (fun y => by rw [z] at y; exact nomatch y) (fun _ _ => err_ok hD hf lk (.inr (.inl rfl)) ((SIM.rf m).up0 2) rfl hP) (fun _ y => absurd ((gm z).trans z2) y)
  · rw [← e1]
    refine store_ok hD hf (fun S5 h5 e5 => ?_)
    obtain ⟨h1, h2, h3⟩ := hvv _ h5.2.1.1
    refine ⟨h1, ?_⟩
    rw [h2, h3, h5.1.2.1.2]
    refine q_meanStrength h5.1.2.1.1 h5.2.2.2.2.1 h5.2.2.2.2.2.1 hT hs ht' (fun y => by rw [z] at y; exact nomatch y) (fun _ y => absurd ((gm z).symm.trans y) z2) (fun _ _ => end_ok hD h5 lk ((SIM.rf m).up0 0) rfl hP ?_)
    have i1 := in01.mp z
    rw [e5, (shm_of lk i1).mean (yr_of hf i1), ev]
theorem call_patternCount (hD : wDok D b Ln xs) (hR : RELo D S o x A [a3, a4] q ε) {s : Int} (hs : i32 s) {r : wS → Int32} {hv : wS → Prop} (hvv : ∀ S', CST D S' → hv S' ∧ r S' = iI s) (hP : ∀ S', RELo D S' o x A [a3, a4] (q + 1) ε → P S') :
    wp_L_patternCount D (fun r1 S2 => hv S2 ∧ wp_X12_patternCount D (fun r3 S4 => CMPo D x a3 P Q r1 r3 S4) S2 x (r S2)) S (o 0) (iI s) a3 := by
  refine REL.elim hR fun c m F R v n w mv L W yb yl d ye hf lk ev => ?_
  unfold wp_L_patternCount wp_L_patternCount_0
  have e1 := hf.1.1.2
  have hSH := shl_of hf
  have c51 := hf.2.2.2.1.2.2.2.1.1
  have hP40 : ∀ k, 0 ≤ k → k < 64 → 0 ≤ m 40 k ∧ m 40 k ≤ 15 := fun k k0 k1 => by rw [lk.2.2.2.2.1.2.2 k k0 k1]; exact c51 k k0 k1
  rw [e1]
  refine q_patternCountC hf.1.1.1 hf.2.2.2.1.1.1.1 c51 hSH (off_of hf) hs (fun z => ⟨rfl, ?_⟩) (fun z c' sm => ?_)
  · rw [← e1]
    obtain ⟨h1, h2⟩ := hvv _ hf.2.1.1
    refine ⟨h1, ?_⟩
    rw [h2, hf.1.2.1.2]
    exact q_patternCount hf.1.2.1.1 hf.2.2.2.2.1 hf.2.2.2.2.2.1 hP40 hs (fun _ => err_ok hD hf lk (.inl rfl) ((SIM.rf m).up0 1) rfl hP) (fun y => by rw [z] at y; exact nomatch y)
  · have hf' := hf.query (c' := c') hD.2.2.2.2 sm (by decide)
    have lk' := lk.csim sm (by decide)
    refine store_ok hD hf' (fun S5 h5 e5 => ?_)
    obtain ⟨h1, h2⟩ := hvv _ h5.2.1.1
    refine ⟨h1, ?_⟩
    rw [h2, h5.1.2.1.2]
    refine q_patternCount h5.1.2.1.1 h5.2.2.2.2.1 h5.2.2.2.2.2.1 hP40 hs (fun y => by rw [z] at y; exact nomatch y) (fun _ => end_ok hD h5 lk' ((SIM.rf m).up0 0) rfl hP ?_)
    have i1 := in01.mp z
    rw [e5, (shm_of lk i1).fit (hf.2.2.2.1.2.2.1 s i1).2.1.1]
    have e40 : ∀ g, fitC F R (m 40) (d s).2.1 (d s).2.2.1 (d s).2.2.2.2.1 g = fitC F R (c.1 51) (d s).2.1 (d s).2.2.1 (d s).2.2.2.2.1 g := fun g => by
      unfold fitC
      refine sumL_congr _ _ fun k k0 k1 => ?_
      have : holdsB F R (m 40) ((d s).2.2.1 g k) = holdsB F R (c.1 51) ((d s).2.2.1 g k) := by
        unfold holdsB
        have hm := (FR_r hf.2.2.2.1.1.1.1.f4 (hf.2.2.2.1.1.1.1).2.1.2.1 (hf.2.2.2.1.1.1.1).2.1.2.2.1 (hf.2.2.2.1.1.1.1).2.1.2.2.2)
        exact allL_cong _ _ fun j j0 j1 => by rw [lk.2.2.2.2.1.2.2 j j0 (by omega)]
      rw [this]
    rw [sumL_congr _ _ fun g g0 g1 => e40 g]
end
