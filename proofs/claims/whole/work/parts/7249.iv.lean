section
variable {D : wD} {S U : wS} {o : Nat → Nat} {c c' : cM} {x : Nat} {A : Nat → Nat} {m m' : xM} {F R F' R' : Int} {v v' : Int → Int} {n n' : Int} {w w' : Int → Int → Int} {mv mv' : Int → Mv} {L W : List Int} {yb : Nat → Nat} {yl : Int → Nat} {d : Int → SDt} {ye lw : List Nat} {q q' : Int} {b Ln : Nat} {xs : Nat → Int32} {a3 a4 : Nat} {P Q : wS → Prop} {ε : Bool}
theorem store_ok {G : wS → Prop} (hD : wDok D b Ln xs) (hf : HFo D S o x A [a3, a4] c m F R v n w mv L W yb yl d ye q F' R') {z : Int64} (K : ∀ S5, HFo D S5 o x A [a3, a4] c m F R v n w mv L W yb yl d ye q F' R' → sJ S5 a3 0 = z → G S5) : a3 ∈ sL S ∧ vp_in (0 : Int32) (sN S a3) ∧ ∀ S4 : wS, S4 = uJ S a3 ((0 : Int32)).toNatClampNeg z → G S4 := by
  obtain ⟨⟨g1, g2⟩, g3, g4⟩ := hf.ans hD z
  exact ⟨g1, g2, fun S4 e => by rw [e]; exact K _ g3 g4⟩
theorem err_ok (hD : wDok D b Ln xs) (hf : HFo D S o x A lw c m F R v n w mv L W yb yl d ye q F R) (lk : LKo m c F R n w mv L W d ye ε) {k : Int} (hk : k = 1 ∨ k = 2 ∨ k = 3) (s : SIM m m') (h5 : m' 50 0 = k) (hP : ∀ S', RELo D S' o x A lw (q + 1) ε → P S') {r3 : Int32} : CMPo D x a3 P Q (iI k) r3 (xS S x A m') := by
  refine cmp_ok (by rw [x_i0]; exact congrArg iI h5) (REL.fin hD hf lk s hP) (fun y => ?_)
  rcases hk with rfl | rfl | rfl <;> exact absurd y (by decide)
theorem end_ok (hD : wDok D b Ln xs) (hf : HFo D S o x A [a3, a4] c m F R v n w mv L W yb yl d ye q F R) (lk : LKo m c F R n w mv L W d ye ε) (s : SIM m m') (h5 : m' 50 0 = 0) (hP : ∀ S', RELo D S' o x A [a3, a4] (q + 1) ε → P S') {r3 : Int32} (e : sJ S a3 0 = Int32.toInt64 r3) : CMPo D x a3 P Q 0 r3 (xS S x A m') :=
  cmp_ok (by rw [x_i0]; exact congrArg iI h5) (REL.fin hD hf lk s hP) (fun _ => ⟨(ans_ref hf _).2, by rw [(ans_ref hf _).1]; exact e⟩)
theorem shl_of (hf : HFo D S o x A lw c m F R v n w mv L W yb yl d ye q F' R') : SHL D S o c yl (fun i => (d i).1) (fun i => (d i).2.1) (fun i => (d i).2.2.1) (fun i => (d i).2.2.2.1) (fun i => (d i).2.2.2.2.1) (fun i => (d i).2.2.2.2.2.1) (fun i => (d i).2.2.2.2.2.2) := fun i hi => by
  have := hf.1.1.2
  rw [← this]; exact (hf.2.2.2.1.2.2.1 i hi).1
theorem shm_of (lk : LKo m c F R n w mv L W d ye ε) {s : Int} (hs : s = 0 ∨ s = 1) : shD m s (d s) := by
  rcases hs with rfl | rfl
  · exact lk.2.2.2.2.2.1.1
  · exact lk.2.2.2.2.2.1.2
theorem rg_of (hf : HFo D S o x A lw c m F R v n w mv L W yb yl d ye q F' R') : rgV v := by
  rw [← hf.2.2.2.1.1.2.2.1]
  exact (hf.2.2.2.1.1.2.1.2.2.1 n hf.2.2.2.1.1.2.1.2.1.1 (Int.le_refl _)).2
theorem yr_of (hf : HFo D S o x A lw c m F R v n w mv L W yb yl d ye q F' R') {s : Int} (hs : s = 0 ∨ s = 1) : ∀ g : Int, 0 ≤ g → g < (d s).1.length → 0 ≤ (d s).2.2.2.2.2.1 g 5 ∧ (d s).2.2.2.2.2.1 g 5 ≤ 9999 := fun g g0 g1 => by
  have := ((hf.2.2.2.1.2.2.1 s hs).2.2 g g0 g1).2.1
  omega
theorem off_of (hf : HFo D S o x A lw c m F R v n w mv L W yb yl d ye q F' R') : ∀ s : Int, (s = 0 ∨ s = 1) → offK (cLs.map o) (d s).1 (d s).2.2.2.2.2.2 := fun s hs g g0 g1 => by
  have := (yb_off (clsL_nd hf.2.2.1)).2.1 s hs g g0 g1
  exact ⟨fun z => this.1 (cLs_sub _ z), fun z => this.2.1 (cLs_sub _ z), fun z => this.2.2.1 (cLs_sub _ z), fun z => this.2.2.2 (cLs_sub _ z)⟩
theorem game_iff (lk : LKo m c F R n w mv L W d ye ε) (s g : Int) : isGameB m s g = (inB s 0 1 && inB g 0 ((d s).1.length - 1)) := by
  unfold isGameB
  cases z : inB s 0 1
  · rfl
  · rw [(shm_of lk (in01.mp z)).1]
theorem call_gameLength (hD : wDok D b Ln xs) (hR : RELo D S o x A [a3, a4] q ε) {s g : Int} (hs : i32 s) (hg : i32 g) {r r' : wS → Int32} {hv : wS → Prop} (hvv : ∀ S', CST D S' → hv S' ∧ r S' = iI s ∧ r' S' = iI g) (hP : ∀ S', RELo D S' o x A [a3, a4] (q + 1) ε → P S') :
    wp_L_gameLength D (fun r1 S2 => hv S2 ∧ wp_X12_gameLength D (fun r3 S4 => CMPo D x a3 P Q r1 r3 S4) S2 x (r S2) (r' S2)) S (o 0) (iI s) (iI g) a3 := by
  refine REL.elim hR fun c m F R v n w mv L W yb yl d ye hf lk ev => ?_
  unfold wp_L_gameLength wp_L_gameLength_0
  have e1 := hf.1.1.2
  have hSH := shl_of hf
  rw [e1]
  refine q_gameLengthC hf.1.1.1 hSH hs hg (fun z => ⟨rfl, ?_⟩) (fun z => ?_)
  · rw [← e1]
    obtain ⟨h1, h2, h3⟩ := hvv _ hf.2.1.1
    refine ⟨h1, ?_⟩
    rw [h2, h3, hf.1.2.1.2]
    refine q_gameLength hf.1.2.1.1 hf.2.2.2.2.2.1.1 hs hg (fun _ => err_ok hD hf lk (.inl rfl) ((SIM.rf m).up0 1) rfl hP) (fun y => by rw [game_iff lk, z] at y; exact nomatch y)
  · rw [← e1]
    refine store_ok hD hf (fun S5 h5 e5 => ?_)
    obtain ⟨h1, h2, h3⟩ := hvv _ h5.2.1.1
    refine ⟨h1, ?_⟩
    rw [h2, h3, h5.1.2.1.2]
    refine q_gameLength h5.1.2.1.1 h5.2.2.2.2.2.1.1 hs hg (fun y => by rw [game_iff lk, z] at y; exact nomatch y) (fun _ => end_ok hD h5 lk ((SIM.rf m).up0 0) rfl hP ?_)
    rw [e5]
    rw [Bool.and_eq_true] at z
    have i1 := in01.mp z.1
    have i2 := inB_iff.mp z.2
    rw [((shm_of lk i1).2 g i2.1 (by omega)).1.1]
theorem call_positionCount (hD : wDok D b Ln xs) (hR : RELo D S o x A [a3, a4] q ε) {s : Int} (hs : i32 s) {r : wS → Int32} {hv : wS → Prop} (hvv : ∀ S', CST D S' → hv S' ∧ r S' = iI s) (hP : ∀ S', RELo D S' o x A [a3, a4] (q + 1) ε → P S') :
    wp_L_positionCount D (fun r1 S2 => hv S2 ∧ wp_X12_positionCount D (fun r3 S4 => CMPo D x a3 P Q r1 r3 S4) S2 x (r S2)) S (o 0) (iI s) a3 := by
  refine REL.elim hR fun c m F R v n w mv L W yb yl d ye hf lk ev => ?_
  unfold wp_L_positionCount wp_L_positionCount_0
  have e1 := hf.1.1.2
  have hSH := shl_of hf
  have hP40 : ∀ k, 0 ≤ k → k < 64 → 0 ≤ m 40 k ∧ m 40 k ≤ 15 := fun k k0 k1 => by rw [lk.2.2.2.2.1.2.2 k k0 k1]; exact hf.2.2.2.1.2.2.2.1.1 k k0 k1
  rw [e1]
  refine q_positionCountC hf.1.1.1 hSH hs (fun z => ⟨rfl, ?_⟩) (fun z => ?_)
  · rw [← e1]
    obtain ⟨h1, h2⟩ := hvv _ hf.2.1.1
    refine ⟨h1, ?_⟩
    rw [h2, hf.1.2.1.2]
    exact q_positionCount hf.1.2.1.1 hf.2.2.2.2.1 hf.2.2.2.2.2.1 hP40 hs (fun _ => err_ok hD hf lk (.inl rfl) ((SIM.rf m).up0 1) rfl hP) (fun y => by rw [z] at y; exact nomatch y)
  · rw [← e1]
    refine store_ok hD hf (fun S5 h5 e5 => ?_)
    obtain ⟨h1, h2⟩ := hvv _ h5.2.1.1
    refine ⟨h1, ?_⟩
    rw [h2, h5.1.2.1.2]
    refine q_positionCount h5.1.2.1.1 h5.2.2.2.2.1 h5.2.2.2.2.2.1 hP40 hs (fun y => by rw [z] at y; exact nomatch y) (fun _ => end_ok hD h5 lk ((SIM.rf m).up0 0) rfl hP ?_)
    have i1 := in01.mp z
    rw [e5, (shm_of lk i1).pos (hf.2.2.2.1.2.2.1 s i1).2.1.1]
theorem call_count (hD : wDok D b Ln xs) (hR : RELo D S o x A [a3, a4] q ε) {s : Int} (hs : i32 s) {r : wS → Int32} {hv : wS → Prop} (hvv : ∀ S', CST D S' → hv S' ∧ r S' = iI s) (hP : ∀ S', RELo D S' o x A [a3, a4] (q + 1) ε → P S') :
    wp_L_count D (fun r1 S2 => hv S2 ∧ wp_X12_count D (fun r3 S4 => CMPo D x a3 P Q r1 r3 S4) S2 x (r S2)) S (o 0) (iI s) a3 := by
  refine REL.elim hR fun c m F R v n w mv L W yb yl d ye hf lk ev => ?_
  unfold wp_L_count wp_L_count_0
  have e1 := hf.1.1.2
  have hSH := shl_of hf
  rw [e1]
  refine q_countC hf.1.1.1 hf.2.2.2.1.1.1.2.2.2.2.2.1 (rg_of hf) hSH hs (fun z => ⟨rfl, ?_⟩) (fun z => ?_)
  · rw [← e1]
    obtain ⟨h1, h2⟩ := hvv _ hf.2.1.1
    refine ⟨h1, ?_⟩
    rw [h2, hf.1.2.1.2]
    exact q_count hf.1.2.1.1 hf.2.2.2.2.1 hf.2.2.2.2.2.1 hs (fun _ => err_ok hD hf lk (.inl rfl) ((SIM.rf m).up0 1) rfl hP) (fun y => by rw [z] at y; exact nomatch y)
  · rw [← e1]
    refine store_ok hD hf (fun S5 h5 e5 => ?_)
    obtain ⟨h1, h2⟩ := hvv _ h5.2.1.1
    refine ⟨h1, ?_⟩
    rw [h2, h5.1.2.1.2]
    refine q_count h5.1.2.1.1 h5.2.2.2.2.1 h5.2.2.2.2.2.1 hs (fun y => by rw [z] at y; exact nomatch y) (fun _ => end_ok hD h5 lk ((SIM.rf m).up0 0) rfl hP ?_)
    have i1 := in01.mp z
    rw [e5, (shm_of lk i1).passN (yr_of hf i1), ev]
    rfl
theorem call_firstNew (hD : wDok D b Ln xs) (hR : RELo D S o x A [a3, a4] q ε) {s g : Int} (hs : i32 s) (hg : i32 g) {r r' : wS → Int32} {hv : wS → Prop} (hvv : ∀ S', CST D S' → hv S' ∧ r S' = iI s ∧ r' S' = iI g) (hP : ∀ S', RELo D S' o x A [a3, a4] (q + 1) ε → P S') :
    wp_L_firstNew D (fun r1 S2 => hv S2 ∧ wp_X12_firstNew D (fun r3 S4 => CMPo D x a3 P Q r1 r3 S4) S2 x (r S2) (r' S2)) S (o 0) (iI s) (iI g) a3 := by
  refine REL.elim hR fun c m F R v n w mv L W yb yl d ye hf lk ev => ?_
  unfold wp_L_firstNew wp_L_firstNew_0
  have e1 := hf.1.1.2
  have hSH := shl_of hf
  rw [e1]
  refine q_firstNewC hf.1.1.1 hSH hs hg (fun z => ⟨rfl, ?_⟩) (fun z => ?_)
  · rw [← e1]
    obtain ⟨h1, h2, h3⟩ := hvv _ hf.2.1.1
    refine ⟨h1, ?_⟩
    rw [h2, h3, hf.1.2.1.2]
    exact q_firstNew hf.1.2.1.1 hf.2.2.2.2.1 hf.2.2.2.2.2.1 hs hg (fun _ => err_ok hD hf lk (.inl rfl) ((SIM.rf m).up0 1) rfl hP) (fun y => by rw [game_iff lk, z] at y; exact nomatch y)
  · rw [← e1]
    refine store_ok hD hf (fun S5 h5 e5 => ?_)
    obtain ⟨h1, h2, h3⟩ := hvv _ h5.2.1.1
    refine ⟨h1, ?_⟩
    rw [h2, h3, h5.1.2.1.2]
    refine q_firstNew h5.1.2.1.1 h5.2.2.2.2.1 h5.2.2.2.2.2.1 hs hg (fun y => by rw [game_iff lk, z] at y; exact nomatch y) (fun _ => end_ok hD h5 lk ((SIM.rf m).up0 0) rfl hP ?_)
    rw [Bool.and_eq_true] at z
    have i1 := in01.mp z.1
    have i2 := inB_iff.mp z.2
    have lk0 := lk.sim ((SIM.rf m).up0 0)
    have e33 : m 33 (slotB s g) = (up m 50 0 0) 33 (slotB s g) := (up_f m _ _ _ rfl).symm
    rw [e5, e33, (shm_of lk0 i1).new (hf.2.2.2.1.2.2.1 s i1).2.1.1 ⟨i2.1, by omega⟩]
end
