def sbO (s : Int) : Nat := if s = 0 then 30 else 32
def slO (s : Int) : Nat := if s = 0 then 31 else 33
section
variable {D : wD} {S : wS} {o : Nat → Nat} {c : cM} {v : Int → Int} {post : Int32 → wS → Prop} {xp : String → wS → Prop}
/-- both shelves -/
abbrev SHL (D : wD) (S : wS) (o : Nat → Nat) (c : cM) (yl : Int → Nat) (els : Int → List Nat) (n : Int → Int → Int) (w : Int → Int → Int → Int → Int) (mv : Int → Int → Int → Mv) (fr : Int → Int → Int → Bool) (inf : Int → Int → Nat → Int) (ys : Int → Int → Nat × Nat × Nat) : Prop :=
  ∀ s : Int, (s = 0 ∨ s = 1) → SHC D (cS S o c) (o (slO s)) (yl s) (els s) (n s) (w s) (mv s) (fr s) (inf s) (ys s)
variable {yl : Int → Nat} {els : Int → List Nat} {n : Int → Int → Int} {w : Int → Int → Int → Int → Int} {mv : Int → Int → Int → Mv} {fr : Int → Int → Int → Bool} {inf : Int → Int → Nat → Int} {ys : Int → Int → Nat × Nat × Nat}
theorem shb (h : CC D S o) {s : Int} (hs : s = 0 ∨ s = 1) : SHB D (cS S o c) (o (sbO s)) (o (slO s)) := by
  rcases hs with rfl | rfl
  · exact ⟨c_r h rfl, (c_m h (by decide)).mpr trivial, c_k h (by decide)⟩
  · exact ⟨c_r h rfl, (c_m h (by decide)).mpr trivial, c_k h (by decide)⟩
theorem shk (h : CC D S o) {s : Int} (hs : s = 0 ∨ s = 1) : wM D (cS S o c) (o (sbO s)) ∧ sK (cS S o c) (o (sbO s)) = 15 := by
  rcases hs with rfl | rfl
  · exact ⟨(c_m h (by decide)).mpr trivial, c_k h (by decide)⟩
  · exact ⟨(c_m h (by decide)).mpr trivial, c_k h (by decide)⟩
theorem in01 {s : Int} : inB s 0 1 = true ↔ s = 0 ∨ s = 1 := by rw [inB_iff]; omega
theorem q_shelfOf {post : Option Nat → wS → Prop} (h : CC D S o) {s : Int} (hs : i32 s) (k0 : inB s 0 1 = false → xp "java/lang/IndexOutOfBoundsException" (cS S o c)) (k1 : inB s 0 1 = true → post (some (o (sbO s))) (cS S o c)) : wp_X11_shelfOf D post xp (cS S o c) (o 0) (iI s) := by
  unfold wp_X11_shelfOf wp_X11_shelfOf_0 wp_X11_shelfOf_20 wp_X11_shelfOf_35
  have l0 : (iI s = 0) = (s = 0) := by rw [show (0 : Int32) = iI 0 from rfl, iI_eq hs.1 hs.2 (by decide) (by decide)]
  have l1 : (iI s = 1) = (s = 1) := by rw [show (1 : Int32) = iI 1 from rfl, iI_eq hs.1 hs.2 (by decide) (by decide)]
  rw [l0, l1]
  refine ⟨fun q => ⟨fun z => absurd q z, fun _ => ⟨o 30, c_r h rfl, (c_m h (by decide)).mpr trivial, c_k h (by decide), ?_⟩⟩, fun q => ⟨fun q1 => ⟨fun _ => ⟨o 32, c_r h rfl, (c_m h (by decide)).mpr trivial, c_k h (by decide), ?_⟩, fun z => absurd z q⟩, fun q1 => k0 ?_⟩⟩
  · have := k1 (in01.mpr (Or.inl q)); unfold sbO at this; rw [if_pos q] at this; exact this
  · have := k1 (in01.mpr (Or.inr q1)); unfold sbO at this; rw [if_neg q] at this; exact this
  · cases z : inB s 0 1
    · rfl
    · exact absurd (in01.mp z) (by omega)
theorem q_gameCountC (h : CC D S o) (hS : SHL D S o c yl els n w mv fr inf ys) {s : Int} (hs : i32 s) (k0 : inB s 0 1 = false → xp "java/lang/IndexOutOfBoundsException" (cS S o c)) (k1 : inB s 0 1 = true → post (iI (els s).length) (cS S o c)) : wp_X11_gameCount D post xp (cS S o c) (o 0) (iI s) := by
  unfold wp_X11_gameCount wp_X11_gameCount_0
  refine q_shelfOf h hs k0 fun q => ?_
  have q' := in01.mp q
  have sk := shk (D := D) (c := c) h q'
  exact ⟨o (sbO s), rfl, sk.1, sk.2, q_sizeS (shb h q') (hS s q') (k1 q)⟩
theorem q_gameOf {post : Option Nat → wS → Prop} (h : CC D S o) (hS : SHL D S o c yl els n w mv fr inf ys) {s g : Int} (hs : i32 s) (hg : i32 g)
    (k0 : (inB s 0 1 && inB g 0 ((els s).length - 1)) = false → xp "java/lang/IndexOutOfBoundsException" (cS S o c)) (k1 : (inB s 0 1 && inB g 0 ((els s).length - 1)) = true → post (some ((els s).getD g.toNat 0)) (cS S o c)) : wp_X11_gameOf D post xp (cS S o c) (o 0) (iI s) (iI g) := by
  unfold wp_X11_gameOf wp_X11_gameOf_0
  refine q_shelfOf h hs (fun q => k0 (by rw [q]; rfl)) fun q => ?_
  rw [q, Bool.true_and] at k0 k1
  have q' := in01.mp q
  have sk := shk (D := D) (c := c) h q'
  refine ⟨o (sbO s), rfl, sk.1, sk.2, ?_⟩
  cases z : inB g 0 ((els s).length - 1)
  · refine q_gameAtN (shb h q') (hS s q') hg (fun y => ?_) ?_
    · rw [inB_iff.mpr ⟨y.1, by omega⟩] at z; exact absurd z (by decide)
    · exact ⟨fun _ => k0 z, fun y hy => absurd hy (by simp)⟩
  · have z' := inB_iff.mp z
    refine q_gameAt (shb h q') (hS s q') (g := g) ⟨z'.1, by omega⟩ ?_
    refine ⟨fun y => absurd y (by simp), fun y hy => ?_⟩
    injection hy with hy
    rw [← hy]
    have g8 := (hS s q').g8 (g := g) ⟨z'.1, by omega⟩
    exact ⟨g8.1, g8.2, k1 z⟩
theorem q_gameLengthC (h : CC D S o) (hS : SHL D S o c yl els n w mv fr inf ys) {s g : Int} (hs : i32 s) (hg : i32 g)
    (k0 : (inB s 0 1 && inB g 0 ((els s).length - 1)) = false → xp "java/lang/IndexOutOfBoundsException" (cS S o c)) (k1 : (inB s 0 1 && inB g 0 ((els s).length - 1)) = true → post (iI (n s g)) (cS S o c)) : wp_X11_gameLength D post xp (cS S o c) (o 0) (iI s) (iI g) := by
  unfold wp_X11_gameLength wp_X11_gameLength_0
  refine q_gameOf h hS hs hg k0 fun q => ?_
  have k1 := k1 q
  rw [Bool.and_eq_true] at q
  have q1 := in01.mp q.1
  have q2 := inB_iff.mp q.2
  have g8 := (hS s q1).g8 (g := g) ⟨q2.1, by omega⟩
  refine ⟨_, rfl, g8.1, g8.2, ?_⟩
  rw [((hS s q1).2.2 g q2.1 (by omega)).1.2.2.2.1]
  exact k1
theorem q_countC (h : CC D S o) (hA : PAt c 11 v) (hv : rgV v) (hS : SHL D S o c yl els n w mv fr inf ys) {s : Int} (hs : i32 s) (k0 : inB s 0 1 = false → xp "java/lang/IndexOutOfBoundsException" (cS S o c))
    (k1 : inB s 0 1 = true → post (iI (sumL (fun g => if (decide ((-1 : Int) = -1) || decide (inf s g 4 = -1)) && thruC (n s) (w s) v g then 1 else 0) 0 (els s).length)) (cS S o c)) : wp_X11_count D post xp (cS S o c) (o 0) (iI s) := by
  unfold wp_X11_count wp_X11_count_0
  refine q_shelfOf h hs k0 fun q => ?_
  have q' := in01.mp q
  have sk := shk (D := D) (c := c) h q'
  refine ⟨o 11, c_r h rfl, (c_m h (by decide)).mpr trivial, c_k h (by decide), o (sbO s), rfl, sk.1, sk.2, ?_⟩
  exact q_passingS (shb h q') (hS s q') (PAt.po h isP11 hA) hv (r := -1) (by decide) (k1 q)
theorem q_countWithC (h : CC D S o) (hA : PAt c 11 v) (hv : rgV v) (hS : SHL D S o c yl els n w mv fr inf ys) {s r : Int} (hs : i32 s) (hr : i32 r) (k0 : inB s 0 1 = false → xp "java/lang/IndexOutOfBoundsException" (cS S o c))
    (k1 : inB s 0 1 = true → inB r 0 2 = false → xp "java/lang/IllegalArgumentException" (cS S o c))
    (k2 : inB s 0 1 = true → inB r 0 2 = true → post (iI (sumL (fun g => if (decide (r = -1) || decide (inf s g 4 = r)) && thruC (n s) (w s) v g then 1 else 0) 0 (els s).length)) (cS S o c)) : wp_X11_countWith D post xp (cS S o c) (o 0) (iI s) (iI r) := by
  unfold wp_X11_countWith wp_X11_countWith_0 wp_X11_countWith_15
  refine q_shelfOf h hs k0 fun q => ?_
  have q' := in01.mp q
  have sk := shk (D := D) (c := c) h q'
  rw [show (0 : Int32) = iI 0 from rfl, show (2 : Int32) = iI 2 from rfl, iI_lt hr.1 hr.2 (by decide) (by decide), iI_le hr.1 hr.2 (by decide) (by decide)]
  refine ⟨fun z => k1 q ?_, fun z => ⟨fun y => ⟨o 11, c_r h rfl, (c_m h (by decide)).mpr trivial, c_k h (by decide), o (sbO s), rfl, sk.1, sk.2, ?_⟩, fun y => k1 q ?_⟩⟩
  · unfold inB; rw [decide_eq_false (by omega)]; rfl
  · exact q_passingS (shb h q') (hS s q') (PAt.po h isP11 hA) hv hr (k2 q (inB_iff.mpr ⟨by omega, y⟩))
  · unfold inB; rw [decide_eq_false (show ¬ r ≤ 2 from y), Bool.and_false]
theorem q_countYearsC (h : CC D S o) (hA : PAt c 11 v) (hv : rgV v) (hS : SHL D S o c yl els n w mv fr inf ys) {s x y : Int} (hs : i32 s) (hx : i32 x) (hy : i32 y) (k0 : inB s 0 1 = false → xp "java/lang/IndexOutOfBoundsException" (cS S o c))
    (k1 : inB s 0 1 = true → ¬ x ≤ y → xp "java/lang/IllegalArgumentException" (cS S o c))
    (k2 : inB s 0 1 = true → x ≤ y → post (iI (sumL (fun g => if inB (inf s g 5) x y && thruC (n s) (w s) v g then 1 else 0) 0 (els s).length)) (cS S o c)) : wp_X11_countYears D post xp (cS S o c) (o 0) (iI s) (iI x) (iI y) := by
  unfold wp_X11_countYears wp_X11_countYears_0
  refine q_shelfOf h hs k0 fun q => ?_
  have q' := in01.mp q
  have sk := shk (D := D) (c := c) h q'
  rw [iI_le hx.1 hx.2 hy.1 hy.2]
  refine ⟨fun z => ⟨o 11, c_r h rfl, (c_m h (by decide)).mpr trivial, c_k h (by decide), o (sbO s), rfl, sk.1, sk.2, ?_⟩, k1 q⟩
  exact q_yearsS (shb h q') (hS s q') (PAt.po h isP11 hA) hv hx hy (k2 q z)
theorem q_positionCountC (h : CC D S o) (hS : SHL D S o c yl els n w mv fr inf ys) {s : Int} (hs : i32 s) (k0 : inB s 0 1 = false → xp "java/lang/IndexOutOfBoundsException" (cS S o c)) (k1 : inB s 0 1 = true → post (iI (sumL (freshC (n s) (fr s)) 0 (els s).length)) (cS S o c)) : wp_X11_positionCount D post xp (cS S o c) (o 0) (iI s) := by
  unfold wp_X11_positionCount wp_X11_positionCount_0
  refine q_shelfOf h hs k0 fun q => ?_
  have q' := in01.mp q
  have sk := shk (D := D) (c := c) h q'
  exact ⟨o (sbO s), rfl, sk.1, sk.2, q_diffS (shb h q') (hS s q') (k1 q)⟩
theorem q_variationC (h : CC D S o) (k : post (iI (c.1 0 16)) (cS S o c)) : wp_X11_variationMoves D post (cS S o c) (o 0) := by
  unfold wp_X11_variationMoves wp_X11_variationMoves_0
  rw [c_i1 h (by decide) (show ((16 : Nat) : Int) = 16 from rfl)]
  exact k
end
