/-- a position of a game of a shelf -/
def sv (m : xM) (s g k : Int) : Int → Int := vec m 31 (placeB s g k)
abbrev SG (m : xM) (F R : Int) : Prop := (∀ s, 0 ≤ s → s ≤ 1 → 0 ≤ m 30 s ∧ m 30 s ≤ 40) ∧ (∀ k, 0 ≤ k → k < 80 → (0 ≤ m 33 k ∧ m 33 k ≤ 80) ∧ i32 (m 34 k) ∧ i32 (m 35 k)) ∧ ∀ s g k, 0 ≤ s → s ≤ 1 → 0 ≤ g → g < m 30 s → 0 ≤ k → k ≤ m 33 (slotB s g) → okV F R (sv m s g k)
def passB (m : xM) (s g : Int) (w : Int → Int) : Bool := anyL (fun k => sameB (sv m s g k) w) 0 (m 33 (slotB s g) + 1).toNat
def hereB (m : xM) (s g r a b : Int) : Bool := (decide (r = -1) || decide (m 34 (slotB s g) = r)) && inB (m 35 (slotB s g)) a b && passB m s g (pv m)
def gamesB (m : xM) (s r a b : Int) : Int := sumL (fun g => if hereB m s g r a b then 1 else 0) 0 (m 30 s).toNat
section
variable {D : wD} {S : wS} {x : Nat} {A : Nat → Nat} {m : xM} {F R : Int} {post : Int32 → wS → Prop}
theorem q_slot {U : wS} {s g : Int} : wp_X12_slot D post U (iI s) (iI g) = post (iI (slotB s g)) U := by
  simp (discharger := omega) only [nlit, iI_lit, iI_add, iI_sub, iI_mul, iI_neg, bI_z, bI_o, i10, i01, eq_self, bI_nar, nar_0, nar_1, bI_t, bI_f, Option.some.injEq, exists_eq_left', true_and, and_true, forall_eq, not_true_eq_false, not_false_eq_true, forall_const, false_implies, true_implies, Classical.not_not, if_true, if_false, Int.reduceEq, Int.reduceLT, Int.reduceLE, Int.reduceGT, Int.reduceGE, Int.reduceAdd, Int.reduceSub, Int.reduceMul, Int.reduceNeg, Int.reduceNe, Bool.true_and, Bool.and_true, Bool.false_and, Bool.and_false, BEq.rfl, Bool.true_eq_false, Bool.false_eq_true, wp_X12_slot, wp_X12_slot_0]
  rfl
theorem q_placeOf {U : wS} {s g k : Int} : wp_X12_placeOf D post U (iI s) (iI g) (iI k) = post (iI (placeB s g k)) U := by
  simp (discharger := omega) only [nlit, iI_lit, iI_add, iI_sub, iI_mul, iI_neg, bI_z, bI_o, i10, i01, eq_self, bI_nar, nar_0, nar_1, bI_t, bI_f, Option.some.injEq, exists_eq_left', true_and, and_true, forall_eq, not_true_eq_false, not_false_eq_true, forall_const, false_implies, true_implies, Classical.not_not, if_true, if_false, Int.reduceEq, Int.reduceLT, Int.reduceLE, Int.reduceGT, Int.reduceGE, Int.reduceAdd, Int.reduceSub, Int.reduceMul, Int.reduceNeg, Int.reduceNe, Bool.true_and, Bool.and_true, Bool.false_and, Bool.and_false, BEq.rfl, Bool.true_eq_false, Bool.false_eq_true, wp_X12_placeOf, wp_X12_placeOf_0]
  rfl
theorem q_passes_3 (h : XC D S x A) (hn : F * R ≤ 64) (hS : SG m F R) {s g a : Int} (hs : 0 ≤ s ∧ s ≤ 1) (hg : 0 ≤ g ∧ g < m 30 s) {f : Nat} (hf : xIn f = true) (ha : 0 ≤ a ∧ a + 67 ≤ xLen f) (hl : xLen f < 1000000) (hr : ∀ j, 0 ≤ j → j < 67 → i32 (vec m f a j)) :
    ∀ (n d : Nat) (j : Int), d < n → j + d = m 33 (slotB s g) + 1 → 0 ≤ j → post (iI (bI (anyL (fun k => sameB (sv m s g k) (vec m f a)) j d))) (xS S x A m) → wp_X12_passes_3 D post n (xS S x A m) x (iI s) (iI g) (A f) (iI a) (iI j) := by
  have h40 := hS.1 s hs.1 hs.2
  have hsl : 0 ≤ slotB s g ∧ slotB s g < 80 := by unfold slotB; omega
  have hlen := (hS.2.1 (slotB s g) hsl.1 hsl.2).1
  intro n
  induction n with
  | zero => intro d j hd; omega
  | succ n ih =>
    intro d j hd hj h0 k
    unfold wp_X12_passes_3
    simp (discharger := first | decide | omega) only [x_own h, x_kd h, x_r h, x_m h, x_l h, x_k h, x_n h, x_i0, x_i h, x_u0 h, x_u h, xLen, xKd, nlit, iI_lit, iI_add, iI_sub, iI_mul, iI_neg, bI_z, bI_o, i10, i01, eq_self, bI_nar, nar_0, nar_1, up_at, up_f, Option.some.injEq, exists_eq_left', true_and, and_true, forall_eq, not_true_eq_false, not_false_eq_true, forall_const, false_implies, true_implies, Classical.not_not, if_true, if_false, Int.reduceEq, Int.reduceLT, Int.reduceLE, Int.reduceGT, Int.reduceGE, Int.reduceAdd, Int.reduceSub, Int.reduceMul, Int.reduceNeg, Int.reduceNe]
    rw [q_slot]
    simp (discharger := first | decide | omega) only [x_own h, x_kd h, x_r h, x_m h, x_l h, x_k h, x_n h, x_i0, x_i h, x_u0 h, x_u h, xLen, xKd, nlit, iI_lit, iI_add, iI_sub, iI_mul, iI_neg, bI_z, bI_o, i10, i01, eq_self, bI_nar, nar_0, nar_1, up_at, up_f, Option.some.injEq, exists_eq_left', true_and, and_true, forall_eq, not_true_eq_false, not_false_eq_true, forall_const, false_implies, true_implies, Classical.not_not, if_true, if_false, Int.reduceEq, Int.reduceLT, Int.reduceLE, Int.reduceGT, Int.reduceGE, Int.reduceAdd, Int.reduceSub, Int.reduceMul, Int.reduceNeg, Int.reduceNe, eq_true (iI_in (a := slotB s g) (n := 80) (by omega) (by omega) (by omega))]
    rw [iI_lt (by omega) (by omega) (by omega) (by omega)]
    cases d with
    | zero =>
      have e : m 33 (slotB s g) < j := by omega
      simp only [iI_lit, bI_z, bI_o, i10, i01, eq_self, bI_nar, nar_0, nar_1, bI_t, bI_f, true_and, and_true, forall_eq, not_true_eq_false, not_false_eq_true, forall_const, false_implies, true_implies, Classical.not_not, if_true, if_false, Int.reduceEq, Int.reduceLT, Int.reduceLE, Int.reduceGT, Int.reduceGE, Int.reduceAdd, Int.reduceSub, Int.reduceMul, Int.reduceNeg, Int.reduceNe, Bool.true_and, Bool.and_true, Bool.false_and, Bool.and_false, Bool.true_or, Bool.or_true, Bool.false_or, Bool.or_false, BEq.rfl, decide_true, decide_false, decide_eq_true_eq, Bool.false_eq_true, Bool.true_eq_false, Bool.not_true, Bool.not_false, anyL, e] at k ⊢
      exact k
    | succ d =>
      have e : ¬ m 33 (slotB s g) < j := by omega
      have hp : 0 ≤ placeB s g j ∧ placeB s g j + 67 ≤ 434160 := by unfold placeB; unfold slotB at hlen e; omega
      have ok := hS.2.2 s g j hs.1 hs.2 hg.1 hg.2 h0 (by omega)
      simp (discharger := omega) only [nlit, iI_lit, iI_add, iI_sub, iI_mul, iI_neg, bI_z, bI_o, i10, i01, eq_self, bI_nar, nar_0, nar_1, bI_t, bI_f, Option.some.injEq, exists_eq_left', true_and, and_true, forall_eq, not_true_eq_false, not_false_eq_true, forall_const, false_implies, true_implies, Classical.not_not, if_true, if_false, Int.reduceEq, Int.reduceLT, Int.reduceLE, Int.reduceGT, Int.reduceGE, Int.reduceAdd, Int.reduceSub, Int.reduceMul, Int.reduceNeg, Int.reduceNe, Bool.true_and, Bool.and_true, Bool.false_and, Bool.and_false, BEq.rfl, Bool.true_eq_false, Bool.false_eq_true, e]
      rw [q_placeOf]
      refine q_isSame (f := 31) (g := f) h (by decide) hf (by simp only [xLen]; omega) ha ⟨by decide, hl⟩ (fun i h1 h2 => ⟨okV_i32 ok hn ⟨h1, h2⟩, hr i h1 h2⟩) ?_
      rw [show vec m 31 (placeB s g j) = sv m s g j from rfl]
      try simp (discharger := omega) only [nlit, iI_lit, iI_add, iI_sub, iI_mul, iI_neg, bI_z, bI_o, i10, i01, eq_self, bI_nar, nar_0, nar_1, bI_t, bI_f, Option.some.injEq, exists_eq_left', true_and, and_true, forall_eq, not_true_eq_false, not_false_eq_true, forall_const, false_implies, true_implies, Classical.not_not, if_true, if_false, Int.reduceEq, Int.reduceLT, Int.reduceLE, Int.reduceGT, Int.reduceGE, Int.reduceAdd, Int.reduceSub, Int.reduceMul, Int.reduceNeg, Int.reduceNe, Bool.true_and, Bool.and_true, Bool.false_and, Bool.and_false, BEq.rfl, Bool.true_eq_false, Bool.false_eq_true]
      cases c : sameB (sv m s g j) (vec m f a)
      · simp only [iI_lit, bI_z, bI_o, i10, i01, eq_self, bI_nar, nar_0, nar_1, bI_t, bI_f, true_and, and_true, forall_eq, not_true_eq_false, not_false_eq_true, forall_const, false_implies, true_implies, Classical.not_not, if_true, if_false, Int.reduceEq, Int.reduceLT, Int.reduceLE, Int.reduceGT, Int.reduceGE, Int.reduceAdd, Int.reduceSub, Int.reduceMul, Int.reduceNeg, Int.reduceNe, Bool.true_and, Bool.and_true, Bool.false_and, Bool.and_false, Bool.true_or, Bool.or_true, Bool.false_or, Bool.or_false, BEq.rfl, decide_true, decide_false, decide_eq_true_eq, Bool.false_eq_true, Bool.true_eq_false, Bool.not_true, Bool.not_false, anyL, c] at k ⊢
        exact ih d (j + 1) (by omega) (by omega) (by omega) k
      · simp only [iI_lit, bI_z, bI_o, i10, i01, eq_self, bI_nar, nar_0, nar_1, bI_t, bI_f, true_and, and_true, forall_eq, not_true_eq_false, not_false_eq_true, forall_const, false_implies, true_implies, Classical.not_not, if_true, if_false, Int.reduceEq, Int.reduceLT, Int.reduceLE, Int.reduceGT, Int.reduceGE, Int.reduceAdd, Int.reduceSub, Int.reduceMul, Int.reduceNeg, Int.reduceNe, Bool.true_and, Bool.and_true, Bool.false_and, Bool.and_false, Bool.true_or, Bool.or_true, Bool.false_or, Bool.or_false, BEq.rfl, decide_true, decide_false, decide_eq_true_eq, Bool.false_eq_true, Bool.true_eq_false, Bool.not_true, Bool.not_false, anyL, c] at k ⊢
        exact k
theorem q_passes (h : XC D S x A) (hn : F * R ≤ 64) (hS : SG m F R) {s g a : Int} (hs : 0 ≤ s ∧ s ≤ 1) (hg : 0 ≤ g ∧ g < m 30 s) {f : Nat} (hf : xIn f = true) (ha : 0 ≤ a ∧ a + 67 ≤ xLen f) (hl : xLen f < 1000000) (hr : ∀ j, 0 ≤ j → j < 67 → i32 (vec m f a j))
    (k : post (iI (bI (passB m s g (vec m f a)))) (xS S x A m)) : wp_X12_passes D post (xS S x A m) x (iI s) (iI g) (A f) (iI a) := by
  have h40 := hS.1 s hs.1 hs.2
  have hsl : 0 ≤ slotB s g ∧ slotB s g < 80 := by unfold slotB; omega
  have hlen := (hS.2.1 (slotB s g) hsl.1 hsl.2).1
  refine ⟨82, ?_⟩
  exact q_passes_3 h hn hS hs hg hf ha hl hr 82 (m 33 (slotB s g) + 1).toNat 0 (by omega) (by omega) (by decide) k
theorem q_passesHere (h : XC D S x A) (hG : RG m F R) (hS : SG m F R) {s g : Int} (hs : 0 ≤ s ∧ s ≤ 1) (hg : 0 ≤ g ∧ g < m 30 s)
    (k : post (iI (bI (passB m s g (pv m)))) (xS S x A m)) : wp_X12_passesHere D post (xS S x A m) x (iI s) (iI g) := by
  have hn := hG.b.n
  have hm := hG.m0
  simp (discharger := first | decide | omega) only [x_own h, x_kd h, x_r h, x_m h, x_l h, x_k h, x_n h, x_i0, x_i h, x_u0 h, x_u h, xLen, xKd, nlit, iI_lit, iI_add, iI_sub, iI_mul, iI_neg, bI_z, bI_o, i10, i01, eq_self, bI_nar, nar_0, nar_1, up_at, up_f, Option.some.injEq, exists_eq_left', true_and, and_true, forall_eq, not_true_eq_false, not_false_eq_true, forall_const, false_implies, true_implies, Classical.not_not, if_true, if_false, Int.reduceEq, Int.reduceLT, Int.reduceLE, Int.reduceGT, Int.reduceGE, Int.reduceAdd, Int.reduceSub, Int.reduceMul, Int.reduceNeg, Int.reduceNe, wp_X12_passesHere, wp_X12_passesHere_0]
  rw [q_presentAt]
  refine q_passes (f := 8) h hn.2 hS hs hg (by decide) (by simp only [xLen]; omega) (by decide) (fun j h1 h2 => okV_i32 hG.pv hn.2 ⟨h1, h2⟩) ?_
  try simp (discharger := omega) only [nlit, iI_lit, iI_add, iI_sub, iI_mul, iI_neg, bI_z, bI_o, i10, i01, eq_self, bI_nar, nar_0, nar_1, bI_t, bI_f, Option.some.injEq, exists_eq_left', true_and, and_true, forall_eq, not_true_eq_false, not_false_eq_true, forall_const, false_implies, true_implies, Classical.not_not, if_true, if_false, Int.reduceEq, Int.reduceLT, Int.reduceLE, Int.reduceGT, Int.reduceGE, Int.reduceAdd, Int.reduceSub, Int.reduceMul, Int.reduceNeg, Int.reduceNe, Bool.true_and, Bool.and_true, Bool.false_and, Bool.and_false, BEq.rfl, Bool.true_eq_false, Bool.false_eq_true]
  exact k
theorem q_gamesHere_6 (h : XC D S x A) (hG : RG m F R) (hS : SG m F R) {s r a b : Int} (hs : 0 ≤ s ∧ s ≤ 1) (hr : i32 r) (ha : i32 a) (hb : i32 b) :
    ∀ (n d : Nat) (j t : Int), d < n → j + d = m 30 s → 0 ≤ j → post (iI (t + sumL (fun g => if hereB m s g r a b then 1 else 0) j d)) (xS S x A m) → wp_X12_gamesHere_6 D post n (xS S x A m) x (iI s) (iI r) (iI a) (iI b) (iI t) (iI j) := by
  have h40 := hS.1 s hs.1 hs.2
  intro n
  induction n with
  | zero => intro d j t hd; omega
  | succ n ih =>
    intro d j t hd hj h0 k
    unfold wp_X12_gamesHere_6
    simp (discharger := first | decide | omega) only [x_own h, x_kd h, x_r h, x_m h, x_l h, x_k h, x_n h, x_i0, x_i h, x_u0 h, x_u h, xLen, xKd, nlit, iI_lit, iI_add, iI_sub, iI_mul, iI_neg, bI_z, bI_o, i10, i01, eq_self, bI_nar, nar_0, nar_1, up_at, up_f, Option.some.injEq, exists_eq_left', true_and, and_true, forall_eq, not_true_eq_false, not_false_eq_true, forall_const, false_implies, true_implies, Classical.not_not, if_true, if_false, Int.reduceEq, Int.reduceLT, Int.reduceLE, Int.reduceGT, Int.reduceGE, Int.reduceAdd, Int.reduceSub, Int.reduceMul, Int.reduceNeg, Int.reduceNe, eq_true (iI_in (a := s) (n := 2) (by omega) (by omega) (by omega))]
    rw [iI_le (by omega) (by omega) (by omega) (by omega)]
    cases d with
    | zero =>
      have e : m 30 s ≤ j := by omega
      simp only [iI_lit, bI_z, bI_o, i10, i01, eq_self, bI_nar, nar_0, nar_1, bI_t, bI_f, true_and, and_true, forall_eq, not_true_eq_false, not_false_eq_true, forall_const, false_implies, true_implies, Classical.not_not, if_true, if_false, Int.reduceEq, Int.reduceLT, Int.reduceLE, Int.reduceGT, Int.reduceGE, Int.reduceAdd, Int.reduceSub, Int.reduceMul, Int.reduceNeg, Int.reduceNe, Bool.true_and, Bool.and_true, Bool.false_and, Bool.and_false, Bool.true_or, Bool.or_true, Bool.false_or, Bool.or_false, BEq.rfl, decide_true, decide_false, decide_eq_true_eq, Bool.false_eq_true, Bool.true_eq_false, Bool.not_true, Bool.not_false, sumL, e, Int.add_zero] at k ⊢
      exact k
    | succ d =>
      have e : ¬ m 30 s ≤ j := by omega
      have hsl : 0 ≤ slotB s j ∧ slotB s j < 80 := by unfold slotB; omega
      have isl : vp_in (iI (slotB s j)) 80 := iI_in (by omega) (by omega) (by omega)
      obtain ⟨-, r34, r35⟩ := hS.2.1 (slotB s j) hsl.1 hsl.2
      have nx : ∀ w : Int, w = (if hereB m s j r a b then 1 else 0) → wp_X12_gamesHere_74 D post (wp_X12_gamesHere_6 D post n) (xS S x A m) x (iI s) (iI r) (iI a) (iI b) (iI j) (iI t) (iI w) := by
        intro w hw
        simp (discharger := omega) only [nlit, iI_lit, iI_add, iI_sub, iI_mul, iI_neg, bI_z, bI_o, i10, i01, eq_self, bI_nar, nar_0, nar_1, bI_t, bI_f, Option.some.injEq, exists_eq_left', true_and, and_true, forall_eq, not_true_eq_false, not_false_eq_true, forall_const, false_implies, true_implies, Classical.not_not, if_true, if_false, Int.reduceEq, Int.reduceLT, Int.reduceLE, Int.reduceGT, Int.reduceGE, Int.reduceAdd, Int.reduceSub, Int.reduceMul, Int.reduceNeg, Int.reduceNe, Bool.true_and, Bool.and_true, Bool.false_and, Bool.and_false, BEq.rfl, Bool.true_eq_false, Bool.false_eq_true, wp_X12_gamesHere_74]
        refine ih d (j + 1) (t + w) (by omega) (by omega) (by omega) ?_
        unfold sumL at k
        rw [← hw] at k
        rw [Int.add_assoc]; exact k
      have n0 : hereB m s j r a b = false → wp_X12_gamesHere_73 D post (wp_X12_gamesHere_6 D post n) (xS S x A m) x (iI s) (iI r) (iI a) (iI b) (iI j) (iI t) := fun z => by
        unfold wp_X12_gamesHere_73
        exact nx 0 (by simp [z])
      have k43 : (decide (r = -1) || decide (m 34 (slotB s j) = r)) = true → wp_X12_gamesHere_43 D post (wp_X12_gamesHere_6 D post n) (xS S x A m) x (iI s) (iI r) (iI a) (iI b) (iI j) (iI (slotB s j)) (iI t) := by
        intro z
        unfold hereB at nx n0
        rw [z, Bool.true_and] at nx n0
        unfold wp_X12_gamesHere_43
        simp (discharger := first | decide | omega) only [x_own h, x_kd h, x_r h, x_m h, x_l h, x_k h, x_n h, x_i0, x_i h, x_u0 h, x_u h, xLen, xKd, nlit, iI_lit, iI_add, iI_sub, iI_mul, iI_neg, bI_z, bI_o, i10, i01, eq_self, bI_nar, nar_0, nar_1, up_at, up_f, Option.some.injEq, exists_eq_left', true_and, and_true, forall_eq, not_true_eq_false, not_false_eq_true, forall_const, false_implies, true_implies, Classical.not_not, if_true, if_false, Int.reduceEq, Int.reduceLT, Int.reduceLE, Int.reduceGT, Int.reduceGE, Int.reduceAdd, Int.reduceSub, Int.reduceMul, Int.reduceNeg, Int.reduceNe, eq_true isl]
        rw [q_in r35 ha hb]
        try simp (discharger := omega) only [nlit, iI_lit, iI_add, iI_sub, iI_mul, iI_neg, bI_z, bI_o, i10, i01, eq_self, bI_nar, nar_0, nar_1, bI_t, bI_f, Option.some.injEq, exists_eq_left', true_and, and_true, forall_eq, not_true_eq_false, not_false_eq_true, forall_const, false_implies, true_implies, Classical.not_not, if_true, if_false, Int.reduceEq, Int.reduceLT, Int.reduceLE, Int.reduceGT, Int.reduceGE, Int.reduceAdd, Int.reduceSub, Int.reduceMul, Int.reduceNeg, Int.reduceNe, Bool.true_and, Bool.and_true, Bool.false_and, Bool.and_false, BEq.rfl, Bool.true_eq_false, Bool.false_eq_true]
        cases c : inB (m 35 (slotB s j)) a b
        · try simp (discharger := omega) only [nlit, iI_lit, iI_add, iI_sub, iI_mul, iI_neg, bI_z, bI_o, i10, i01, eq_self, bI_nar, nar_0, nar_1, bI_t, bI_f, Option.some.injEq, exists_eq_left', true_and, and_true, forall_eq, not_true_eq_false, not_false_eq_true, forall_const, false_implies, true_implies, Classical.not_not, if_true, if_false, Int.reduceEq, Int.reduceLT, Int.reduceLE, Int.reduceGT, Int.reduceGE, Int.reduceAdd, Int.reduceSub, Int.reduceMul, Int.reduceNeg, Int.reduceNe, Bool.true_and, Bool.and_true, Bool.false_and, Bool.and_false, BEq.rfl, Bool.true_eq_false, Bool.false_eq_true]
          exact n0 (by simp [c])
        · rw [c, Bool.true_and] at nx n0
          try simp (discharger := omega) only [nlit, iI_lit, iI_add, iI_sub, iI_mul, iI_neg, bI_z, bI_o, i10, i01, eq_self, bI_nar, nar_0, nar_1, bI_t, bI_f, Option.some.injEq, exists_eq_left', true_and, and_true, forall_eq, not_true_eq_false, not_false_eq_true, forall_const, false_implies, true_implies, Classical.not_not, if_true, if_false, Int.reduceEq, Int.reduceLT, Int.reduceLE, Int.reduceGT, Int.reduceGE, Int.reduceAdd, Int.reduceSub, Int.reduceMul, Int.reduceNeg, Int.reduceNe, Bool.true_and, Bool.and_true, Bool.false_and, Bool.and_false, BEq.rfl, Bool.true_eq_false, Bool.false_eq_true]
          refine q_passesHere h hG hS hs ⟨h0, by omega⟩ ?_
          try simp (discharger := omega) only [nlit, iI_lit, iI_add, iI_sub, iI_mul, iI_neg, bI_z, bI_o, i10, i01, eq_self, bI_nar, nar_0, nar_1, bI_t, bI_f, Option.some.injEq, exists_eq_left', true_and, and_true, forall_eq, not_true_eq_false, not_false_eq_true, forall_const, false_implies, true_implies, Classical.not_not, if_true, if_false, Int.reduceEq, Int.reduceLT, Int.reduceLE, Int.reduceGT, Int.reduceGE, Int.reduceAdd, Int.reduceSub, Int.reduceMul, Int.reduceNeg, Int.reduceNe, Bool.true_and, Bool.and_true, Bool.false_and, Bool.and_false, BEq.rfl, Bool.true_eq_false, Bool.false_eq_true]
          cases c2 : passB m s j (pv m)
          · try simp (discharger := omega) only [nlit, iI_lit, iI_add, iI_sub, iI_mul, iI_neg, bI_z, bI_o, i10, i01, eq_self, bI_nar, nar_0, nar_1, bI_t, bI_f, Option.some.injEq, exists_eq_left', true_and, and_true, forall_eq, not_true_eq_false, not_false_eq_true, forall_const, false_implies, true_implies, Classical.not_not, if_true, if_false, Int.reduceEq, Int.reduceLT, Int.reduceLE, Int.reduceGT, Int.reduceGE, Int.reduceAdd, Int.reduceSub, Int.reduceMul, Int.reduceNeg, Int.reduceNe, Bool.true_and, Bool.and_true, Bool.false_and, Bool.and_false, BEq.rfl, Bool.true_eq_false, Bool.false_eq_true]
            exact n0 c2
          · try simp (discharger := omega) only [nlit, iI_lit, iI_add, iI_sub, iI_mul, iI_neg, bI_z, bI_o, i10, i01, eq_self, bI_nar, nar_0, nar_1, bI_t, bI_f, Option.some.injEq, exists_eq_left', true_and, and_true, forall_eq, not_true_eq_false, not_false_eq_true, forall_const, false_implies, true_implies, Classical.not_not, if_true, if_false, Int.reduceEq, Int.reduceLT, Int.reduceLE, Int.reduceGT, Int.reduceGE, Int.reduceAdd, Int.reduceSub, Int.reduceMul, Int.reduceNeg, Int.reduceNe, Bool.true_and, Bool.and_true, Bool.false_and, Bool.and_false, BEq.rfl, Bool.true_eq_false, Bool.false_eq_true]
            exact nx 1 (by simp [c2])
      simp (discharger := omega) only [nlit, iI_lit, iI_add, iI_sub, iI_mul, iI_neg, bI_z, bI_o, i10, i01, eq_self, bI_nar, nar_0, nar_1, bI_t, bI_f, Option.some.injEq, exists_eq_left', true_and, and_true, forall_eq, not_true_eq_false, not_false_eq_true, forall_const, false_implies, true_implies, Classical.not_not, if_true, if_false, Int.reduceEq, Int.reduceLT, Int.reduceLE, Int.reduceGT, Int.reduceGE, Int.reduceAdd, Int.reduceSub, Int.reduceMul, Int.reduceNeg, Int.reduceNe, Bool.true_and, Bool.and_true, Bool.false_and, Bool.and_false, BEq.rfl, Bool.true_eq_false, Bool.false_eq_true, e]
      rw [q_slot]
      simp (discharger := omega) only [nlit, iI_lit, iI_add, iI_sub, iI_mul, iI_neg, bI_z, bI_o, i10, i01, eq_self, bI_nar, nar_0, nar_1, bI_t, bI_f, Option.some.injEq, exists_eq_left', true_and, and_true, forall_eq, not_true_eq_false, not_false_eq_true, forall_const, false_implies, true_implies, Classical.not_not, if_true, if_false, Int.reduceEq, Int.reduceLT, Int.reduceLE, Int.reduceGT, Int.reduceGE, Int.reduceAdd, Int.reduceSub, Int.reduceMul, Int.reduceNeg, Int.reduceNe, Bool.true_and, Bool.and_true, Bool.false_and, Bool.and_false, BEq.rfl, Bool.true_eq_false, Bool.false_eq_true, iI_eq]
      by_cases c1 : r = -1
      · simp (discharger := omega) only [nlit, iI_lit, iI_add, iI_sub, iI_mul, iI_neg, bI_z, bI_o, i10, i01, eq_self, bI_nar, nar_0, nar_1, bI_t, bI_f, Option.some.injEq, exists_eq_left', true_and, and_true, forall_eq, not_true_eq_false, not_false_eq_true, forall_const, false_implies, true_implies, Classical.not_not, if_true, if_false, Int.reduceEq, Int.reduceLT, Int.reduceLE, Int.reduceGT, Int.reduceGE, Int.reduceAdd, Int.reduceSub, Int.reduceMul, Int.reduceNeg, Int.reduceNe, Bool.true_and, Bool.and_true, Bool.false_and, Bool.and_false, BEq.rfl, Bool.true_eq_false, Bool.false_eq_true, c1]
        rw [c1] at k43
        exact k43 (by simp)
      · simp (discharger := omega) only [nlit, iI_lit, iI_add, iI_sub, iI_mul, iI_neg, bI_z, bI_o, i10, i01, eq_self, bI_nar, nar_0, nar_1, bI_t, bI_f, Option.some.injEq, exists_eq_left', true_and, and_true, forall_eq, not_true_eq_false, not_false_eq_true, forall_const, false_implies, true_implies, Classical.not_not, if_true, if_false, Int.reduceEq, Int.reduceLT, Int.reduceLE, Int.reduceGT, Int.reduceGE, Int.reduceAdd, Int.reduceSub, Int.reduceMul, Int.reduceNeg, Int.reduceNe, Bool.true_and, Bool.and_true, Bool.false_and, Bool.and_false, BEq.rfl, Bool.true_eq_false, Bool.false_eq_true, c1]
        simp (discharger := first | decide | omega) only [x_own h, x_kd h, x_r h, x_m h, x_l h, x_k h, x_n h, x_i0, x_i h, x_u0 h, x_u h, xLen, xKd, nlit, iI_lit, iI_add, iI_sub, iI_mul, iI_neg, bI_z, bI_o, i10, i01, eq_self, bI_nar, nar_0, nar_1, up_at, up_f, Option.some.injEq, exists_eq_left', true_and, and_true, forall_eq, not_true_eq_false, not_false_eq_true, forall_const, false_implies, true_implies, Classical.not_not, if_true, if_false, Int.reduceEq, Int.reduceLT, Int.reduceLE, Int.reduceGT, Int.reduceGE, Int.reduceAdd, Int.reduceSub, Int.reduceMul, Int.reduceNeg, Int.reduceNe, eq_true isl]
        rw [iI_eq r34.1 r34.2 hr.1 hr.2]
        by_cases c2 : m 34 (slotB s j) = r
        · simp (discharger := omega) only [nlit, iI_lit, iI_add, iI_sub, iI_mul, iI_neg, bI_z, bI_o, i10, i01, eq_self, bI_nar, nar_0, nar_1, bI_t, bI_f, Option.some.injEq, exists_eq_left', true_and, and_true, forall_eq, not_true_eq_false, not_false_eq_true, forall_const, false_implies, true_implies, Classical.not_not, if_true, if_false, Int.reduceEq, Int.reduceLT, Int.reduceLE, Int.reduceGT, Int.reduceGE, Int.reduceAdd, Int.reduceSub, Int.reduceMul, Int.reduceNeg, Int.reduceNe, Bool.true_and, Bool.and_true, Bool.false_and, Bool.and_false, BEq.rfl, Bool.true_eq_false, Bool.false_eq_true, eq_true c2]
          exact k43 (by simp [c2])
        · simp (discharger := omega) only [nlit, iI_lit, iI_add, iI_sub, iI_mul, iI_neg, bI_z, bI_o, i10, i01, eq_self, bI_nar, nar_0, nar_1, bI_t, bI_f, Option.some.injEq, exists_eq_left', true_and, and_true, forall_eq, not_true_eq_false, not_false_eq_true, forall_const, false_implies, true_implies, Classical.not_not, if_true, if_false, Int.reduceEq, Int.reduceLT, Int.reduceLE, Int.reduceGT, Int.reduceGE, Int.reduceAdd, Int.reduceSub, Int.reduceMul, Int.reduceNeg, Int.reduceNe, Bool.true_and, Bool.and_true, Bool.false_and, Bool.and_false, BEq.rfl, Bool.true_eq_false, Bool.false_eq_true, eq_false c2]
          exact n0 (by simp [hereB, c1, c2])
theorem q_gamesHere (h : XC D S x A) (hG : RG m F R) (hS : SG m F R) {s r a b : Int} (hs : 0 ≤ s ∧ s ≤ 1) (hr : i32 r) (ha : i32 a) (hb : i32 b)
    (k : post (iI (gamesB m s r a b)) (xS S x A m)) : wp_X12_gamesHere D post (xS S x A m) x (iI s) (iI r) (iI a) (iI b) := by
  have h40 := hS.1 s hs.1 hs.2
  refine ⟨41, ?_⟩
  refine q_gamesHere_6 h hG hS hs hr ha hb 41 (m 30 s).toNat 0 0 (by omega) (by omega) (by decide) ?_
  rw [Int.zero_add]; exact k
end
