def besB (F R a t : Int) : Bool := setB F R (a % F - 1) (a / F) t || setB F R (a % F + 1) (a / F) t
/-- what the class's board holds -/
abbrev BG (c : cM) (F R : Int) : Prop := (c.1 1 0 = F ∧ c.1 1 1 = R ∧ c.1 1 2 = F * R) ∧ (4 ≤ F ∧ F ≤ 8 ∧ 4 ≤ R ∧ R ≤ 8) ∧ c.2 1 3 = zS (edgeB F R) ∧
  ∀ k : Int, 0 ≤ k → k < F * R → (c.1 2 k = k % F ∧ c.1 3 k = k / F) ∧ (∀ d : Int, 0 ≤ d → d < 8 → c.2 4 (k * 8 + d) = zS (rayB F R (k % F) (k / F) (dfD d) (drD d))) ∧
    (c.2 5 k = zS (kstepB F R k) ∧ c.2 6 k = zS (nstepB F R k)) ∧ (c.2 7 k = zS (aimB F R k 1) ∧ c.2 8 k = zS (aimB F R k (-1))) ∧ c.2 9 k = zS (besB F R k)
section
variable {D : wD} {S : wS} {o : Nat → Nat} {c : cM} {F R : Int}
theorem BG.f (h : BG c F R) : c.1 1 0 = F := h.1.1
theorem BG.r (h : BG c F R) : c.1 1 1 = R := h.1.2.1
theorem BG.n (h : BG c F R) : c.1 1 2 = F * R := h.1.2.2
theorem BG.f4 (h : BG c F R) : 4 ≤ F := h.2.1.1
theorem BG.f8 (h : BG c F R) : F ≤ 8 := h.2.1.2.1
theorem BG.r4 (h : BG c F R) : 4 ≤ R := h.2.1.2.2.1
theorem BG.r8 (h : BG c F R) : R ≤ 8 := h.2.1.2.2.2
theorem BG.e (h : BG c F R) : c.2 1 3 = zS (edgeB F R) := h.2.2.1
theorem BG.m (h : BG c F R) : 16 ≤ F * R ∧ F * R ≤ 64 := FR_r h.f4 h.f8 h.r4 h.r8
theorem BG.file (h : BG c F R) {k : Int} (h0 : 0 ≤ k) (h1 : k < F * R) : c.1 2 k = k % F := (h.2.2.2 k h0 h1).1.1
theorem BG.rank (h : BG c F R) {k : Int} (h0 : 0 ≤ k) (h1 : k < F * R) : c.1 3 k = k / F := (h.2.2.2 k h0 h1).1.2
theorem BG.ray (h : BG c F R) {k d : Int} (h0 : 0 ≤ k) (h1 : k < F * R) (d0 : 0 ≤ d) (d1 : d < 8) : c.2 4 (k * 8 + d) = zS (rayB F R (k % F) (k / F) (dfD d) (drD d)) := (h.2.2.2 k h0 h1).2.1 d d0 d1
theorem BG.ks (h : BG c F R) {k : Int} (h0 : 0 ≤ k) (h1 : k < F * R) : c.2 5 k = zS (kstepB F R k) := (h.2.2.2 k h0 h1).2.2.1.1
theorem BG.ns (h : BG c F R) {k : Int} (h0 : 0 ≤ k) (h1 : k < F * R) : c.2 6 k = zS (nstepB F R k) := (h.2.2.2 k h0 h1).2.2.1.2
theorem BG.wa (h : BG c F R) {k : Int} (h0 : 0 ≤ k) (h1 : k < F * R) : c.2 7 k = zS (aimB F R k 1) := (h.2.2.2 k h0 h1).2.2.2.1.1
theorem BG.ba (h : BG c F R) {k : Int} (h0 : 0 ≤ k) (h1 : k < F * R) : c.2 8 k = zS (aimB F R k (-1)) := (h.2.2.2 k h0 h1).2.2.2.1.2
theorem BG.bs (h : BG c F R) {k : Int} (h0 : 0 ≤ k) (h1 : k < F * R) : c.2 9 k = zS (besB F R k) := (h.2.2.2 k h0 h1).2.2.2.2
theorem g_in {v a b : Int} : inB v a b = (decide (a ≤ v) && decide (v ≤ b)) := rfl
theorem q_has {post : Int32 → wS → Prop} (h : CC D S o) (hB : BG c F R) {a : Int} (ha : i32 a) : wp_X0_has D post (cS S o c) (o 1) (iI a) = post (iI (bI (inB a 0 (F * R - 1)))) (cS S o c) := by
  have hm := hB.m
  unfold wp_X0_has wp_X0_has_0 wp_X0_has_22 wp_X0_has_23
  rw [c_i0 h (by decide), show c.1 1 ((2 : Nat) : Int) = F * R from hB.n]
  have l1 : (iI a < 0) = (a < 0) := by rw [show (0 : Int32) = iI 0 from rfl, iI_lt ha.1 ha.2 (by decide) (by decide)]
  have l2 : (iI (F * R) ≤ iI a) = (F * R ≤ a) := by rw [iI_le (by omega) (by omega) ha.1 ha.2]
  have l3 : ((64 : Int32) ≤ iI a) = (64 ≤ a) := by rw [show (64 : Int32) = iI 64 from rfl, iI_le (by decide) (by decide) ha.1 ha.2]
  simp only [l1, l2, l3]
  by_cases c1 : a < 0
  · have : inB a 0 (F * R - 1) = false := by unfold inB; rw [decide_eq_false (by omega)]; rfl
    rw [this]
    simp only [c1, not_true_eq_false, false_implies, true_implies, and_true]
    exact propext (and_iff_right nr0)
  · by_cases c2 : F * R ≤ a
    · have : inB a 0 (F * R - 1) = false := by unfold inB; rw [decide_eq_false (show ¬ a ≤ F * R - 1 by omega), Bool.and_false]
      rw [this]
      simp only [c1, c2, not_true_eq_false, not_false_eq_true, false_implies, true_implies, and_true, true_and]
      exact propext (and_iff_right nr0)
    · have : inB a 0 (F * R - 1) = true := by unfold inB; rw [decide_eq_true (by omega), decide_eq_true (by omega)]; rfl
      rw [this]
      have c3 : ¬ 64 ≤ a := by omega
      simp only [c1, c2, c3, not_true_eq_false, not_false_eq_true, false_implies, true_implies, and_true, true_and]
      exact propext (and_iff_right nr1)
theorem q_slides_29 {post : Int64 → wS → Prop} (h : CC D S o) (hB : BG c F R) {a i : Int} {P occ : Int → Bool} {st : Bool} {n : Nat} (ha : 0 ≤ a ∧ a < F * R) (hi : 0 ≤ i ∧ i < 4)
    (k : wp_X0_slides_29 D post n (cS S o c) (o 1) (iI a) (zS occ) (zS (fun t => P t || wayB F R occ (a % F) (a / F) ((if st then 0 else 4) + i) (decide (i < 2)) t)) (iI (if st then 0 else 4)) (iI (i + 1))) :
    wp_X0_slides_29 D post (n + 1) (cS S o c) (o 1) (iI a) (zS occ) (zS P) (iI (if st then 0 else 4)) (iI i) := by
  have hm := hB.m
  have hf : (0 : Int) ≤ (if st then 0 else 4) ∧ (if st then 0 else 4 : Int) ≤ 4 := by cases st <;> decide
  generalize hfe : (if st then 0 else 4 : Int) = f at *
  have hray := hB.ray (k := a) (d := f + i) ha.1 ha.2 (by omega) (by omega)
  unfold wp_X0_slides_29
  have l1 : ((4 : Int32) ≤ iI i) = False := by rw [show (4 : Int32) = iI 4 from rfl, iI_le (by decide) (by decide) (by omega) (by omega)]; exact eq_false (by omega)
  have l2 : ((2 : Int32) ≤ iI i) = (2 ≤ i) := by rw [show (2 : Int32) = iI 2 from rfl, iI_le (by decide) (by decide) (by omega) (by omega)]
  refine ⟨fun hh => (l1 ▸ hh : False).elim, fun _ => ⟨o 4, c_r h rfl, (c_m h (by decide)).mpr trivial, c_k h (by decide), ?_⟩⟩
  have e0 : ((iI a * (8 : Int32)) + iI f) + iI i = iI (a * 8 + (f + i)) := by
    rw [show (8 : Int32) = iI 8 from rfl, iI_mul, iI_add, iI_add, Int.add_assoc]
  rw [e0]
  refine ⟨by rw [c_n h (by decide)]; exact iI_in (by omega) (by omega) (by show _ < ((512 : Nat) : Int); omega), ?_⟩
  rw [c_j h (by decide) (by omega) (by omega), hray]
  intro x4 e4 x5 e5
  rw [e4, zS_and] at e5
  simp only [l2]
  have fin : ∀ x9 : Int64, x9 = zS (wayB F R occ (a % F) (a / F) (f + i) (decide (i < 2))) → wp_X0_slides_149 D post (wp_X0_slides_29 D post n) (cS S o c) (o 1) (iI a) (zS occ) (zS P) (iI f) (iI i) x9 := by
    intro x9 e9 y1 ey1 y2 ey2
    rw [ey1, ey2, e9, zS_or, show (1 : Int32) = iI 1 from rfl, iI_add]
    exact k
  refine ⟨fun hi2 => ?_, fun hi2 => ?_⟩
  · intro x7 e7 x8 e8 x9 e9 x10 e10 x11 e11 x12 e12 x13 e13
    refine fin x13 ?_
    rw [e13, e4, show (1 : Int32) = iI 1 from rfl, zS_above (P := fun u => rayB F R (a % F) (a / F) (dfD (f + i)) (drD (f + i)) u && occ u) (fun u hu => ?_) e5 e7 e8 e9 e10 e11 e12, zS_and]
    · refine zS_congr fun t h0 h1 => ?_
      unfold wayB
      rw [decide_eq_false (show ¬ i < 2 by omega)]; rfl
    · cases hr : rayB F R (a % F) (a / F) (dfD (f + i)) (drD (f + i)) u
      · rfl
      · have := ((ray_iff hB.f4 hB.f8 hB.r4 hB.r8 (by omega)).mp hr).1
        omega
  · intro x14 e14
    refine fin x14 ?_
    rw [e14, e5, e4, zS_upto, zS_and]
    refine zS_congr fun t h0 h1 => ?_
    unfold wayB
    rw [decide_eq_true (show i < 2 by omega)]; rfl
theorem q_slides {post : Int64 → wS → Prop} (h : CC D S o) (hB : BG c F R) {a : Int} {occ : Int → Bool} {st : Bool} (ha : 0 ≤ a ∧ a < F * R) (k : post (zS (slideB F R occ a st)) (cS S o c)) :
    wp_X0_slides D post (cS S o c) (o 1) (iI a) (iI (bI st)) (zS occ) := by
  have hm := hB.m
  unfold wp_X0_slides wp_X0_slides_0
  have l1 : (iI a < 0) = False := by rw [show (0 : Int32) = iI 0 from rfl, iI_lt (by omega) (by omega) (by decide) (by decide)]; exact eq_false (by omega)
  have l2 : (iI a < (64 : Int32)) = True := by rw [show (64 : Int32) = iI 64 from rfl, iI_lt (by omega) (by omega) (by decide) (by decide)]; exact eq_true (by omega)
  have main : wp_X0_slides_24 D post (cS S o c) (o 1) (iI a) (zS occ) (0 : Int64) (iI (if st then 0 else 4)) := by
    refine ⟨5, ?_⟩
    rw [zS_f, show (0 : Int32) = iI 0 from rfl]
    refine q_slides_29 h hB ha ⟨by decide, by decide⟩ (q_slides_29 h hB ha ⟨by decide, by decide⟩ (q_slides_29 h hB ha ⟨by decide, by decide⟩ (q_slides_29 h hB ha ⟨by decide, by decide⟩ ?_)))
    unfold wp_X0_slides_29
    refine ⟨fun _ => ?_, fun hh => absurd (by decide) hh⟩
    have e : slideB F R occ a st = (fun t => (((false || wayB F R occ (a % F) (a / F) ((if st then 0 else 4) + 0) (decide ((0 : Int) < 2)) t) || wayB F R occ (a % F) (a / F) ((if st then 0 else 4) + (0 + 1)) (decide ((0 + 1 : Int) < 2)) t) || wayB F R occ (a % F) (a / F) ((if st then 0 else 4) + (0 + 1 + 1)) (decide ((0 + 1 + 1 : Int) < 2)) t) || wayB F R occ (a % F) (a / F) ((if st then 0 else 4) + (0 + 1 + 1 + 1)) (decide ((0 + 1 + 1 + 1 : Int) < 2)) t) := by
      funext t
      simp only [slideB, anyL, Bool.or_false, Bool.false_or, Bool.or_assoc]
    rw [← e]; exact k
  simp only [l1, l2, false_implies, true_implies, not_false_eq_true, not_true_eq_false, true_and, and_true]
  cases st
  · exact ⟨fun _ => main, fun hh => absurd (by decide) hh⟩
  · exact ⟨fun hh => absurd hh (by decide), fun _ => main⟩
end
