/-- the board when the squares below n are laid -/
abbrev LB (c0 c : cM) (F R n : Int) : Prop := cSim [1, 2, 3, 4, 5, 6, 7, 8, 9] c0 c ∧ DM c F R ∧ c.2 1 3 = zS (fun t => edgeB F R t && decide (t < n)) ∧ ∀ k : Int, 0 ≤ k → k < n → SQ c F R k
section
variable {D : wD} {S : wS} {o : Nat → Nat} {c : cM} {F R : Int}
theorem q_has2 {post : Int32 → wS → Prop} (h : CC D S o) (hd : DM c F R) {a : Int} (ha : 0 ≤ a ∧ a < F * R) (hn : F * R ≤ 64) : wp_X0_has D post (cS S o c) (o 1) (iI a) = post 1 (cS S o c) := by
  unfold wp_X0_has wp_X0_has_0 wp_X0_has_22 wp_X0_has_23
  rw [c_i0 h (by decide), show c.1 1 ((2 : Nat) : Int) = F * R from hd.2.2]
  have l1 : (iI a < 0) = False := by rw [show (0 : Int32) = iI 0 from rfl, iI_lt (by omega) (by omega) (by decide) (by decide)]; exact eq_false (by omega)
  have l2 : (iI (F * R) ≤ iI a) = False := by rw [iI_le (by omega) (by omega) (by omega) (by omega)]; exact eq_false (by omega)
  have l3 : ((64 : Int32) ≤ iI a) = False := by rw [show (64 : Int32) = iI 64 from rfl, iI_le (by decide) (by decide) (by omega) (by omega)]; exact eq_false (by omega)
  simp only [l1, l2, l3, false_implies, not_false_eq_true, true_implies, true_and]
  exact propext (and_iff_right nr1)
theorem q_laySquare_35 {post : wS → Prop} (h : CC D S o) (hw : RW D S o) (hm : 4 ≤ F ∧ F ≤ 8 ∧ 4 ≤ R ∧ R ≤ 8) {c0 : cM} {n : Int} (hn : 0 ≤ n ∧ n < F * R) (hf : 0 ≤ n % F ∧ n % F < 8) (hr : 0 ≤ n / F ∧ n / F < 8) (hn64 : n < 64)
    (hs : cSim [1, 2, 3, 4, 5, 6, 7, 8, 9] c0 c) (hd : DM c F R) (he : c.2 1 3 = zS (fun t => edgeB F R t && decide (t < n + 1))) (hq : ∀ k : Int, 0 ≤ k → k < n → SQ c F R k)
    (k : ∀ c', LB c0 c' F R (n + 1) → post (cS S o c')) : wp_X0_laySquare_35 D post (cS S o c) (o 1) (iI n) (iI (n % F)) (iI (n / F)) := by
  unfold wp_X0_laySquare_35
  have wr := fun (c : cM) (g : Nat) (hg : cOk g = true) (hk : n < ((cln g : Nat) : Int)) (hl : cln g < 100000) => c_wrow (D := D) (c := c) h (g := g) hg hn.1 hk hl
  refine ⟨o 2, c_r h rfl, (c_m h (by decide)).mpr trivial, c_k h (by decide), (wr c 2 (by decide) hn64 (by decide)).1, (wr c 2 (by decide) hn64 (by decide)).2, ?_⟩
  intro S3 e3
  rw [c_u h (by decide) hn.1 (by omega)] at e3
  rw [e3]
  refine ⟨o 3, c_r h rfl, (c_m h (by decide)).mpr trivial, c_k h (by decide), (wr _ 3 (by decide) hn64 (by decide)).1, (wr _ 3 (by decide) hn64 (by decide)).2, ?_⟩
  intro S6 e6
  rw [c_u h (by decide) hn.1 (by omega)] at e6
  rw [e6]
  refine ⟨o 5, c_r h rfl, (c_m h (by decide)).mpr trivial, c_k h (by decide), (wr _ 5 (by decide) hn64 (by decide)).1, (wr _ 5 (by decide) hn64 (by decide)).2, ?_⟩
  intro S9 e9
  rw [c_w h (by decide) hn.1 (by omega)] at e9
  rw [e9]
  refine ⟨o 6, c_r h rfl, (c_m h (by decide)).mpr trivial, c_k h (by decide), (wr _ 6 (by decide) hn64 (by decide)).1, (wr _ 6 (by decide) hn64 (by decide)).2, ?_⟩
  intro S12 e12
  rw [c_w h (by decide) hn.1 (by omega)] at e12
  rw [e12]
  refine ⟨9, ?_⟩
  generalize hc : cJ (cJ (cI (cI c 2 n (n % F)) 3 n (n / F)) 5 n 0) 6 n 0 = c1
  have c1i : ∀ g, g ≠ 2 → g ≠ 3 → c1.1 g = c.1 g := fun g h2 h3 => by rw [← hc, cJ_1, cJ_1, cI_1, up_r _ _ _ (by simpa using h3), cI_1, up_r _ _ _ (by simpa using h2)]
  have c1j : ∀ g, g ≠ 5 → g ≠ 6 → c1.2 g = c.2 g := fun g h2 h3 => by rw [← hc, cJ_2, upJ_r _ _ _ (by simpa using h3), cJ_2, upJ_r _ _ _ (by simpa using h2), cI_2, cI_2]
  have c1il : ∀ g, ∀ j : Int, j < n → c1.1 g j = c.1 g j := fun g j hj => by rw [← hc, cJ_1, cJ_1, cI_1, up_ne _ (Or.inr (by omega)), cI_1, up_ne _ (Or.inr (by omega))]
  have c1jl : ∀ g, ∀ j : Int, j < n → c1.2 g j = c.2 g j := fun g j hj => by rw [← hc, cJ_2, upJ_ne _ (Or.inr (by omega)), cJ_2, upJ_ne _ (Or.inr (by omega)), cI_2, cI_2]
  have hd1 : DM c1 F R := by unfold DM; rw [c1i 1 (by decide) (by decide)]; exact hd
  refine q_laySquare_66 (c0 := c0) h hw hm hn hf hr hn64 (fun c' a1 a2 a3 a4 => k c' ⟨a1, a2, a3, a4⟩) 9 8 0 c1 (by decide) (by decide) (by decide) ⟨?_, hd1, ?_, ?_, ⟨?_, ?_⟩, fun d d0 d1 => absurd d1 (by omega), ?_, ?_⟩
  · refine hs.trans fun g hg => ⟨c1i g (fun e => hg (by rw [e]; decide)) (fun e => hg (by rw [e]; decide)), c1j g (fun e => hg (by rw [e]; decide)) (fun e => hg (by rw [e]; decide))⟩
  · rw [c1j 1 (by decide) (by decide)]; exact he
  · intro g g0 g1
    exact SQ.keep (hq g g0 g1) g1 (fun q _ j hj => c1il q j hj) (fun j hj => by rw [c1j 4 (by decide) (by decide)]) (fun q _ _ j hj => c1jl q j hj)
  · rw [← hc, cJ_1, cJ_1, cI_1, up_ne _ (Or.inl (by decide)), cI_1, up_at]
  · rw [← hc, cJ_1, cJ_1, cI_1, up_at]
  · rw [← hc, cJ_2, upJ_ne _ (Or.inl (by decide)), cJ_2, upJ_at]; exact zS_f
  · rw [← hc, cJ_2, upJ_at]; exact zS_f
theorem q_laySquare {post : wS → Prop} (h : CC D S o) (hw : RW D S o) (hm : 4 ≤ F ∧ F ≤ 8 ∧ 4 ≤ R ∧ R ≤ 8) (hFR : F * R ≤ 64) {c0 : cM} {n : Int} (hn : 0 ≤ n ∧ n < F * R) (hf : 0 ≤ n % F ∧ n % F < 8) (hr : 0 ≤ n / F ∧ n / F < R) (hL : LB c0 c F R n)
    (k : ∀ c', LB c0 c' F R (n + 1) → post (cS S o c')) : wp_X0_laySquare D post (cS S o c) (o 1) (iI n) (iI (n % F)) (iI (n / F)) := by
  obtain ⟨hs, hd, he, hq⟩ := id hL
  unfold wp_X0_laySquare wp_X0_laySquare_0
  rw [q_has2 h hd hn hFR]
  have e1 : sI (cS S o c) (o 1) 1 = iI R := by rw [c_i0 h (by decide)]; exact congrArg iI hd.2.1
  rw [e1, show (0 : Int32) = iI 0 from rfl, show (1 : Int32) = iI 1 from rfl, iI_sub]
  have z0 : (iI (n / F) = iI 0) = (n / F = 0) := by rw [iI_eq (by omega) (by omega) (by decide) (by decide)]
  have z1 : (iI (n / F) = iI (R - 1)) = (n / F = R - 1) := by rw [iI_eq (by omega) (by omega) (by omega) (by omega)]
  rw [z0, z1]
  have eg : (n / F = 0 ∨ n / F = R - 1) → (fun t => (edgeB F R t && decide (t < n)) || decide (t = n)) = (fun t => edgeB F R t && decide (t < n + 1)) := fun q => funext fun t => by
    by_cases z : t = n
    · subst z
      have : edgeB F R t = true := by
        unfold edgeB
        rw [decide_eq_true hn.2, Bool.true_and, Bool.or_eq_true, decide_eq_true_eq, decide_eq_true_eq]; exact q
      rw [this, decide_eq_true rfl, decide_eq_true (show t < t + 1 by omega), Bool.or_true]; rfl
    · rw [decide_eq_false z, Bool.or_false, show decide (t < n) = decide (t < n + 1) from decide_eq_decide.mpr (by omega)]
  have a23 : (n / F = 0 ∨ n / F = R - 1) → wp_X0_laySquare_23 D post (cS S o c) (o 1) (iI n) (iI (n % F)) (iI (n / F)) := by
    intro q
    unfold wp_X0_laySquare_23
    intro S1 e1
    rw [c_j1 h (by decide) (show ((3 : Nat) : Int) = 3 from rfl), he, zS_one (by omega), zS_or, eg q, c_w1 h (by decide) (show ((3 : Nat) : Int) = 3 from rfl)] at e1
    rw [e1]
    have s1 : cSim [1, 2, 3, 4, 5, 6, 7, 8, 9] c (cJ c 1 3 (zS (fun t => edgeB F R t && decide (t < n + 1)))) := fun g hg => ⟨rfl, by rw [cJ_2, upJ_r _ _ _ (by
      have : g ≠ 1 := fun e => hg (by rw [e]; decide)
      simpa using this)]⟩
    refine q_laySquare_35 h hw hm hn hf ⟨hr.1, by omega⟩ (by omega) (hs.trans s1) hd (by rw [cJ_2, upJ_at]) (fun g g0 g1 => ?_) k
    have ne : ∀ q : Nat, q ≠ 1 → (cJ c 1 3 (zS (fun t => edgeB F R t && decide (t < n + 1)))).2 q = c.2 q := fun q hq => by rw [cJ_2, upJ_r _ _ _ (by simpa using hq)]
    exact SQ.keep (hq g g0 g1) g1 (fun _ _ _ _ => rfl) (fun j _ => by rw [ne 4 (by decide)]) (fun q q5 q9 j _ => by rw [ne q (by omega)])
  refine ⟨fun _ => ⟨fun q => a23 (Or.inl q), fun q => ⟨fun q2 => ?_, fun q2 => a23 (Or.inr q2)⟩⟩, fun q => absurd q (by decide)⟩
  refine q_laySquare_35 h hw hm hn hf ⟨hr.1, by omega⟩ (by omega) hs hd ?_ hq k
  rw [he]
  refine zS_congr fun t _ _ => ?_
  by_cases z : t = n
  · subst z
    have : edgeB F R t = false := by
      unfold edgeB
      rw [decide_eq_false q, decide_eq_false q2]; simp
    rw [this]; rfl
  · rw [show decide (t < n) = decide (t < n + 1) from decide_eq_decide.mpr (by omega)]
theorem q_lay_40 {post : wS → Prop} {k29 : wS → Nat → Int32 → Prop} (h : CC D S o) (hw : RW D S o) (hm : 4 ≤ F ∧ F ≤ 8 ∧ 4 ≤ R ∧ R ≤ 8) (hFR : F * R ≤ 64) {c0 : cM} {r : Int} (hr : 0 ≤ r ∧ r < R)
    (k : ∀ c', LB c0 c' F R ((r + 1) * F) → k29 (cS S o c') (o 1) (iI (r + 1))) : ∀ (f d : Nat) (j : Int) (c : cM), d < f → j + d = F → 0 ≤ j → LB c0 c F R (r * F + j) → wp_X0_lay_40 D post k29 f (cS S o c) (o 1) (iI r) (iI j) := by
  intro f
  induction f with
  | zero => intro d j c hd; omega
  | succ f ih =>
    intro d j c hd hj h0 hL
    unfold wp_X0_lay_40
    have e0 : sI (cS S o c) (o 1) 0 = iI F := by rw [c_i0 h (by decide)]; exact congrArg iI hL.2.1.1
    rw [e0, iI_le (by omega) (by omega) (by omega) (by omega)]
    refine ⟨fun q x2 e2 => ?_, fun q => ?_⟩
    · rw [e2, show (1 : Int32) = iI 1 from rfl, iI_add]
      refine k c ?_
      rw [show (r + 1) * F = r * F + j by rw [Int.add_mul]; omega]
      exact hL
    · have hn : 0 ≤ r * F + j ∧ r * F + j < F * R := by
        rcases (show F = 4 ∨ F = 5 ∨ F = 6 ∨ F = 7 ∨ F = 8 by omega) with e | e | e | e | e <;> (subst e; omega)
      have em : (r * F + j) % F = j := by rw [Int.add_comm, Int.add_mul_emod_self_right]; exact Int.emod_eq_of_lt h0 (by omega)
      have ed : (r * F + j) / F = r := by rw [Int.add_comm, Int.add_mul_ediv_right _ _ (by omega), Int.ediv_eq_zero_of_lt h0 (by omega)]; omega
      rw [iI_mul, iI_add]
      have := q_laySquare (D := D) (S := S) (o := o) (post := fun S_4 => ∀ x_5 : Int32, x_5 = (iI j) + 1 → wp_X0_lay_40 D post k29 f S_4 (o 1) (iI r) x_5) (c := c) (F := F) (R := R) (c0 := c0) (n := r * F + j) h hw hm hFR hn (by rw [em]; omega) (by rw [ed]; omega) hL (fun c' hL' x5 e5 => by
        rw [e5, show (1 : Int32) = iI 1 from rfl, iI_add]
        exact ih (d - 1) (j + 1) c' (by omega) (by omega) (by omega) (by rw [← Int.add_assoc]; exact hL'))
      rw [em, ed] at this
      exact this
theorem q_lay_29 {post : wS → Prop} (h : CC D S o) (hw : RW D S o) (hm : 4 ≤ F ∧ F ≤ 8 ∧ 4 ≤ R ∧ R ≤ 8) (hFR : F * R ≤ 64) {c0 : cM} (k : ∀ c', LB c0 c' F R (R * F) → post (cS S o c')) :
    ∀ (f d : Nat) (r : Int) (c : cM), d < f → r + d = R → 0 ≤ r → LB c0 c F R (r * F) → wp_X0_lay_29 D post f (cS S o c) (o 1) (iI r) := by
  intro f
  induction f with
  | zero => intro d r c hd; omega
  | succ f ih =>
    intro d r c hd hr h0 hL
    unfold wp_X0_lay_29
    have e1 : sI (cS S o c) (o 1) 1 = iI R := by rw [c_i0 h (by decide)]; exact congrArg iI hL.2.1.2.1
    rw [e1, iI_le (by omega) (by omega) (by omega) (by omega)]
    refine ⟨fun q => ?_, fun q => ⟨9, ?_⟩⟩
    · have : r = R := by omega
      subst this
      exact k c hL
    · refine q_lay_40 h hw hm hFR (c0 := c0) (r := r) ⟨h0, by omega⟩ (fun c' hL' => ih (d - 1) (r + 1) c' (by omega) (by omega) (by omega) hL') 9 F.toNat 0 c (by omega) (by omega) (by decide) ?_
      rw [Int.add_zero]; exact hL
theorem q_layB {post : wS → Prop} (h : CC D S o) (hw : RW D S o) (hm : 4 ≤ F ∧ F ≤ 8 ∧ 4 ≤ R ∧ R ≤ 8) (k : ∀ c', cSim [1, 2, 3, 4, 5, 6, 7, 8, 9] c c' → BG c' F R → post (cS S o c')) : wp_X0_lay D post (cS S o c) (o 1) (iI F) (iI R) := by
  have hFR : 16 ≤ F * R ∧ F * R ≤ 64 := by
    rcases (show F = 4 ∨ F = 5 ∨ F = 6 ∨ F = 7 ∨ F = 8 by omega) with e | e | e | e | e <;> (subst e; omega)
  unfold wp_X0_lay wp_X0_lay_0
  intro S1 e1
  rw [c_u1 h (by decide) (show ((0 : Nat) : Int) = 0 from rfl)] at e1
  rw [e1]
  intro S2 e2
  rw [c_u1 h (by decide) (show ((1 : Nat) : Int) = 1 from rfl)] at e2
  rw [e2]
  intro S3 e3
  have ei : (if (64 : Int32) < iI F * iI R then (64 : Int32) else iI F * iI R) = iI (F * R) := by
    rw [iI_mul]
    exact if_neg (fun q => absurd ((iI_lt (a := 64) (by decide) (by decide) (by omega) (by omega)).mp q) (by omega))
  rw [ei, c_u1 h (by decide) (show ((2 : Nat) : Int) = 2 from rfl)] at e3
  rw [e3]
  intro S4 e4
  rw [c_w1 h (by decide) (show ((3 : Nat) : Int) = 3 from rfl)] at e4
  rw [e4]
  refine ⟨9, ?_⟩
  have s0 : cSim [1, 2, 3, 4, 5, 6, 7, 8, 9] c (cJ (cI (cI (cI c 1 0 F) 1 1 R) 1 2 (F * R)) 1 3 0) := by
    intro g hg
    have : g ≠ 1 := fun e => hg (by rw [e]; decide)
    have : (g == 1) = false := by simpa using this
    exact ⟨by rw [cJ_1, cI_1, up_r _ _ _ this, cI_1, up_r _ _ _ this, cI_1, up_r _ _ _ this], by rw [cJ_2, upJ_r _ _ _ this]; rfl⟩
  refine q_lay_29 h hw hm hFR.2 (c0 := c) (fun c' hL => k c' hL.1 ⟨hL.2.1, hm, ?_, fun g g0 g1 => ?_⟩) 9 R.toNat 0 _ (by omega) (by omega) (by decide) ⟨s0, ⟨?_, ?_, ?_⟩, ?_, fun g g0 g1 => absurd g1 (by omega)⟩
  · rw [hL.2.2.1]
    refine zS_congr fun t _ _ => ?_
    unfold edgeB
    by_cases z : t < F * R
    · rw [decide_eq_true (show t < R * F by rw [Int.mul_comm]; exact z), Bool.and_true]
    · rw [decide_eq_false z]; rfl
  · exact hL.2.2.2 g g0 (by rw [Int.mul_comm]; exact g1)
  · rw [cJ_1, cI_1, up_ne _ (Or.inr (by decide)), cI_1, up_ne _ (Or.inr (by decide)), cI_1, up_at]
  · rw [cJ_1, cI_1, up_ne _ (Or.inr (by decide)), cI_1, up_at]
  · rw [cJ_1, cI_1, up_at]
  · rw [cJ_2, upJ_at, zS_f]
    refine zS_congr fun t t0 _ => ?_
    rw [decide_eq_false (show ¬ t < 0 * F by omega), Bool.and_false]
end
