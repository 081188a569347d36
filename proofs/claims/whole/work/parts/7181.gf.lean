/-! PHASE 3: the reader takes tokens -/
section
variable {D : wD} {S U : wS} {o : Nat → Nat} {c : cM}
def takB (k : Int) (s : RD) : Option RD :=
  if k = 0 then some s
  else if s.2.2.2.2.2.2.1 = true ∨ s.2.2.2.2.2.2.2 = true then none
  else if k = 1 then (if s.1 < 4 ∧ s.2.2.2.1 s.1 ≠ 0 then some (opnS s) else none)
  else if k = 2 then (if s.1 ≠ 0 ∧ s.2.2.2.1 s.1 ≠ 0 then some (s.1 - 1, s.2) else none)
  else if k = 3 then (if s.2.2.2.1 s.1 ≠ 0 then some s else none)
  else if k = 4 then some (s.1, s.2.1, s.2.2.1, s.2.2.2.1, s.2.2.2.2.1, s.2.2.2.2.2.1, true, s.2.2.2.2.2.2.2)
  else if k = 5 then (if s.1 = 0 then some (s.1, s.2.1, s.2.2.1, s.2.2.2.1, s.2.2.2.2.1, s.2.2.2.2.2.1, s.2.2.2.2.2.2.1, true) else none)
  else none
theorem opnM_sim (c : cM) (d : Int) (u : Int → Int) : cSim [22, 23, 24, 26] c (opnM c d u) := fun n hn => by
  have h1 : n ≠ 22 := fun e => hn (by simp [e])
  have h2 : n ≠ 23 := fun e => hn (by simp [e])
  have h3 : n ≠ 24 := fun e => hn (by simp [e])
  have h4 : n ≠ 26 := fun e => hn (by simp [e])
  refine ⟨funext fun j => opnM_1 c d u ⟨h2, Or.inl h1, Or.inl h4⟩, ?_⟩
  unfold opnM
  rw [cI_2, putS_r _ _ _ h3, cI_2, putP_2 _ _ h2]
theorem cI22_sim (c : cM) (j x : Int) : cSim [22, 23, 24, 26] c (cI c 22 j x) := fun n hn => by
  have h1 : n ≠ 22 := fun e => hn (by simp [e])
  exact ⟨funext fun i => by rw [cI_1, up_ne _ (Or.inl h1)], rfl⟩
theorem RDC.num {s : RD} (hR : RDC c s) : RDC (cI c 22 9 1) (s.1, s.2.1, s.2.2.1, s.2.2.2.1, s.2.2.2.2.1, s.2.2.2.2.2.1, true, s.2.2.2.2.2.2.2) := by
  obtain ⟨⟨h6, hd⟩, hn, hl, hli, h8, h9, h10⟩ := id hR
  have f1 : ∀ (r : Nat) (j : Int), (r ≠ 22 ∨ j ≠ 9) → (cI c 22 9 1).1 r j = c.1 r j := fun r j hj => by rw [cI_1, up_ne _ hj]
  refine ⟨⟨by rw [f1 _ _ (Or.inr (by decide))]; exact h6, hd⟩, hn, fun d d0 d1 => by rw [f1 _ _ (Or.inl (by decide))]; exact hl d d0 d1, ⟨hli.1, fun k hk => by rw [f1 _ _ (Or.inl (by decide))]; exact hli.2 k hk⟩, by rw [f1 _ _ (Or.inr (by decide))]; exact h8, by rw [cI_1, up_at]; rfl, by rw [f1 _ _ (Or.inr (by decide))]; exact h10⟩
theorem RDC.res {s : RD} (hR : RDC c s) (b : Bool) : RDC (cI c 22 10 (bI b)) (s.1, s.2.1, s.2.2.1, s.2.2.2.1, s.2.2.2.2.1, s.2.2.2.2.2.1, s.2.2.2.2.2.2.1, b) := by
  obtain ⟨⟨h6, hd⟩, hn, hl, hli, h8, h9, h10⟩ := id hR
  have f1 : ∀ (r : Nat) (j : Int), (r ≠ 22 ∨ j ≠ 10) → (cI c 22 10 (bI b)).1 r j = c.1 r j := fun r j hj => by rw [cI_1, up_ne _ hj]
  refine ⟨⟨by rw [f1 _ _ (Or.inr (by decide))]; exact h6, hd⟩, hn, fun d d0 d1 => by rw [f1 _ _ (Or.inl (by decide))]; exact hl d d0 d1, ⟨hli.1, fun k hk => by rw [f1 _ _ (Or.inl (by decide))]; exact hli.2 k hk⟩, by rw [f1 _ _ (Or.inr (by decide))]; exact h8, by rw [f1 _ _ (Or.inr (by decide))]; exact h9, by rw [cI_1, up_at]⟩
theorem q_takesTok {post : Int32 → wS → Prop} (h : CC D S o) {s : RD} (hR : RDC c s) {k : Int} (hk : -1 ≤ k ∧ k ≤ 5) (k0 : takB k s = none → ∀ c', cSim [22, 23, 24, 26] c c' → post (iI 0) (cS S o c')) (k1 : ∀ s', takB k s = some s' → ∀ c', cSim [22, 23, 24, 26] c c' → RDC c' s' → c'.1 22 7 = c.1 22 7 → post (iI 1) (cS S o c')) : wp_X5_takes D post (cS S o c) (o 22) (iI k) := by
  obtain ⟨⟨h6, hd⟩, hn, hl, hli, h8, h9, h10⟩ := id hR
  have hle := hl s.1 hd.1 (Int.le_refl _)
  have e6 : sI (cS S o c) (o 22) 6 = iI s.1 := by rw [c_i0 h (by decide), show c.1 22 ((6 : Nat) : Int) = s.1 from h6]
  have e9 : sI (cS S o c) (o 22) 9 = iI (bI s.2.2.2.2.2.2.1) := by rw [c_i0 h (by decide), show c.1 22 ((9 : Nat) : Int) = _ from h9]
  have e10 : sI (cS S o c) (o 22) 10 = iI (bI s.2.2.2.2.2.2.2) := by rw [c_i0 h (by decide), show c.1 22 ((10 : Nat) : Int) = _ from h10]
  have rf : cSim [22, 23, 24, 26] c c := cSim.refl _ _
  unfold wp_X5_takes wp_X5_takes_0 wp_X5_takes_35
  rw [e6, e9, e10, show (0 : Int32) = iI 0 from rfl, show (5 : Int32) = iI 5 from rfl, show (1 : Int32) = iI 1 from rfl, show (2 : Int32) = iI 2 from rfl, show (3 : Int32) = iI 3 from rfl, show (4 : Int32) = iI 4 from rfl, bI_z, bI_z,
    iI_eq (by omega) (by omega) (by decide) (by decide), iI_eq (by omega) (by omega) (by decide) (by decide), iI_eq (by omega) (by omega) (by decide) (by decide), iI_eq (by omega) (by omega) (by decide) (by decide), iI_eq (by omega) (by omega) (by decide) (by decide), iI_eq (by omega) (by omega) (by decide) (by decide), iI_eq (a := s.1) (by omega) (by omega) (by decide) (by decide), iI_lt (by omega) (by omega) (by decide) (by decide), iI_lt (by omega) (by omega) (by decide) (by decide)]
  unfold takB at k0 k1
  refine ⟨fun q0 => ⟨fun q => ⟨rfl, ?_⟩, fun q9 => ⟨fun q => ⟨rfl, ?_⟩, fun q10 => ⟨fun q => absurd q (by omega), fun _ => ⟨fun _ => ⟨fun q => ?_, fun q => ?_, fun q => ?_, fun q => ?_, fun q => ?_, fun q1 q2 q3 q4 q5 => ?_⟩, fun q => absurd (show s.1 < 5 by omega) q⟩⟩⟩⟩, fun q0 => ⟨rfl, ?_⟩⟩
  · exact k0 (by rw [if_neg q0, if_pos (Or.inl ((Bool.not_eq_false _).mp q))]) c rf
  · exact k0 (by rw [if_neg q0, if_pos (Or.inr ((Bool.not_eq_false _).mp q))]) c rf
  · have nf : ¬ (s.2.2.2.2.2.2.1 = true ∨ s.2.2.2.2.2.2.2 = true) := by rw [q9, q10]; simp
    rw [if_neg q0, if_neg nf, if_pos q] at k0 k1
    refine q_opens h hR (fun z => ⟨rfl, k0 (if_neg (fun w => z.elim (fun z => absurd w.1 (by omega)) (fun z => w.2 z))) c rf⟩) (fun z1 z2 => ⟨rfl, k1 _ (if_pos ⟨z1, z2⟩) _ (opnM_sim c _ _) (opnM_RDC hR z1 z2) (opnM_1 _ _ _ ⟨by decide, Or.inr (by decide), Or.inl (by decide)⟩)⟩)
  · have nf : ¬ (s.2.2.2.2.2.2.1 = true ∨ s.2.2.2.2.2.2.2 = true) := by rw [q9, q10]; simp
    rw [if_neg q0, if_neg nf, if_neg (by omega), if_pos q] at k0 k1
    refine q_closes h hR (fun z => ⟨rfl, k0 (if_neg (fun w => z.elim w.1 w.2)) c rf⟩) (fun z1 z2 z3 => ⟨rfl, k1 _ (if_pos ⟨z1, z2⟩) _ (cI22_sim c _ _) z3 (by rw [cI_1, up_ne _ (Or.inr (by decide))])⟩)
  · have nf : ¬ (s.2.2.2.2.2.2.1 = true ∨ s.2.2.2.2.2.2.2 = true) := by rw [q9, q10]; simp
    rw [if_neg q0, if_neg nf, if_neg (by omega), if_neg (by omega), if_pos q] at k0 k1
    refine ⟨o 26, c_r h rfl, (c_m h (by decide)).mpr trivial, c_k h (by decide), iI_in (by omega) (by omega) (by rw [c_n h (by decide)]; show s.1 < ((5 : Nat) : Int); omega), ?_⟩
    rw [c_i h (by decide) (by omega) (by omega), hle.1, iI_le (by omega) (by omega) (by decide) (by decide)]
    unfold wp_X5_takes_117
    exact ⟨fun z => ⟨rfl, k0 (if_neg (by omega)) c rf⟩, fun z => ⟨rfl, k1 _ (if_pos (by omega)) c rf hR rfl⟩⟩
  · have nf : ¬ (s.2.2.2.2.2.2.1 = true ∨ s.2.2.2.2.2.2.2 = true) := by rw [q9, q10]; simp
    rw [if_neg q0, if_neg nf, if_neg (by omega), if_neg (by omega), if_neg (by omega), if_pos q] at k0 k1
    refine ⟨rfl, rfl, fun S17 e17 => ⟨rfl, ?_⟩⟩
    rw [c_u1 h (by decide) (show ((9 : Nat) : Int) = 9 from rfl)] at e17
    rw [e17]
    exact k1 _ rfl _ (cI22_sim c _ _) hR.num (by rw [cI_1, up_ne _ (Or.inr (by decide))])
  · have nf : ¬ (s.2.2.2.2.2.2.1 = true ∨ s.2.2.2.2.2.2.2 = true) := by rw [q9, q10]; simp
    rw [if_neg q0, if_neg nf, if_neg (by omega), if_neg (by omega), if_neg (by omega), if_neg (by omega), if_pos q] at k0 k1
    unfold wp_X5_takes_92
    have g : ∀ b : Bool, post (iI (bI b)) (cS S o (cI c 22 10 (bI b))) → narrow .boolean (.int (iI (bI b))) = .int (iI (bI b)) ∧ fits .boolean (.int (iI (bI b))) = true ∧ ∀ S_1 : wS, S_1 = uI (cS S o c) (o 22) 10 (iI (bI b)) → narrow .boolean (.int (sI S_1 (o 22) 10)) = .int (sI S_1 (o 22) 10) ∧ post (sI S_1 (o 22) 10) S_1 := fun b kk => by
      refine ⟨by cases b <;> rfl, by cases b <;> rfl, fun S1 e1 => ?_⟩
      rw [c_u1 h (by decide) (show ((10 : Nat) : Int) = 10 from rfl)] at e1
      have e : sI S1 (o 22) 10 = iI (bI b) := by rw [e1, c_i0 h (by decide)]; rw [cI_1]; exact congrArg iI (up_at _ _ _ _)
      rw [e]
      refine ⟨by cases b <;> rfl, ?_⟩
      rw [e1]; exact kk
    refine ⟨fun z => g false (k0 (if_neg z) _ (cI22_sim c _ _)), fun z => g true (k1 _ (if_pos z) _ (cI22_sim c _ _) (hR.res true) (by rw [cI_1, up_ne _ (Or.inr (by decide))]))⟩
  · have nf : ¬ (s.2.2.2.2.2.2.1 = true ∨ s.2.2.2.2.2.2.2 = true) := by rw [q9, q10]; simp
    rw [if_neg q0, if_neg nf, if_neg q1, if_neg q2, if_neg q3, if_neg q4, if_neg q5] at k0
    exact ⟨rfl, k0 rfl c rf⟩
  · exact k1 s (if_pos q0) c rf hR rfl
end
