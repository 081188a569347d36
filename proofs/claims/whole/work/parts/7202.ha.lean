/-! PURE: the letters tell the moves apart -/
section
variable {F R : Int} {v : Int → Int}
/-- the order of the moves -/
def mky (t : Mv) : Int := (t.1 * 64 + t.2.1) * 8 + t.2.2
theorem bec4_mem {a b : Int} {q : Bool} : ∀ t ∈ bec4 a b q, t.1 = a ∧ t.2.1 = b ∧ 0 ≤ t.2.2 ∧ t.2.2 ≤ 5 := by
  intro t ht
  cases q
  · unfold bec4 at ht; rw [List.mem_singleton.mp ht]; exact ⟨rfl, rfl, by simp, by simp⟩
  · unfold bec4 at ht
    simp only [List.mem_cons, List.mem_nil_iff, or_false] at ht
    rcases ht with rfl | rfl | rfl | rfl <;> exact ⟨rfl, rfl, by simp, by simp⟩
theorem bec4_pw (a b : Int) (q : Bool) : (bec4 a b q).Pairwise (fun s t => mky s < mky t) := by
  cases q
  · exact List.pairwise_singleton _ _
  · unfold bec4 mky
    simp only [List.pairwise_cons, List.mem_cons, List.mem_nil_iff, or_false, forall_eq_or_imp, forall_eq, List.Pairwise.nil, and_true, false_implies, implies_true]
    omega
theorem mTo_key {a : Int} : ∀ (d : Nat) (b : Int), (∀ t ∈ mTo F R v a b d, t.1 = a ∧ b ≤ t.2.1 ∧ t.2.1 < b + d ∧ 0 ≤ t.2.2 ∧ t.2.2 ≤ 5) ∧ (mTo F R v a b d).Pairwise (fun s t => mky s < mky t) := by
  intro d
  induction d with
  | zero => intro b; exact ⟨fun t ht => absurd ht List.not_mem_nil, List.Pairwise.nil⟩
  | succ d ih =>
    intro b
    have ih := ih (b + 1)
    unfold mTo
    have hd : ∀ t ∈ (if legB F R v a b then bec4 a b (becB F R v a b) else []), t.1 = a ∧ t.2.1 = b ∧ 0 ≤ t.2.2 ∧ t.2.2 ≤ 5 := fun t ht => by
      split at ht
      · exact bec4_mem t ht
      · exact absurd ht List.not_mem_nil
    refine ⟨fun t ht => ?_, ?_⟩
    · rcases List.mem_append.mp ht with h | h
      · have := hd t h; omega
      · have := ih.1 t h; omega
    · rw [List.pairwise_append]
      refine ⟨?_, ih.2, fun s hs t ht => ?_⟩
      · split
        · exact bec4_pw _ _ _
        · exact List.Pairwise.nil
      · have h1 := hd s hs
        have h2 := ih.1 t ht
        unfold mky
        omega
theorem mFrom_key (h64 : F * R ≤ 64) : ∀ (d : Nat) (a : Int), (∀ t ∈ mFrom F R v a d, a ≤ t.1 ∧ t.1 < a + d ∧ 0 ≤ t.2.1 ∧ t.2.1 < 64 ∧ 0 ≤ t.2.2 ∧ t.2.2 ≤ 5) ∧ (mFrom F R v a d).Pairwise (fun s t => mky s < mky t) := by
  intro d
  induction d with
  | zero => intro a; exact ⟨fun t ht => absurd ht List.not_mem_nil, List.Pairwise.nil⟩
  | succ d ih =>
    intro a
    have ih := ih (a + 1)
    have mt := mTo_key (F := F) (R := R) (v := v) (a := a) (F * R).toNat 0
    unfold mFrom
    have hd : ∀ t ∈ (if isOfB (v a) (v 64) then mTo F R v a 0 (F * R).toNat else []), t.1 = a ∧ 0 ≤ t.2.1 ∧ t.2.1 < 64 ∧ 0 ≤ t.2.2 ∧ t.2.2 ≤ 5 := fun t ht => by
      split at ht
      · have := mt.1 t ht; omega
      · exact absurd ht List.not_mem_nil
    refine ⟨fun t ht => ?_, ?_⟩
    · rcases List.mem_append.mp ht with h | h
      · have := hd t h; omega
      · have := ih.1 t h; omega
    · rw [List.pairwise_append]
      refine ⟨?_, ih.2, fun s hs t ht => ?_⟩
      · split
        · exact mt.2
        · exact List.Pairwise.nil
      · have h1 := hd s hs
        have h2 := ih.1 t ht
        unfold mky
        omega
/-- no move stands twice in the list -/
theorem movesL_inj (h64 : F * R ≤ 64) {i j : Int} (hi : 0 ≤ i ∧ i < (movesL F R v).length) (hj : 0 ≤ j ∧ j < (movesL F R v).length) (h : (movesL F R v).getD i.toNat (0, 0, 0) = (movesL F R v).getD j.toNat (0, 0, 0)) : i = j := by
  have pw := (mFrom_key (F := F) (R := R) (v := v) h64 (F * R).toNat 0).2
  have pw := List.pairwise_iff_getElem.mp pw
  have key : ∀ (p q : Int) (hp : p.toNat < (movesL F R v).length) (hq : q.toNat < (movesL F R v).length), p < q → 0 ≤ p → (movesL F R v).getD p.toNat (0, 0, 0) = (movesL F R v).getD q.toNat (0, 0, 0) → False := fun p q hp hq hpq p0 e => by
    have := pw p.toNat q.toNat hp hq (by omega)
    rw [getD_el hp, getD_el hq] at e
    have e' : (mFrom F R v 0 (F * R).toNat)[p.toNat] = (mFrom F R v 0 (F * R).toNat)[q.toNat] := e
    rw [e'] at this
    omega
  by_cases a : i < j
  · exact absurd h (fun e => key i j (by omega) (by omega) a hi.1 e)
  · by_cases b : j < i
    · exact absurd h.symm (fun e => key j i (by omega) (by omega) b hj.1 e)
    · omega
/-- what tells of the others of a kind that go there -/
theorem disL_eq (L : List Mv) (a b : Int) : ∀ (d : Nat) (k : Int) (o f r : Bool), disL F v L a b k o f r d =
    (o || anyL (fun j => !decide ((L.getD j.toNat (0, 0, 0)).1 = a) && decide ((L.getD j.toNat (0, 0, 0)).2.1 = b) && decide (v (L.getD j.toNat (0, 0, 0)).1 = v a)) k d,
     f || anyL (fun j => (!decide ((L.getD j.toNat (0, 0, 0)).1 = a) && decide ((L.getD j.toNat (0, 0, 0)).2.1 = b) && decide (v (L.getD j.toNat (0, 0, 0)).1 = v a)) && decide ((L.getD j.toNat (0, 0, 0)).1 % F = a % F)) k d,
     r || anyL (fun j => (!decide ((L.getD j.toNat (0, 0, 0)).1 = a) && decide ((L.getD j.toNat (0, 0, 0)).2.1 = b) && decide (v (L.getD j.toNat (0, 0, 0)).1 = v a)) && decide ((L.getD j.toNat (0, 0, 0)).1 / F = a / F)) k d) := by
  intro d
  induction d with
  | zero => intro k o f r; simp [disL, anyL]
  | succ d ih =>
    intro k o f r
    unfold disL
    by_cases c : (!decide ((L.getD k.toNat (0, 0, 0)).1 = a) && decide ((L.getD k.toNat (0, 0, 0)).2.1 = b) && decide (v (L.getD k.toNat (0, 0, 0)).1 = v a)) = true
    · rw [if_pos c, ih]
      simp only [anyL, c, Bool.true_and, Bool.true_or, Bool.or_true, Bool.or_assoc]
    · rw [if_neg c, ih]
      have c' := (Bool.not_eq_true _).mp c
      simp only [anyL, c', Bool.false_and, Bool.false_or]
theorem fileC_inj {a b : Int} (h : fileC F a = fileC F b) : a % F = b % F := by unfold fileC at h; omega
theorem rankC_inj {a b : Int} (h : rankC F a = rankC F b) : a / F = b / F := by unfold rankC at h; omega
theorem sq_eq {a b : Int} (h : a % F = b % F) (h2 : a / F = b / F) : a = b := by
  have e1 := Int.emod_add_mul_ediv a F
  have e2 := Int.emod_add_mul_ediv b F
  rw [h, h2] at e1
  omega
/-- two moves of one kind to one square: what stands behind the kind tells them apart -/
theorem fromC_inj (hB : (4 ≤ F ∧ F ≤ 8) ∧ 4 ≤ R ∧ R ≤ 8) {L : List Mv} {t u : Mv} (ht : t ∈ L) (hu : u ∈ L) (rt : 0 ≤ t.1 ∧ t.1 < F * R) (ru : 0 ≤ u.1 ∧ u.1 < F * R) (hto : t.2.1 = u.2.1) (hv : v t.1 = v u.1)
    (h : fromC F t.1 (disL F v L t.1 t.2.1 0 false false false L.length) = fromC F u.1 (disL F v L u.1 u.2.1 0 false false false L.length)) : t.1 = u.1 := by
  by_cases e : t.1 = u.1
  · exact e
  exfalso
  have ix : ∀ w ∈ L, ∃ j : Int, 0 ≤ j ∧ j < 0 + (L.length : Int) ∧ L.getD j.toNat (0, 0, 0) = w := fun w hw => by
    obtain ⟨n, hn, en⟩ := List.getElem_of_mem hw
    exact ⟨n, by omega, by omega, by rw [Int.toNat_natCast, getD_el hn]; exact en⟩
  obtain ⟨i, i0, i1, ei⟩ := ix u hu
  obtain ⟨j, j0, j1, ej⟩ := ix t ht
  rw [disL_eq, disL_eq] at h
  simp only [Bool.false_or] at h
  have pt : (!decide (u.1 = t.1) && decide (u.2.1 = t.2.1) && decide (v u.1 = v t.1)) = true := by
    rw [decide_eq_false (fun z => e z.symm), decide_eq_true hto.symm, decide_eq_true hv.symm]; rfl
  have pu : (!decide (t.1 = u.1) && decide (t.2.1 = u.2.1) && decide (v t.1 = v u.1)) = true := by
    rw [decide_eq_false e, decide_eq_true hto, decide_eq_true hv]; rfl
  have ot : anyL (fun j => !decide ((L.getD j.toNat (0, 0, 0)).1 = t.1) && decide ((L.getD j.toNat (0, 0, 0)).2.1 = t.2.1) && decide (v (L.getD j.toNat (0, 0, 0)).1 = v t.1)) 0 L.length = true := anyL_iff.mpr ⟨i, i0, i1, by rw [ei]; exact pt⟩
  have ou : anyL (fun j => !decide ((L.getD j.toNat (0, 0, 0)).1 = u.1) && decide ((L.getD j.toNat (0, 0, 0)).2.1 = u.2.1) && decide (v (L.getD j.toNat (0, 0, 0)).1 = v u.1)) 0 L.length = true := anyL_iff.mpr ⟨j, j0, j1, by rw [ej]; exact pu⟩
  have ft : t.1 % F = u.1 % F → anyL (fun j => (!decide ((L.getD j.toNat (0, 0, 0)).1 = t.1) && decide ((L.getD j.toNat (0, 0, 0)).2.1 = t.2.1) && decide (v (L.getD j.toNat (0, 0, 0)).1 = v t.1)) && decide ((L.getD j.toNat (0, 0, 0)).1 % F = t.1 % F)) 0 L.length = true := fun z => anyL_iff.mpr ⟨i, i0, i1, by rw [ei, pt, decide_eq_true z.symm]; rfl⟩
  have fu : t.1 % F = u.1 % F → anyL (fun j => (!decide ((L.getD j.toNat (0, 0, 0)).1 = u.1) && decide ((L.getD j.toNat (0, 0, 0)).2.1 = u.2.1) && decide (v (L.getD j.toNat (0, 0, 0)).1 = v u.1)) && decide ((L.getD j.toNat (0, 0, 0)).1 % F = u.1 % F)) 0 L.length = true := fun z => anyL_iff.mpr ⟨j, j0, j1, by rw [ej, pu, decide_eq_true z]; rfl⟩
  have rkt : t.1 / F = u.1 / F → anyL (fun j => (!decide ((L.getD j.toNat (0, 0, 0)).1 = t.1) && decide ((L.getD j.toNat (0, 0, 0)).2.1 = t.2.1) && decide (v (L.getD j.toNat (0, 0, 0)).1 = v t.1)) && decide ((L.getD j.toNat (0, 0, 0)).1 / F = t.1 / F)) 0 L.length = true := fun z => anyL_iff.mpr ⟨i, i0, i1, by rw [ei, pt, decide_eq_true z.symm]; rfl⟩
  have rku : t.1 / F = u.1 / F → anyL (fun j => (!decide ((L.getD j.toNat (0, 0, 0)).1 = u.1) && decide ((L.getD j.toNat (0, 0, 0)).2.1 = u.2.1) && decide (v (L.getD j.toNat (0, 0, 0)).1 = v u.1)) && decide ((L.getD j.toNat (0, 0, 0)).1 / F = u.1 / F)) 0 L.length = true := fun z => anyL_iff.mpr ⟨j, j0, j1, by rw [ej, pu, decide_eq_true z]; rfl⟩
  rw [ot, ou] at h
  generalize anyL (fun j => (!decide ((L.getD j.toNat (0, 0, 0)).1 = t.1) && decide ((L.getD j.toNat (0, 0, 0)).2.1 = t.2.1) && decide (v (L.getD j.toNat (0, 0, 0)).1 = v t.1)) && decide ((L.getD j.toNat (0, 0, 0)).1 % F = t.1 % F)) 0 L.length = f1 at h ft
  generalize anyL (fun j => (!decide ((L.getD j.toNat (0, 0, 0)).1 = u.1) && decide ((L.getD j.toNat (0, 0, 0)).2.1 = u.2.1) && decide (v (L.getD j.toNat (0, 0, 0)).1 = v u.1)) && decide ((L.getD j.toNat (0, 0, 0)).1 % F = u.1 % F)) 0 L.length = f2 at h fu
  generalize anyL (fun j => (!decide ((L.getD j.toNat (0, 0, 0)).1 = t.1) && decide ((L.getD j.toNat (0, 0, 0)).2.1 = t.2.1) && decide (v (L.getD j.toNat (0, 0, 0)).1 = v t.1)) && decide ((L.getD j.toNat (0, 0, 0)).1 / F = t.1 / F)) 0 L.length = r1 at h rkt
  generalize anyL (fun j => (!decide ((L.getD j.toNat (0, 0, 0)).1 = u.1) && decide ((L.getD j.toNat (0, 0, 0)).2.1 = u.2.1) && decide (v (L.getD j.toNat (0, 0, 0)).1 = v u.1)) && decide ((L.getD j.toNat (0, 0, 0)).1 / F = u.1 / F)) 0 L.length = r2 at h rku
  have a1 := fr_small hB.1.1 hB.1.2 (a := t.1) (by have := FR_r hB.1.1 hB.1.2 hB.2.1 hB.2.2; omega)
  have a2 := fr_small hB.1.1 hB.1.2 (a := u.1) (by have := FR_r hB.1.1 hB.1.2 hB.2.1 hB.2.2; omega)
  have q1 : rankC F t.1 < 97 ∧ rankC F u.1 < 97 := by
    have h1 : t.1 / F < 16 := by
      have := FR_r hB.1.1 hB.1.2 hB.2.1 hB.2.2
      rcases (show F = 4 ∨ F = 5 ∨ F = 6 ∨ F = 7 ∨ F = 8 by omega) with rfl | rfl | rfl | rfl | rfl <;> omega
    have h2 : u.1 / F < 16 := by
      have := FR_r hB.1.1 hB.1.2 hB.2.1 hB.2.2
      rcases (show F = 4 ∨ F = 5 ∨ F = 6 ∨ F = 7 ∨ F = 8 by omega) with rfl | rfl | rfl | rfl | rfl <;> omega
    unfold rankC; omega
  have q2 : 97 ≤ fileC F t.1 ∧ 97 ≤ fileC F u.1 := by unfold fileC; omega
  have ne : ¬ (t.1 % F = u.1 % F ∧ t.1 / F = u.1 / F) := fun z => e (sq_eq z.1 z.2)
  unfold fromC at h
  cases f1 <;> cases f2 <;> cases r1 <;> cases r2 <;> simp at h ft fu rkt rku <;> (first | (have := fileC_inj h; omega) | (have := rankC_inj h; omega) | (have a := fileC_inj h.1; have b := rankC_inj h.2; omega) | omega)
end
