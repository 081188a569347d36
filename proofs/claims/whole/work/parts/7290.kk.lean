section
variable {D : wD} {S U V : wS} {o : Nat → Nat} {x : Nat} {A : Nat → Nat} {b L : Nat} {xs : Nat → Int32} {c : cM} {m : xM}
theorem uL_out : ∀ (f : Nat), f ≤ 8 → ∀ j : Int, (j < 0 ∨ 64 ≤ j) → uL f j = emptyV j
  | 0, _, _, _ => rfl
  | f + 1, hf, j, hj => by
    unfold uL
    unfold upV
    rw [if_neg (by omega), if_neg (by omega), if_neg (by omega), if_neg (by omega)]
    exact uL_out f (by omega) j hj
theorem usual_ok : okV 8 8 usualV ∧ clV usualV ∧ brd 8 8 usualV ∧ epS 8 8 usualV := by
  have out : ∀ j : Int, (j < 0 ∨ 64 ≤ j) → j ≠ 65 → usualV j = emptyV j := fun j hj h65 => by
    unfold usualV upV
    rw [if_neg h65]
    exact uL_out 8 (Nat.le_refl _) j hj
  have h64 : ∀ n : Nat, n < 64 → 0 ≤ usualV (n : Int) ∧ usualV (n : Int) ≤ 12 := by decide +kernel
  refine ⟨⟨fun k k0 k1 => ?_, by decide +kernel, by decide +kernel, by decide +kernel⟩, fun k hk => ?_, fun k k0 k1 => by omega, .inl (by decide +kernel)⟩
  · have := h64 k.toNat (by omega)
    rw [show ((k.toNat : Nat) : Int) = k by omega] at this
    exact this
  · rw [out k (by omega) (by omega)]
    unfold emptyV
    rw [if_neg (by omega), if_neg (by omega)]
/-- a state that differs from the start in cells made since is the start's -/
theorem CST.fresh {K : List Nat} (he : EX D D.2.2.2 U K) (hK : ∀ a ∈ K, ¬ wM D D.2.2.2 a) : CST D U := he.mono fun a ha hk => absurd ha (hK a hk)
theorem cell_no (cc : CC D U o) {a : Nat} (h : ∀ n, cOk n = true → sK U a ≠ ckd n ∨ sN U a ≠ cln n) : a ∉ cLs.map o := fun z => by
  obtain ⟨n, hn, e⟩ := List.mem_map.mp z
  have hn : cOk n = true := by simpa [cOk] using hn
  have q := cc.1 n (cOk_lt hn)
  rw [e] at q
  rcases h n hn with k | k
  · exact k q.2.1
  · exact k q.2.2
theorem new_st (hD : wDok D b L xs) (h : CST D U) (cc : CC D U o) (c : cM) {i : Nat} (hi : i < 47) {W : List Int} (hW : stB (stP.getD i 0) = W.map iI) (hr : ∀ x ∈ W, 0 ≤ x ∧ x < 128) (hl : W.length < 1000) : ST D (cS U o c) (D.2.2.1 i) W := by
  have e := bookX (D := D) (c0U_self U o) c
  have s := h.st hD hi hW hr hl
  have k0 : ∀ n, cOk n = true → ckd n ≠ 0 ∧ ckd n ≠ 20 := by
    have key : ∀ n ∈ cLs, ckd n ≠ 0 ∧ ckd n ≠ 20 := by decide
    exact fun n hn => key n (by simpa [cOk] using hn)
  refine ST.ex e s (cell_no cc fun n hn => .inl ?_) (fun v hv => cell_no cc fun n hn => .inl ?_)
  · rw [s.1.2]; exact fun z => (k0 n hn).1 z.symm
  · obtain ⟨v0, a1, -, a3, -⟩ := s.2.2.2.1
    rw [a1] at hv
    rw [← Option.some.inj hv, a3]
    exact fun z => (k0 n hn).2 z.symm
theorem new_rw (hD : wDok D b L xs) (h : CST D U) (cc : CC D U o) : RW D U o := fun c => by
  have e := bookX (D := D) (c0U_self U o) c
  have k8 : ∀ n, cOk n = true → ¬ (ckd n = 21 ∧ cln n = 8) := by
    have key : ∀ n ∈ cLs, ¬ (ckd n = 21 ∧ cln n = 8) := by decide
    exact fun n hn => key n (by simpa [cOk] using hn)
  have l8 : ∀ k, k < 4 → (stI k).length = 8 := by decide
  have m0 : ∀ k, k < 4 → wM D U (D.2.2.1 (100 + k)) := fun k hk => (h.row hD (show k < 6 by omega)).2.1
  have kd : ∀ k, k < 4 → sK U (D.2.2.1 (100 + k)) = 21 := fun k hk => by
    obtain ⟨a1, a2, -⟩ := hD.2.1 k (by omega)
    rw [h.k (Or.inr a1), a2, if_pos hk]
  have no : ∀ k, k < 4 → D.2.2.1 (100 + k) ∉ cLs.map o := fun k hk => cell_no cc fun n hn => by
    by_cases z : ckd n = 21
    · exact .inr fun y => k8 n hn ⟨z, by rw [← y, (h.row hD (show k < 6 by omega)).1, l8 k hk]⟩
    · exact .inl (by rw [kd k hk]; exact fun y => z y.symm)
  refine ⟨fun k hk => ?_, fun j j0 j1 => ?_⟩
  · rw [e.n (m0 k hk), (h.row hD (show k < 6 by omega)).1]
    exact l8 k hk
  · have g : ∀ k, k < 4 → sI (cS U o c) (D.2.2.1 (100 + k)) (iI j).toNatClampNeg = (stI k).getD j.toNat 0 := fun k hk => by
      have ej : (iI j).toNatClampNeg = j.toNat := by have := iI_nat j0 (show j < 2147483648 by omega); omega
      rw [ej, e.i (m0 k hk) (no k hk)]
      exact (h.row hD (show k < 6 by omega)).2.2 _ (by rw [l8 k hk]; omega)
    rw [show D.2.2.1 100 = D.2.2.1 (100 + 0) from rfl, g 0 (by decide), g 1 (by decide), g 2 (by decide), g 3 (by decide)]
    rcases (show j = 0 ∨ j = 1 ∨ j = 2 ∨ j = 3 ∨ j = 4 ∨ j = 5 ∨ j = 6 ∨ j = 7 by omega) with rfl | rfl | rfl | rfl | rfl | rfl | rfl | rfl <;> decide
/-- the reference's rows as they are made -/
theorem ref_start (h : REF0 m) : XRo m 8 8 := by
  obtain ⟨⟨h1, h2⟩, h3, h4, h5, h6⟩ := h
  have z : ∀ f, xIn f = true → f ≠ 8 → f ≠ 40 → ∀ j : Int, 0 ≤ j → m f j = 0 := h6
  have e11 : m 50 11 = 0 := h3 11 (by decide) (by decide) (by decide)
  have g0 : gv m 0 = usualV := by
    funext j
    unfold gv vec
    by_cases y : 0 ≤ j ∧ j < 67
    · rw [if_pos y, show 67 * (0 : Int) + j = j by omega]; exact h4 j y.1 y.2
    · rw [if_neg y, usual_ok.2.1 j y]
  have s30 : ∀ s : Int, 0 ≤ s → m 30 s = 0 := fun s s0 => z 30 rfl (by decide) (by decide) s s0
  refine ⟨⟨⟨h1, h2, by decide, by decide, by decide, by decide⟩, by rw [e11]; decide, fun k k0 k1 => ?_⟩, ⟨fun s s0 s1 => by rw [s30 s s0]; decide, fun k k0 k1 => by rw [z 33 rfl (by decide) (by decide) k k0, z 34 rfl (by decide) (by decide) k k0, z 35 rfl (by decide) (by decide) k k0]; decide, fun s g k s0 s1 g0 g1 => by rw [s30 s s0] at g1; omega⟩, ⟨fun s s0 s1 => by rw [s30 s s0]; decide, fun k k0 k1 => by rw [z 33 rfl (by decide) (by decide) k k0]; decide, fun j j0 j1 => by rw [z 32 rfl (by decide) (by decide) j j0]; decide, fun s g s0 s1 g0 g1 => by rw [s30 s s0] at g1; omega⟩, fun k k0 k1 => by rw [z 12 rfl (by decide) (by decide) k k0]; decide, fun k k0 k1 => by rw [z 36 rfl (by decide) (by decide) k k0, z 37 rfl (by decide) (by decide) k k0, z 38 rfl (by decide) (by decide) k k0]; decide, fun i i0 i1 => by rw [z 41 rfl (by decide) (by decide) i i0]; decide, fun k k0 k1 => .inl (z 42 rfl (by decide) (by decide) k k0), fun k k0 k1 => by rw [z 10 rfl (by decide) (by decide) k k0, z 9 rfl (by decide) (by decide) k k0]; decide, fun k k0 k1 => by rw [z 14 rfl (by decide) (by decide) k k0]; decide, z 42 rfl (by decide) (by decide) 0 (by decide), z 42 rfl (by decide) (by decide) 1 (by decide)⟩
  rw [e11] at k1
  have : k = 0 := by omega
  rw [this, g0]; exact usual_ok.1
end
