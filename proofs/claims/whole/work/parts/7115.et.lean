section
variable {D : wD} {U U' : wS} {K : List Nat} {a yl b p g y0 y1 y2 : Nat} {els : List Nat} {r m : Int} {w0 : Int → Int → Int} {mv0 : Int → Mv} {fr0 : Int → Bool} {n : Int → Int} {w : Int → Int → Int → Int} {mv : Int → Int → Mv} {fr : Int → Int → Bool} {inf : Int → Nat → Int} {ys : Int → Nat × Nat × Nat} {v : Int → Int} {post : Int32 → wS → Prop}
theorem SV.ex {y : Nat} {i : Int} {x : Int → Int} (he : EX D U U' K) (hm : wM D U y) (hy : y ∉ K) (h : SV U y i x) : SV U' y i x := by
  have e := he.j hm hy
  unfold SV gJ at h ⊢
  rw [e]; exact h
theorem GO.ex (he : EX D U U' K) (hg : g ∉ K) (hm : wM D U g) (h0 : y0 ∉ K) (h1 : y1 ∉ K) (h : GO D U g y0 y1 r m w0 mv0) : GO D U' g y0 y1 r m w0 mv0 := by
  obtain ⟨⟨a0, a1, a2, a3⟩, ⟨b0, b1, b2, b3⟩, c0, c1, c2, c3⟩ := h
  refine ⟨⟨by rw [he.r hm hg, a0], he.M a1, by rw [he.k a1, a2], by rw [he.n a1]; exact a3⟩, ⟨by rw [he.r hm hg, b0], he.M b1, by rw [he.k b1, b2], by rw [he.n b1]; exact b3⟩, c0, by rw [he.i hm hg, c1], fun k k0 k1 => ⟨SV.ex he a1 h0 (c2 k k0 k1).1, (c2 k k0 k1).2⟩, fun k k0 k1 => ⟨by rw [he.i b1 h1]; exact (c3 k k0 k1).1, (c3 k k0 k1).2⟩⟩
theorem FO.ex (he : EX D U U' K) (hg : g ∉ K) (hm : wM D U g) (h2 : y2 ∉ K) (h : FO D U g y2 r m fr0) : FO D U' g y2 r m fr0 := by
  obtain ⟨⟨a0, a1, a2, a3⟩, c0, c1, c2⟩ := h
  exact ⟨⟨by rw [he.r hm hg, a0], he.M a1, by rw [he.k a1, a2], by rw [he.n a1]; exact a3⟩, c0, by rw [he.i hm hg, c1], fun k k0 k1 => by rw [he.i a1 h2]; exact c2 k k0 k1⟩
/-- the cells of a shelf's games are none of K -/
abbrev offK (K : List Nat) (els : List Nat) (ys : Int → Nat × Nat × Nat) : Prop := ∀ g : Int, 0 ≤ g → g < els.length → els.getD g.toNat 0 ∉ K ∧ (ys g).1 ∉ K ∧ (ys g).2.1 ∉ K ∧ (ys g).2.2 ∉ K
theorem SHC.ex (he : EX D U U' K) (ha : a ∉ K) (hy : yl ∉ K) (hk : offK K els ys) (hS : SHC D U a yl els n w mv fr inf ys) : SHC D U' a yl els n w mv fr inf ys := by
  refine ⟨hS.1.ex he ha hy, ⟨hS.2.1.1, by rw [he.n hS.1.2.1.2.1]; exact hS.2.1.2⟩, fun g g0 g1 => ?_⟩
  have gg := hS.2.2 g g0 g1
  have k := hk g g0 g1
  have m8 := hS.g8 ⟨g0, g1⟩
  exact ⟨GO.ex he k.1 m8.1 k.2.1 k.2.2.1 gg.1, FO.ex he k.1 m8.1 k.2.2.2 gg.2.1, fun f f4 f8 => by rw [he.i m8.1 k.1]; exact gg.2.2 f f4 f8⟩
end
section
variable {D : wD} {S : wS} {o : Nat → Nat} {c : cM} {v : Int → Int} {post : Int32 → wS → Prop} {xp : String → wS → Prop} {yl : Int → Nat} {els : Int → List Nat} {n : Int → Int → Int} {w : Int → Int → Int → Int → Int} {mv : Int → Int → Int → Mv} {fr : Int → Int → Int → Bool} {inf : Int → Int → Nat → Int} {ys : Int → Int → Nat × Nat × Nat}
theorem q_firstNewC (h : CC D S o) (hS : SHL D S o c yl els n w mv fr inf ys) {s g : Int} (hs : i32 s) (hg : i32 g)
    (k0 : (inB s 0 1 && inB g 0 ((els s).length - 1)) = false → xp "java/lang/IndexOutOfBoundsException" (cS S o c)) (k1 : (inB s 0 1 && inB g 0 ((els s).length - 1)) = true → post (iI (firstL (fr s g) 0 (n s g + 1).toNat)) (cS S o c)) : wp_X11_firstNew D post xp (cS S o c) (o 0) (iI s) (iI g) := by
  unfold wp_X11_firstNew wp_X11_firstNew_0
  refine q_gameOf h hS hs hg k0 fun q => ?_
  have k1 := k1 q
  rw [Bool.and_eq_true] at q
  have q1 := in01.mp q.1
  have q2 := inB_iff.mp q.2
  have g8 := (hS s q1).g8 (g := g) ⟨q2.1, by omega⟩
  exact ⟨_, rfl, g8.1, g8.2, q_firstFresh ((hS s q1).2.2 g q2.1 (by omega)).2.1 k1⟩
/-- the shelves don't look at the class's cells -/
theorem SHL.over (h : CC D S o) (c c' : cM) (hl : ∀ s : Int, (s = 0 ∨ s = 1) → offK (cLs.map o) (els s) (ys s)) (hS : SHL D S o c yl els n w mv fr inf ys) : SHL D S o c' yl els n w mv fr inf ys := by
  intro s hs
  have no : ∀ k, k < 52 → cOk k = false → o k ∉ cLs.map o := fun k hk hc z => by
    obtain ⟨m, hm, e⟩ := List.mem_map.mp z
    exact o_ne h hk hc m (by simpa [cOk] using hm) e
  refine (hS s hs).ex (c_ex c c') ?_ ?_ (hl s hs)
  · rcases hs with rfl | rfl
    · exact no 31 (by decide) (by decide)
    · exact no 33 (by decide) (by decide)
  · intro z
    obtain ⟨m, hm, e⟩ := List.mem_map.mp z
    have hm' : cOk m = true := by simpa [cOk] using hm
    have k1 := (h.1 m (cOk_lt hm')).2.1
    have k2 : sK S (yl s) = 24 := (hS s hs).1.2.1.2.2.1
    rw [e, k2] at k1
    have key : ∀ m ∈ cLs, ckd m ≠ 24 := by decide
    exact key m hm k1.symm
end
