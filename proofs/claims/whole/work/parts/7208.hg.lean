/-! PHASE 3: the reference is made -/
def MDR (D : wD) (S0 U : wS) (x : Nat) (L : List Nat) (A : Nat → Nat) (I0 : Nat → Int32) : Prop :=
  EX D S0 U [x] ∧ (x ∈ sL U ∧ sK U x = 17) ∧ (∀ f ∈ L, (sR U x f = some (A f) ∧ A f ∈ sL U ∧ sK U (A f) = xKd f ∧ sN U (A f) = xLen f ∧ A f ≠ x) ∧ ¬ wM D S0 (A f) ∧ sI U (A f) = fun _ => 0) ∧ (∀ f ∈ L, ∀ g ∈ L, A f = A g → f = g) ∧ sI U x = I0
section
variable {D : wD} {S0 U U' : wS} {x : Nat} {L : List Nat} {A : Nat → Nat} {I0 : Nat → Int32}
theorem MDR.new (h : MDR D S0 U x L A I0) {z f k l : Nat} {W : wS} (hz : ¬ wM D U z) (e : W = nA U z k l) (e2 : U' = uR W x f (some z)) (hf : f ∉ L) (hk : k = xKd f) (hl : l = xLen f) : MDR D S0 U' x (f :: L) (setA A f z) I0 := by
  obtain ⟨a, b, c, d, i⟩ := h
  have zx : z ≠ x := fun w => hz (w ▸ Or.inl b.1)
  have xz : x ≠ z := fun w => zx w.symm
  have ne : ∀ g ∈ L, g ≠ f := fun g hg w => hf (w ▸ hg)
  have az : ∀ g ∈ L, A g ≠ z := fun g hg w => hz (w ▸ Or.inl (c g hg).1.2.1)
  have z0 : ¬ wM D S0 z := fun w => hz (a.M w)
  subst e2
  subst e
  refine ⟨(a.nA hz k l).uR (fun _ => by simp) f (some z), ⟨List.mem_append_left _ b.1, (va_up_ne _ _ xz).trans b.2⟩, fun g hg => ?_, fun g hg g' hg' w => ?_, ?_⟩
  · rcases List.mem_cons.mp hg with e1 | hg1
    · subst e1
      rw [setA_at]
      exact ⟨⟨uR_self _ _ _ _, nA_l U z k l, (show sK (nA U z k l) z = k from nA_k U z k l).trans hk, (show sN (nA U z k l) z = l from nA_n U z k l).trans hl, zx⟩, z0, va_up_self _ _ _⟩
    · rw [setA_ne _ _ (ne g hg1)]
      have cg := c g hg1
      refine ⟨⟨?_, List.mem_append_left _ cg.1.2.1, (va_up_ne _ _ (az g hg1)).trans cg.1.2.2.1, (va_up_ne _ _ (az g hg1)).trans cg.1.2.2.2.1, cg.1.2.2.2.2⟩, cg.2.1, ?_⟩
      · rw [uR_j _ _ _ (ne g hg1), nA_r _ _ _ xz]; exact cg.1.1
      · exact (va_up_ne _ _ (az g hg1)).trans cg.2.2
  · rcases List.mem_cons.mp hg with e1 | hg1 <;> rcases List.mem_cons.mp hg' with e2 | hg2
    · rw [e1, e2]
    · rw [e1, setA_at, setA_ne _ _ (ne g' hg2)] at w; exact absurd w.symm (az g' hg2)
    · rw [e2, setA_at, setA_ne _ _ (ne g hg1)] at w; exact absurd w (az g hg1)
    · rw [setA_ne _ _ (ne g hg1), setA_ne _ _ (ne g' hg2)] at w; exact d g hg1 g' hg2 w
  · exact (va_up_ne _ _ xz).trans i
/-- the reference's cells as they stand -/
def m0U (U : wS) (x : Nat) (A : Nat → Nat) : xM := fun f a => if f = 50 then (sI U x a.toNat).toInt else (sI U (A f) a.toNat).toInt
theorem m0U_self (U : wS) (x : Nat) (A : Nat → Nat) : U = xS U x A (m0U U x A) := by
  have e1 : U.2.2.2.1 = (xS U x A (m0U U x A)).2.2.2.1 := by
    funext a j
    show _ = (match xRow x A (m0U U x A) a with | some r => iI (r (j : Int)) | none => U.2.2.2.1 a j)
    unfold xRow
    by_cases q : a = x
    · rw [if_pos q]
      show _ = iI (m0U U x A 50 (j : Int))
      unfold m0U
      rw [if_pos rfl, iI_of, q, Int.toNat_natCast]
    · rw [if_neg q]
      cases hq : xFs.find? (fun f => A f == a) with
      | none => rfl
      | some g =>
        have hm := List.mem_of_find?_eq_some hq
        have g50 : g ≠ 50 := fun w => by rw [w] at hm; exact absurd hm (by decide)
        have ha : A g = a := by simpa using List.find?_some hq
        show _ = iI (m0U U x A g (j : Int))
        unfold m0U
        rw [if_neg g50, iI_of, ha, Int.toNat_natCast]
  show _ = (U.1, U.2.1, U.2.2.1, (xS U x A (m0U U x A)).2.2.2.1, U.2.2.2.2.1, U.2.2.2.2.2)
  rw [← e1]
/-- a reference just made -/
abbrev REF0 (m : xM) : Prop := (m 50 1 = 8 ∧ m 50 2 = 8) ∧ (∀ j : Int, 0 ≤ j → j ≠ 1 → j ≠ 2 → m 50 j = 0) ∧ (∀ k : Int, 0 ≤ k → k < 67 → m 8 k = usualV k) ∧ (∀ k : Int, 0 ≤ k → k < 64 → m 40 k = 15) ∧ ∀ f, xIn f = true → f ≠ 8 → f ≠ 40 → ∀ j : Int, 0 ≤ j → m f j = 0
/-- the usual first position in the row of positions, file by file -/
def layR : Nat → xM → xM
  | 0, m => m
  | f + 1, m => up (up (up (up (layR f m) 8 f (uqL.getD f 0)) 8 (8 + f) 6) 8 (48 + f) 12) 8 (56 + f) (uqL.getD f 0 + 6)
theorem layR_r (m : xM) {r : Nat} (h : (r == 8) = false) : ∀ f, layR f m r = m r := by
  intro f
  induction f with
  | zero => rfl
  | succ f ih => unfold layR; rw [up_r _ _ _ h, up_r _ _ _ h, up_r _ _ _ h, up_r _ _ _ h, ih]
theorem layR_u (m : xM) : ∀ (f : Nat) (k : Int), (∀ j : Int, 0 ≤ j → j < 67 → m 8 j = emptyV j) → 0 ≤ k → k < 67 → layR f m 8 k = uL f k := by
  intro f
  induction f with
  | zero => intro k h k0 k1; exact h k k0 k1
  | succ f ih =>
    intro k h k0 k1
    unfold layR uL up upV
    rw [ih k h k0 k1]
    simp only [true_and]
variable {m : xM} {post : wS → Prop}
theorem q_ri_267 (h : XC D S0 x A) (k : post (xS S0 x A (up (layR 8 m) 8 65 15))) : ∀ (n d f : Nat), d < n → f + d = 8 → wp_X12_init_267 D post n (xS S0 x A (layR f m)) x (iI f) := by
  have lay : ∀ (n f : Nat) (t : Int), f < 8 → t = uqL.getD f 0 → wp_X12_init_267 D post n (xS S0 x A (layR (f + 1) m)) x (iI ((f : Int) + 1)) → wp_X12_init_326 D post (wp_X12_init_267 D post n) (xS S0 x A (layR f m)) x (iI f) (iI t) := by
    intro n f t hf ht kk
    unfold wp_X12_init_326
    rw [show (8 : Int32) = iI 8 from rfl, show (48 : Int32) = iI 48 from rfl, show (56 : Int32) = iI 56 from rfl, show (6 : Int32) = iI 6 from rfl, show (12 : Int32) = iI 12 from rfl]
    simp only [iI_add]
    have st : ∀ (mm : xM) (a v : Int), 0 ≤ a ∧ a < 67 → ∀ (Q : wS → Prop), Q (xS S0 x A (up mm 8 a v)) → ∃ y : Nat, sR (xS S0 x A mm) x 8 = some y ∧ wM D (xS S0 x A mm) y ∧ sK (xS S0 x A mm) y = 21 ∧ y ∈ sL (xS S0 x A mm) ∧ vp_in (iI a) (sN (xS S0 x A mm) y) ∧ ∀ S_1 : wS, S_1 = uI (xS S0 x A mm) y (iI a).toNatClampNeg (iI v) → Q S_1 := by
      intro mm a v ha Q hQ
      refine ⟨A 8, x_r h rfl, (x_m h rfl).mpr trivial, x_k h rfl, (x_l h rfl).mpr trivial, ?_, fun S1 e1 => ?_⟩
      · rw [x_n h rfl]; exact iI_in (by omega) (by omega) (by show a < ((5427 : Nat) : Int); omega)
      · rw [x_u h rfl ha.1 (by omega)] at e1
        rw [e1]; exact hQ
    refine st (layR f m) f t (by omega) _ ?_
    refine st _ (8 + f) 6 (by omega) _ ?_
    refine st _ (48 + f) 12 (by omega) _ ?_
    refine st _ (56 + f) (t + 6) (by omega) _ ?_
    intro x13 e13
    rw [e13, show (1 : Int32) = iI 1 from rfl, iI_add, ht]
    exact kk
  intro n
  induction n with
  | zero => intro d f hd; omega
  | succ n ih =>
    intro d f hd hf
    unfold wp_X12_init_267 wp_X12_init_283 wp_X12_init_298 wp_X12_init_312
    rw [show (8 : Int32) = iI 8 from rfl, show (65 : Int32) = iI 65 from rfl, show (15 : Int32) = iI 15 from rfl, show (0 : Int32) = iI 0 from rfl, show (7 : Int32) = iI 7 from rfl, show (1 : Int32) = iI 1 from rfl, show (6 : Int32) = iI 6 from rfl, show (2 : Int32) = iI 2 from rfl, show (5 : Int32) = iI 5 from rfl, show (3 : Int32) = iI 3 from rfl, show (4 : Int32) = iI 4 from rfl, iI_le (by decide) (by decide) (by omega) (by omega)]
    refine ⟨fun q => ?_, fun q => ?_⟩
    · refine ⟨A 8, x_r h rfl, (x_m h rfl).mpr trivial, x_k h rfl, (x_l h rfl).mpr trivial, ?_, fun S1 e1 => ?_⟩
      · rw [x_n h rfl]; exact iI_in (by decide) (by decide) (by decide)
      · rw [x_u h rfl (by decide) (by decide), show f = 8 by omega] at e1
        rw [e1]; exact k
    · have nx := ih (d - 1) (f + 1) (by omega) (by omega)
      have go : ∀ t : Int, t = uqL.getD f 0 → wp_X12_init_326 D post (wp_X12_init_267 D post n) (xS S0 x A (layR f m)) x (iI f) (iI t) := fun t ht => lay n f t (by omega) ht nx
      have f8 : f = 0 ∨ f = 1 ∨ f = 2 ∨ f = 3 ∨ f = 4 ∨ f = 5 ∨ f = 6 ∨ f = 7 := by omega
      have e : ∀ z : Int, 0 ≤ z → z < 8 → (iI (f : Int) = iI z) = ((f : Int) = z) := fun z z0 z1 => iI_eq (by omega) (by omega) (by omega) (by omega)
      rw [e 0 (by decide) (by decide), e 7 (by decide) (by decide), e 1 (by decide) (by decide), e 6 (by decide) (by decide), e 2 (by decide) (by decide), e 5 (by decide) (by decide), e 3 (by decide) (by decide)]
      refine ⟨fun a => go 3 (by rw [show f = 0 by omega]; rfl), fun a0 => ⟨fun a7 => ⟨fun a => go 5 (by rw [show f = 1 by omega]; rfl), fun a1 => ⟨fun a6 => ⟨fun a => go 4 (by rw [show f = 2 by omega]; rfl), fun a2 => ⟨fun a5 => ⟨fun a3 => go 1 (by rw [show f = 4 by omega]; rfl), fun a => go 2 (by rw [show f = 3 by omega]; rfl)⟩, fun a => go 4 (by rw [show f = 5 by omega]; rfl)⟩⟩, fun a => go 5 (by rw [show f = 6 by omega]; rfl)⟩⟩, fun a => go 3 (by rw [show f = 7 by omega]; rfl)⟩⟩

theorem q_initR2 {U : wS} {L : List Nat} {A : Nat → Nat} (mm : MDR D S0 U x L A (va_up (va_up (fun _ => 0) 1 8) 2 8)) (all : ∀ f, xIn f = true → f ∈ L) (hx : x ∈ sL S0 ∧ sK S0 x = 17 ∧ sI S0 x = fun _ => 0) (k : ∀ U A m, XC D U x A → EX D S0 U [x] → (∀ f, xIn f = true → ¬ wM D S0 (A f)) → REF0 m → post (xS U x A m)) :
    wp_X12_resets D (fun S_120 => ∃ n_121 : Nat, wp_X12_init_267 D post n_121 S_120 x (0 : Int32)) U x := by
  obtain ⟨a, b, c, d, i⟩ := mm
  have h : XC D U x A := ⟨b.1, b.2, fun f hf => (c f (all f hf)).1, fun f hf g hg q => d f (all f hf) g (all g hg) q⟩
  have key : ∀ m : xM, (m 50 1 = 8 ∧ m 50 2 = 8) → (∀ j : Int, 0 ≤ j → j ≠ 1 → j ≠ 2 → m 50 j = 0) → (∀ f, xIn f = true → ∀ j : Int, 0 ≤ j → m f j = 0) → wp_X12_resets D (fun S_120 => ∃ n_121 : Nat, wp_X12_init_267 D post n_121 S_120 x (0 : Int32)) (xS U x A m) x := by
    intro m h1 h2 h3
    refine q_resets h ?_
    refine ⟨9, ?_⟩
    have := q_ri_267 (D := D) (m := resM m) h (k U A _ h a (fun f hf => (c f (all f hf)).2.1) ?_) 9 8 0 (by decide) (by decide)
    · exact this
    · have r50 : ∀ j : Int, 0 ≤ j → resM m 50 j = if j = 1 ∨ j = 2 then 8 else 0 := by
        intro j j0
        have e : resM m 50 j = up (up m 50 11 0) 50 39 0 50 j := by
          unfold resM
          rw [fil_f _ _ rfl, fil_f _ _ rfl]
          by_cases q : j = 39
          · rw [q, up_at, up_at]
          · rw [up_ne _ (Or.inr q), up_f _ _ _ _ rfl, up_f _ _ _ _ rfl, up_ne _ (Or.inr q)]
            by_cases w : j = 11
            · rw [w, up_at, up_at]
            · rw [up_ne _ (Or.inr w), up_f _ _ _ _ rfl, up_f _ _ _ _ rfl, fil_f _ _ rfl, up_ne _ (Or.inr w)]
        rw [e]
        by_cases q1 : j = 1
        · rw [up_ne _ (by omega), up_ne _ (by omega), q1, h1.1, if_pos (Or.inl rfl)]
        · by_cases q2 : j = 2
          · rw [up_ne _ (by omega), up_ne _ (by omega), q2, h1.2, if_pos (Or.inr rfl)]
          · rw [if_neg (by omega)]
            unfold up
            split
            · rfl
            · split
              · rfl
              · exact h2 j j0 q1 q2
      have l50 : up (layR 8 (resM m)) 8 65 15 50 = resM m 50 := by rw [up_r _ _ _ rfl, layR_r _ rfl]
      have r8 : ∀ j : Int, 0 ≤ j → j < 67 → resM m 8 j = emptyV j := by
        intro j j0 j1
        unfold resM
        rw [fil_f _ _ rfl, fil_f _ _ rfl, up_ne _ (Or.inl (by decide)), up_ne _ (Or.inl (by decide)), up_ne _ (Or.inl (by decide)), up_ne _ (Or.inl (by decide))]
        unfold emptyV
        by_cases q : j = 66
        · rw [q, up_at]; rfl
        · rw [up_ne _ (Or.inr q)]
          by_cases w : j = 64
          · rw [w, up_at]; rfl
          · rw [up_ne _ (Or.inr w), if_neg (by omega), if_neg (by omega)]
            unfold fil
            rw [if_pos ⟨rfl, j0, j1⟩]
      refine ⟨⟨?_, ?_⟩, fun j j0 j1 j2 => ?_, fun j j0 j1 => ?_, fun j j0 j1 => ?_, fun f hf f8 f40 j j0 => ?_⟩
      · rw [l50, r50 1 (by decide)]; rfl
      · rw [l50, r50 2 (by decide)]; rfl
      · rw [l50, r50 j j0, if_neg (by omega)]
      · unfold usualV upV
        by_cases q : j = 65
        · rw [q, up_at, if_pos rfl]
        · rw [up_ne _ (Or.inr q), if_neg q]
          exact layR_u _ 8 j r8 j0 j1
      · rw [up_f _ _ _ _ rfl, layR_r _ rfl]
        unfold resM
        rw [fil_f _ _ rfl]
        unfold fil
        rw [if_pos ⟨rfl, j0, j1⟩]
      · have fb : (f == 8) = false := by simpa using f8
        have f50 : f ≠ 50 := fun w => by rw [w] at hf; exact absurd hf (by decide)
        rw [up_f _ _ _ _ fb, layR_r _ fb]
        have h3 := h3 f hf j j0
        unfold resM
        by_cases q : f = 42
        · subst q
          by_cases w : j < 6
          · unfold fil; rw [if_pos ⟨rfl, j0, w⟩]
          · have : ∀ mm : xM, fil mm 42 6 0 42 j = mm 42 j := fun mm => by unfold fil; rw [if_neg (by omega)]
            rw [this, fil_f _ _ rfl, up_f _ _ _ _ rfl, up_f _ _ _ _ rfl, up_f _ _ _ _ rfl, up_f _ _ _ _ rfl, up_f _ _ _ _ rfl, up_f _ _ _ _ rfl, fil_f _ _ rfl]
            exact h3
        · rw [fil_f _ _ (by simpa using q), fil_f _ _ (by simpa using f40), up_ne _ (Or.inl f50)]
          by_cases w : f = 30
          · subst w
            by_cases j1 : j = 1
            · rw [j1, up_at]
            · rw [up_ne _ (Or.inr j1)]
              by_cases j2 : j = 0
              · rw [j2, up_at]
              · rw [up_ne _ (Or.inr j2), up_f _ _ _ _ rfl, up_f _ _ _ _ rfl, up_f _ _ _ _ rfl, fil_f _ _ rfl]
                exact h3
          · rw [up_ne _ (Or.inl w), up_ne _ (Or.inl w), up_ne _ (Or.inl f50), up_ne _ (Or.inl f8), up_ne _ (Or.inl f8), fil_f _ _ fb]
            exact h3
  have fin := key (m0U U x A) ?_ ?_ ?_
  · rw [← m0U_self U x A] at fin; exact fin
  · have e : ∀ j : Int, m0U U x A 50 j = ((va_up (va_up (fun _ => 0) 1 8) 2 8 : Nat → Int32) j.toNat).toInt := fun j => by unfold m0U; rw [if_pos rfl, i]
    rw [e, e]
    exact ⟨by decide, by decide⟩
  · intro j j0 j1 j2
    have e : m0U U x A 50 j = ((va_up (va_up (fun _ => 0) 1 8) 2 8 : Nat → Int32) j.toNat).toInt := by unfold m0U; rw [if_pos rfl, i]
    rw [e, va_up_ne _ _ (show j.toNat ≠ 2 by omega), va_up_ne _ _ (show j.toNat ≠ 1 by omega)]
    rfl
  · intro f hf j j0
    have f50 : f ≠ 50 := fun w => by rw [w] at hf; exact absurd hf (by decide)
    unfold m0U
    rw [if_neg f50, (c f (all f hf)).2.2]
    rfl
theorem q_initR (hx : x ∈ sL S0 ∧ sK S0 x = 17 ∧ sI S0 x = fun _ => 0) (k : ∀ U A m, XC D U x A → EX D S0 U [x] → (∀ f, xIn f = true → ¬ wM D S0 (A f)) → REF0 m → post (xS U x A m)) : wp_X12_init D post S0 x := by
  unfold wp_X12_init wp_X12_init_0
  intro S1 e1 S2 e2
  have hE : EX D S0 S2 [x] := by rw [e2, e1]; exact (EX.rf.uI (fun _ => by simp) 1 8).uI (fun _ => by simp) 2 8
  have hi : sI S2 x = va_up (va_up (fun _ => 0) 1 8) 2 8 := by
    rw [e2, e1]
    show va_up (va_up (sI S0) x (va_up (sI S0 x) 1 8)) x (va_up (va_up (sI S0) x (va_up (sI S0 x) 1 8) x) 2 8) x = _
    rw [va_up_self, va_up_self, hx.2.2]
  have m : MDR D S0 S2 x [] (fun _ => 0) (va_up (va_up (fun _ => 0) 1 8) 2 8) := ⟨hE, ⟨hE.L hx.1, (hE.k (Or.inl hx.1)).trans hx.2.1⟩, fun f hf => absurd hf List.not_mem_nil, fun f hf => absurd hf List.not_mem_nil, hi⟩
  refine ⟨by decide, by decide, fun y0 hy0 S10a e0a S10 e0 => ?_⟩
  have m := m.new (f := 3) hy0 e0a e0 (by decide) (by decide) (by decide)
  refine ⟨by decide, by decide, fun y1 hy1 S11a e1a S11 e1 => ?_⟩
  have m := m.new (f := 4) hy1 e1a e1 (by decide) (by decide) (by decide)
  refine ⟨by decide, by decide, fun y2 hy2 S12a e2a S12 e2 => ?_⟩
  have m := m.new (f := 5) hy2 e2a e2 (by decide) (by decide) (by decide)
  refine ⟨by decide, by decide, fun y3 hy3 S13a e3a S13 e3 => ?_⟩
  have m := m.new (f := 6) hy3 e3a e3 (by decide) (by decide) (by decide)
  refine ⟨by decide, by decide, fun y4 hy4 S14a e4a S14 e4 => ?_⟩
  have m := m.new (f := 7) hy4 e4a e4 (by decide) (by decide) (by decide)
  refine ⟨by decide, by decide, fun y5 hy5 S15a e5a S15 e5 => ?_⟩
  have m := m.new (f := 8) hy5 e5a e5 (by decide) (by decide) (by decide)
  refine ⟨by decide, by decide, fun y6 hy6 S16a e6a S16 e6 => ?_⟩
  have m := m.new (f := 9) hy6 e6a e6 (by decide) (by decide) (by decide)
  refine ⟨by decide, by decide, fun y7 hy7 S17a e7a S17 e7 => ?_⟩
  have m := m.new (f := 10) hy7 e7a e7 (by decide) (by decide) (by decide)
  refine ⟨by decide, by decide, fun y8 hy8 S18a e8a S18 e8 => ?_⟩
  have m := m.new (f := 12) hy8 e8a e8 (by decide) (by decide) (by decide)
  refine ⟨by decide, by decide, fun y9 hy9 S19a e9a S19 e9 => ?_⟩
  have m := m.new (f := 14) hy9 e9a e9 (by decide) (by decide) (by decide)
  refine ⟨by decide, by decide, fun y10 hy10 S20a e10a S20 e10 => ?_⟩
  have m := m.new (f := 17) hy10 e10a e10 (by decide) (by decide) (by decide)
  refine ⟨by decide, by decide, fun y11 hy11 S21a e11a S21 e11 => ?_⟩
  have m := m.new (f := 18) hy11 e11a e11 (by decide) (by decide) (by decide)
  refine ⟨by decide, by decide, fun y12 hy12 S22a e12a S22 e12 => ?_⟩
  have m := m.new (f := 19) hy12 e12a e12 (by decide) (by decide) (by decide)
  refine ⟨by decide, by decide, fun y13 hy13 S23a e13a S23 e13 => ?_⟩
  have m := m.new (f := 20) hy13 e13a e13 (by decide) (by decide) (by decide)
  refine ⟨by decide, by decide, fun y14 hy14 S24a e14a S24 e14 => ?_⟩
  have m := m.new (f := 21) hy14 e14a e14 (by decide) (by decide) (by decide)
  refine ⟨by decide, by decide, fun y15 hy15 S25a e15a S25 e15 => ?_⟩
  have m := m.new (f := 22) hy15 e15a e15 (by decide) (by decide) (by decide)
  refine ⟨by decide, by decide, fun y16 hy16 S26a e16a S26 e16 => ?_⟩
  have m := m.new (f := 23) hy16 e16a e16 (by decide) (by decide) (by decide)
  refine ⟨by decide, by decide, fun y17 hy17 S27a e17a S27 e17 => ?_⟩
  have m := m.new (f := 30) hy17 e17a e17 (by decide) (by decide) (by decide)
  refine ⟨by decide, by decide, fun y18 hy18 S28a e18a S28 e18 => ?_⟩
  have m := m.new (f := 31) hy18 e18a e18 (by decide) (by decide) (by decide)
  refine ⟨by decide, by decide, fun y19 hy19 S29a e19a S29 e19 => ?_⟩
  have m := m.new (f := 32) hy19 e19a e19 (by decide) (by decide) (by decide)
  refine ⟨by decide, by decide, fun y20 hy20 S30a e20a S30 e20 => ?_⟩
  have m := m.new (f := 33) hy20 e20a e20 (by decide) (by decide) (by decide)
  refine ⟨by decide, by decide, fun y21 hy21 S31a e21a S31 e21 => ?_⟩
  have m := m.new (f := 34) hy21 e21a e21 (by decide) (by decide) (by decide)
  refine ⟨by decide, by decide, fun y22 hy22 S32a e22a S32 e22 => ?_⟩
  have m := m.new (f := 35) hy22 e22a e22 (by decide) (by decide) (by decide)
  refine ⟨by decide, by decide, fun y23 hy23 S33a e23a S33 e23 => ?_⟩
  have m := m.new (f := 36) hy23 e23a e23 (by decide) (by decide) (by decide)
  refine ⟨by decide, by decide, fun y24 hy24 S34a e24a S34 e24 => ?_⟩
  have m := m.new (f := 37) hy24 e24a e24 (by decide) (by decide) (by decide)
  refine ⟨by decide, by decide, fun y25 hy25 S35a e25a S35 e25 => ?_⟩
  have m := m.new (f := 38) hy25 e25a e25 (by decide) (by decide) (by decide)
  refine ⟨by decide, by decide, fun y26 hy26 S36a e26a S36 e26 => ?_⟩
  have m := m.new (f := 40) hy26 e26a e26 (by decide) (by decide) (by decide)
  refine ⟨by decide, by decide, fun y27 hy27 S37a e27a S37 e27 => ?_⟩
  have m := m.new (f := 41) hy27 e27a e27 (by decide) (by decide) (by decide)
  refine ⟨by decide, by decide, fun y28 hy28 S38a e28a S38 e28 => ?_⟩
  have m := m.new (f := 42) hy28 e28a e28 (by decide) (by decide) (by decide)
  have all : ∀ f, xIn f = true → f ∈ [42, 41, 40, 38, 37, 36, 35, 34, 33, 32, 31, 30, 23, 22, 21, 20, 19, 18, 17, 14, 12, 10, 9, 8, 7, 6, 5, 4, 3] := by
    intro f hf
    have hm : f ∈ xFs := by simpa [xIn] using hf
    have : ∀ f ∈ xFs, f ∈ [42, 41, 40, 38, 37, 36, 35, 34, 33, 32, 31, 30, 23, 22, 21, 20, 19, 18, 17, 14, 12, 10, 9, 8, 7, 6, 5, 4, 3] := by decide
    exact this f hm
  exact q_initR2 m all hx k
end
