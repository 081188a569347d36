/-! PHASE 5: one state for both sides -/
section
variable {D : wD} {S U' : wS} {x : Nat} {A : Nat → Nat} {m m' : xM} {K : List Nat}
/-- the reference's cells -/
def xCs (x : Nat) (A : Nat → Nat) : List Nat := x :: xFs.map A
theorem xCs_x {x : Nat} {A : Nat → Nat} : x ∈ xCs x A := List.mem_cons_self
theorem xCs_A {x : Nat} {A : Nat → Nat} {f : Nat} (hf : xIn f = true) : A f ∈ xCs x A := List.mem_cons_of_mem _ (List.mem_map.mpr ⟨f, by simpa [xIn] using hf, rfl⟩)
theorem xRow_no {x : Nat} {A : Nat → Nat} {m : xM} {a : Nat} (h : a ∉ xCs x A) : xRow x A m a = none := by
  unfold xRow
  rw [if_neg (show ¬ a = x from fun z => h (by rw [z]; exact xCs_x))]
  have : xFs.find? (fun f => A f == a) = none := by
    rw [List.find?_eq_none]
    intro f hf
    simp only [beq_iff_eq]
    exact fun e => h (by rw [← e]; exact xCs_A (by simpa [xIn] using hf))
  rw [this]; rfl
/-- the reference's cells alone differ -/
theorem x_ex (m m' : xM) : EX D (xS S x A m) (xS S x A m') (xCs x A) := by
  refine ⟨⟨fun _ z => z, fun _ _ => ⟨rfl, rfl⟩⟩, fun a ha hk => ⟨funext fun j => ?_, rfl, rfl⟩⟩
  show (match xRow x A m' a with | some r => iI (r (j : Int)) | none => _) = (match xRow x A m a with | some r => iI (r (j : Int)) | none => _)
  rw [xRow_no hk, xRow_no hk]
/-- what leaves the reference's cells alone leaves the reference's form -/
theorem ex_x (h : XC D S x A) (he : EX D (xS S x A m) U' K) (hK : ∀ a, a ∈ xCs x A → a ∉ K) : XC D U' x A ∧ U' = xS U' x A m := by
  have hx : x ∉ K := hK x xCs_x
  have hA : ∀ f, xIn f = true → A f ∉ K := fun f hf => hK _ (xCs_A hf)
  have mx : wM D (xS S x A m) x := Or.inl h.own
  have mA : ∀ f, xIn f = true → wM D (xS S x A m) (A f) := fun f hf => Or.inl (h.arr f hf).2.1
  refine ⟨⟨he.L h.own, by rw [he.k mx]; exact h.kd, fun f hf => ⟨by rw [he.r mx hx]; exact (h.arr f hf).1, he.L (h.arr f hf).2.1, by rw [he.k (mA f hf)]; exact (h.arr f hf).2.2.1, by rw [he.n (mA f hf)]; exact (h.arr f hf).2.2.2.1, (h.arr f hf).2.2.2.2⟩, h.inj⟩, ?_⟩
  have e1 : U'.2.2.2.1 = (xS U' x A m).2.2.2.1 := by
    funext a j
    show _ = (match xRow x A m a with | some r => iI (r (j : Int)) | none => U'.2.2.2.1 a j)
    by_cases q : a ∈ xCs x A
    · have e0 : sI U' a j = sI (xS S x A m) a j := by
        rcases List.mem_cons.mp q with q' | q'
        · rw [q']; exact congrFun (he.i mx hx) j
        · obtain ⟨f, hf, ef⟩ := List.mem_map.mp q'
          have hf : xIn f = true := by simpa [xIn] using hf
          rw [← ef]; exact congrFun (he.i (mA f hf) (hA f hf)) j
      show sI U' a j = _
      rw [e0]
      have : ∃ r, xRow x A m a = some r := by
        rcases List.mem_cons.mp q with q' | q'
        · rw [q']; exact ⟨m 50, by unfold xRow; rw [if_pos rfl]⟩
        · obtain ⟨f, hf, ef⟩ := List.mem_map.mp q'
          rw [← ef]; exact ⟨m f, h.row (by simpa [xIn] using hf)⟩
      obtain ⟨r, hr⟩ := this
      rw [hr]
      show (match xRow x A m a with | some r => iI (r (j : Int)) | none => S.2.2.2.1 a j) = _
      rw [hr]
    · rw [xRow_no q]
  show U' = (U'.1, U'.2.1, U'.2.2.1, (xS U' x A m).2.2.2.1, U'.2.2.2.2.1, U'.2.2.2.2.2)
  rw [← e1]
/-- the class's cells and the reference's, none of both -/
abbrev DJX (o : Nat → Nat) (x : Nat) (A : Nat → Nat) : Prop := ∀ a, a ∈ xCs x A → ∀ n, n < 52 → o n ≠ a
/-- both forms at once -/
abbrev BF (D : wD) (U : wS) (o : Nat → Nat) (c : cM) (x : Nat) (A : Nat → Nat) (m : xM) : Prop := (CC D U o ∧ U = cS U o c) ∧ (XC D U x A ∧ U = xS U x A m) ∧ DJX o x A
theorem BF.cls {o : Nat → Nat} {c : cM} {U : wS} (h : BF D U o c x A m) (c' : cM) : BF D (cS U o c') o c' x A m := by
  obtain ⟨⟨a1, a2⟩, ⟨b1, b2⟩, dj⟩ := h
  have e1 : EX D U (cS U o c') (cLs.map o) := by
    have := c_ex (D := D) (S := U) (o := o) c c'
    rw [← a2] at this
    exact this
  refine ⟨?_, ?_, dj⟩
  · exact ⟨⟨a1.1, a1.2.1, a1.2.2⟩, by
      have : cS U o c' = cS (cS U o c') o c' := by
        have i := c_ex (D := D) (S := U) (o := o) c' c'
        exact (ex_c a1 (EX.rf (K := [])) (fun n _ => List.not_mem_nil)).2
      exact this⟩
  · rw [b2] at e1
    have b1' : XC D U x A := b1
    have := ex_x b1' e1 (fun a ha z => by
      obtain ⟨n, hn, e⟩ := List.mem_map.mp z
      have hn : cOk n = true := by simpa [cOk] using hn
      exact dj a ha n (cOk_lt hn) e)
    rw [← b2] at this
    exact this
theorem BF.rf {o : Nat → Nat} {c : cM} {U : wS} (h : BF D U o c x A m) (m' : xM) : BF D (xS U x A m') o c x A m' := by
  obtain ⟨⟨a1, a2⟩, ⟨b1, b2⟩, dj⟩ := h
  have e1 : EX D U (xS U x A m') (xCs x A) := by
    have := x_ex (D := D) (S := U) (x := x) (A := A) m m'
    rw [← b2] at this
    exact this
  refine ⟨?_, ⟨⟨b1.1, b1.2.1, b1.2.2.1, b1.2.2.2⟩, (ex_x b1 (EX.rf (K := [])) (fun a _ => List.not_mem_nil)).2⟩, dj⟩
  rw [a2] at e1
  have := ex_c a1 e1 (fun n hn z => dj _ z n (cOk_lt hn) rfl)
  rw [← a2] at this
  exact this
/-- what touches neither -/
theorem BF.ex {o : Nat → Nat} {c : cM} {U : wS} (h : BF D U o c x A m) (he : EX D U U' K) (h1 : ∀ n, n < 52 → o n ∉ K) (h2 : ∀ a, a ∈ xCs x A → a ∉ K) : BF D U' o c x A m := by
  obtain ⟨⟨a1, a2⟩, ⟨b1, b2⟩, dj⟩ := h
  have e1 := he
  have e2 := he
  rw [a2] at e1
  rw [b2] at e2
  exact ⟨ex_c a1 e1 (fun n hn => h1 n (cOk_lt hn)), ex_x b1 e2 h2, dj⟩
end
