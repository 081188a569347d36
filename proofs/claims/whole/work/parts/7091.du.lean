/-! PHASE 3, STATES THAT DIFFER IN FEW CELLS -/
def EX (D : wD) (U U' : wS) (K : List Nat) : Prop := wX D U U' ∧ ∀ a, wM D U a → a ∉ K → sI U' a = sI U a ∧ sJ U' a = sJ U a ∧ sR U' a = sR U a
section
variable {D : wD} {U U' U'' : wS} {K K' K1 K2 : List Nat} {a y : Nat}
theorem EX.rf : EX D U U K := ⟨wX.rf, fun _ _ _ => ⟨rfl, rfl, rfl⟩⟩
theorem EX.M (h : EX D U U' K) (ha : wM D U a) : wM D U' a := h.1.M ha
theorem EX.L (h : EX D U U' K) (ha : a ∈ sL U) : a ∈ sL U' := h.1.1 a ha
theorem EX.k (h : EX D U U' K) (ha : wM D U a) : sK U' a = sK U a := (h.1.2 a ha).1
theorem EX.n (h : EX D U U' K) (ha : wM D U a) : sN U' a = sN U a := (h.1.2 a ha).2
theorem EX.i (h : EX D U U' K) (ha : wM D U a) (hk : a ∉ K) : sI U' a = sI U a := (h.2 a ha hk).1
theorem EX.j (h : EX D U U' K) (ha : wM D U a) (hk : a ∉ K) : sJ U' a = sJ U a := (h.2 a ha hk).2.1
theorem EX.r (h : EX D U U' K) (ha : wM D U a) (hk : a ∉ K) : sR U' a = sR U a := (h.2 a ha hk).2.2
theorem EX.trans (h1 : EX D U U' K1) (h2 : EX D U' U'' K2) (hk1 : ∀ a, wM D U a → a ∈ K1 → a ∈ K) (hk2 : ∀ a, wM D U a → a ∈ K2 → a ∈ K) : EX D U U'' K :=
  ⟨h1.1.trans h2.1, fun a ha hk => by
    have n1 : a ∉ K1 := fun z => hk (hk1 a ha z)
    have n2 : a ∉ K2 := fun z => hk (hk2 a ha z)
    have e1 := h1.2 a ha n1
    have e2 := h2.2 a (h1.M ha) n2
    exact ⟨e2.1.trans e1.1, e2.2.1.trans e1.2.1, e2.2.2.trans e1.2.2⟩⟩
theorem EX.mono (h : EX D U U' K) (hk : ∀ a, wM D U a → a ∈ K → a ∈ K') : EX D U U' K' := ⟨h.1, fun a ha n => h.2 a ha fun z => n (hk a ha z)⟩
theorem EX.uI (h : EX D U U' K) (hy : wM D U y → y ∈ K) (j : Nat) (v : Int32) : EX D U (uI U' y j v) K := ⟨⟨h.1.1, h.1.2⟩, fun a ha n => by
  have e := h.2 a ha n
  exact ⟨(va_up_ne _ _ (fun z => n (by rw [z]; exact hy (z ▸ ha)))).trans e.1, e.2.1, e.2.2⟩⟩
theorem EX.uJ (h : EX D U U' K) (hy : wM D U y → y ∈ K) (j : Nat) (v : Int64) : EX D U (uJ U' y j v) K := ⟨⟨h.1.1, h.1.2⟩, fun a ha n => by
  have e := h.2 a ha n
  exact ⟨e.1, (va_up_ne _ _ (fun z => n (by rw [z]; exact hy (z ▸ ha)))).trans e.2.1, e.2.2⟩⟩
theorem EX.uR (h : EX D U U' K) (hy : wM D U y → y ∈ K) (j : Nat) (v : Option Nat) : EX D U (uR U' y j v) K := ⟨⟨h.1.1, h.1.2⟩, fun a ha n => by
  have e := h.2 a ha n
  exact ⟨e.1, e.2.1, (va_up_ne _ _ (fun z => n (by rw [z]; exact hy (z ▸ ha)))).trans e.2.2⟩⟩
theorem EX.nA (h : EX D U U' K) (hy : ¬ wM D U' y) (k n : Nat) : EX D U (nA U' y k n) K := ⟨h.1.trans (wX_nA hy), fun a ha hn => by
  have e := h.2 a ha hn
  have ne : a ≠ y := fun z => hy (z ▸ h.M ha)
  exact ⟨(va_up_ne _ _ ne).trans e.1, (va_up_ne _ _ ne).trans e.2.1, (va_up_ne _ _ ne).trans e.2.2⟩⟩
theorem uI_self (U : wS) (a j : Nat) (v : Int32) : sI (Jvm.Pilot.COpeningsCabinetLaw_law_r5693_3db0e9.uI U a j v) a j = v := by
  show va_up (sI U) a (va_up (sI U a) j v) a j = v
  rw [va_up_self, va_up_self]
theorem uI_j (U : wS) (a : Nat) {j i : Nat} (v : Int32) (h : i ≠ j) : sI (Jvm.Pilot.COpeningsCabinetLaw_law_r5693_3db0e9.uI U a j v) a i = sI U a i := by
  show va_up (sI U) a (va_up (sI U a) j v) a i = _
  rw [va_up_self, va_up_ne _ _ h]
theorem uI_a (U : wS) {a b : Nat} (j : Nat) (v : Int32) (h : b ≠ a) : sI (Jvm.Pilot.COpeningsCabinetLaw_law_r5693_3db0e9.uI U a j v) b = sI U b := va_up_ne _ _ h
theorem uR_self (U : wS) (a j : Nat) (v : Option Nat) : sR (Jvm.Pilot.COpeningsCabinetLaw_law_r5693_3db0e9.uR U a j v) a j = v := by
  show va_up (sR U) a (va_up (sR U a) j v) a j = v
  rw [va_up_self, va_up_self]
theorem uR_j (U : wS) (a : Nat) {j i : Nat} (v : Option Nat) (h : i ≠ j) : sR (Jvm.Pilot.COpeningsCabinetLaw_law_r5693_3db0e9.uR U a j v) a i = sR U a i := by
  show va_up (sR U) a (va_up (sR U a) j v) a i = _
  rw [va_up_self, va_up_ne _ _ h]
theorem uR_a (U : wS) {a b : Nat} (j : Nat) (v : Option Nat) (h : b ≠ a) : sR (Jvm.Pilot.COpeningsCabinetLaw_law_r5693_3db0e9.uR U a j v) b = sR U b := va_up_ne _ _ h
end
theorem sfr_cOk : ∀ n f k, sfr n f = some k → cOk n = true ∧ n < 52 ∧ k < 52 := by
  intro n f k h
  unfold sfr at h
  split at h <;> first | (injection h with h; subst h; decide) | exact absurd h (by simp)
section
variable {D : wD} {S U' : wS} {o : Nat → Nat} {c c' : cM} {K : List Nat}
/-- what leaves the class's cells alone leaves the class's form -/
theorem ex_c (h : CC D S o) (he : EX D (cS S o c) U' K) (hK : ∀ n, cOk n = true → o n ∉ K) : CC D U' o ∧ U' = cS U' o c := by
  have hM : ∀ n, n < 52 → wM D (cS S o c) (o n) := fun n hn => (c_m h hn).mpr trivial
  refine ⟨⟨fun n hn => ⟨he.L ((c_l (c := c) h hn).mpr trivial), ?_, ?_⟩, h.2.1, fun n f k hk => ?_⟩, ?_⟩
  · rw [he.k (hM n hn), c_k h hn]
  · rw [he.n (hM n hn), c_n h hn]
  · have q := sfr_cOk n f k hk
    rw [he.r (hM n q.2.1) (hK n q.1), c_r h hk]
  · have e1 : U'.2.2.2.1 = (cS U' o c).2.2.2.1 := by
      funext a j
      show _ = (match cRow o a with | some n => iI (c.1 n (j : Int)) | none => U'.2.2.2.1 a j)
      cases hq : cRow o a with
      | none => rfl
      | some g =>
        have h2 := List.find?_some hq
        have h3 := List.mem_of_find?_eq_some hq
        have hg : cOk g = true := by simpa [cOk] using h3
        have ha : o g = a := by simpa using h2
        dsimp only
        rw [← ha]
        rw [← c_i0 h hg j]
        exact congrFun (he.i (hM g (cOk_lt hg)) (hK g hg)) j
    have e2 : U'.2.2.2.2.1 = (cS U' o c).2.2.2.2.1 := by
      funext a j
      show _ = (match cRow o a with | some n => c.2 n (j : Int) | none => U'.2.2.2.2.1 a j)
      cases hq : cRow o a with
      | none => rfl
      | some g =>
        have h2 := List.find?_some hq
        have h3 := List.mem_of_find?_eq_some hq
        have hg : cOk g = true := by simpa [cOk] using h3
        have ha : o g = a := by simpa using h2
        dsimp only
        rw [← ha]
        rw [← c_j0 h hg j]
        exact congrFun (he.j (hM g (cOk_lt hg)) (hK g hg)) j
    show _ = (U'.1, U'.2.1, U'.2.2.1, (cS U' o c).2.2.2.1, (cS U' o c).2.2.2.2.1, U'.2.2.2.2.2)
    rw [← e1, ← e2]
/-- the class's cells alone differ -/
theorem c_ex (c c' : cM) : EX D (cS S o c) (cS S o c') (cLs.map o) := by
  refine ⟨⟨fun _ z => z, fun _ _ => ⟨rfl, rfl⟩⟩, fun a ha hk => ?_⟩
  have : cRow o a = none := by
    unfold cRow
    rw [List.find?_eq_none]
    intro n hn
    simp only [beq_iff_eq]
    exact fun e => hk (List.mem_map.mpr ⟨n, hn, e⟩)
  refine ⟨funext fun j => ?_, funext fun j => ?_, rfl⟩
  · show (match cRow o a with | some n => iI (c'.1 n (j : Int)) | none => _) = (match cRow o a with | some n => iI (c.1 n (j : Int)) | none => _)
    rw [this]
  · show (match cRow o a with | some n => c'.2 n (j : Int) | none => _) = (match cRow o a with | some n => c.2 n (j : Int) | none => _)
    rw [this]
end
