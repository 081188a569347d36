/-! PHASE 3: constructors: what was made so far -/
def ckx (n : Nat) : Nat := if n < 52 then ckd n else if n < 55 then 20 else 21
def clx (n : Nat) : Nat := if n < 52 then cln n else if n < 55 then 16 else 0
def sfx : Nat → Nat → Option Nat
  | 29, 0 => some 52
  | 49, 0 => some 53
  | 50, 0 => some 54
  | 45, 4 => some 55
  | 45, 5 => some 56
  | 45, 6 => some 57
  | n, f => sfr n f
/-- cells whose ints stay 0 -/
def ZL : List Nat := [29, 31, 33, 46, 49, 50, 52, 53, 54]
def setA (adr : Nat → Nat) (n z : Nat) : Nat → Nat := fun k => if k = n then z else adr k
theorem setA_at (adr : Nat → Nat) (n z : Nat) : setA adr n z n = z := if_pos rfl
theorem setA_ne (adr : Nat → Nat) {n k : Nat} (z : Nat) (h : k ≠ n) : setA adr n z k = adr k := if_neg h
def MDE (D : wD) (S0 U : wS) (L : List Nat) (G : List (Nat × Nat)) (adr : Nat → Nat) : Prop :=
  EX D S0 U [adr 0] ∧ (∀ n ∈ L, adr n ∈ sL U ∧ sK U (adr n) = ckx n ∧ sN U (adr n) = clx n) ∧ (∀ n ∈ L, ∀ k ∈ L, adr n = adr k → n = k) ∧ (∀ n ∈ L, n ≠ 0 → ¬ wM D S0 (adr n)) ∧
  (∀ p ∈ G, p.1 ∈ L ∧ ((∃ k, k ∈ L ∧ sfx p.1 p.2 = some k ∧ sR U (adr p.1) p.2 = some (adr k)) ∨ (sfx p.1 p.2 = none ∧ sR U (adr p.1) p.2 = some (D.2.2.1 106)))) ∧ ∀ n ∈ L, n ∈ ZL → ∀ j, sI U (adr n) j = 0
section
variable {D : wD} {S0 U : wS} {L : List Nat} {G : List (Nat × Nat)} {adr : Nat → Nat}
theorem MDE.m (h : MDE D S0 U L G adr) {n : Nat} (hn : n ∈ L) : wM D U (adr n) := Or.inl (h.2.1 n hn).1
theorem MDE.new (h : MDE D S0 U L G adr) {z n : Nat} (hz : ¬ wM D U z) (hn : n ∉ L) (h0 : n ≠ 0) : MDE D S0 (nA U z (ckx n) (clx n)) (n :: L) G (setA adr n z) := by
  obtain ⟨a, b, c, d, e, f⟩ := h
  have ne : ∀ k ∈ L, k ≠ n := fun k hk q => hn (q ▸ hk)
  have az : ∀ k ∈ L, adr k ≠ z := fun k hk q => hz (q ▸ Or.inl (b k hk).1)
  have z0 : ¬ wM D S0 z := fun w => hz (a.M w)
  refine ⟨?_, fun k hk => ?_, fun i hi k hk q => ?_, fun k hk k0 => ?_, fun p hp => ?_, fun k hk kz j => ?_⟩
  · rw [setA_ne _ _ (fun q => h0 q.symm)]
    exact a.nA hz _ _
  · rcases List.mem_cons.mp hk with rfl | hk
    · rw [setA_at]; exact ⟨nA_l _ _ _ _, nA_k _ _ _ _, nA_n _ _ _ _⟩
    · rw [setA_ne _ _ (ne k hk)]
      refine ⟨List.mem_append_left _ (b k hk).1, ?_, ?_⟩
      · exact (va_up_ne _ _ (az k hk)).trans (b k hk).2.1
      · exact (va_up_ne _ _ (az k hk)).trans (b k hk).2.2
  · rcases List.mem_cons.mp hi with e1 | hi1 <;> rcases List.mem_cons.mp hk with e2 | hk1
    · rw [e1, e2]
    · rw [e1, setA_at, setA_ne _ _ (ne k hk1)] at q; exact absurd q.symm (az k hk1)
    · rw [e2, setA_at, setA_ne _ _ (ne i hi1)] at q; exact absurd q (az i hi1)
    · rw [setA_ne _ _ (ne i hi1), setA_ne _ _ (ne k hk1)] at q; exact c i hi1 k hk1 q
  · rcases List.mem_cons.mp hk with rfl | hk
    · rw [setA_at]; exact z0
    · rw [setA_ne _ _ (ne k hk)]; exact d k hk k0
  · have ep := e p hp
    refine ⟨List.mem_cons_of_mem _ ep.1, ?_⟩
    rw [setA_ne _ _ (ne _ ep.1), nA_r _ _ _ (az _ ep.1)]
    rcases ep.2 with ⟨k, k1, k2, k3⟩ | k1
    · exact Or.inl ⟨k, List.mem_cons_of_mem _ k1, k2, by rw [setA_ne _ _ (ne k k1)]; exact k3⟩
    · exact Or.inr k1
  · rcases List.mem_cons.mp hk with rfl | hk
    · rw [setA_at]; exact congrFun (va_up_self _ _ _) j
    · rw [setA_ne _ _ (ne k hk), nA_i _ _ _ (az k hk)]; exact f k hk kz j
theorem MDE.in0 (h : MDE D S0 U L G adr) {n : Nat} (hn : n ∈ L) : wM D S0 (adr n) → adr n ∈ [adr 0] := fun w => by
  by_cases z : n = 0
  · rw [z]; simp
  · exact absurd w (h.2.2.2.1 n hn z)
theorem MDE.wI (h : MDE D S0 U L G adr) {n : Nat} (hn : n ∈ L) (j : Nat) (v : Int32) (hz : n ∉ ZL ∨ v = 0) : MDE D S0 (uI U (adr n) j v) L G adr := by
  obtain ⟨a, b, c, d, e, f⟩ := id h
  refine ⟨a.uI (h.in0 hn) j v, b, c, d, e, fun k hk kz i => ?_⟩
  by_cases q : k = n
  · subst q
    rcases hz with hz | hz
    · exact absurd kz hz
    · by_cases w : i = j
      · rw [w, uI_self]; exact hz
      · rw [uI_j _ _ _ w]; exact f k hk kz i
  · rw [uI_a _ _ _ (fun w => q (c k hk n hn w))]; exact f k hk kz i
theorem MDE.wJ (h : MDE D S0 U L G adr) {n : Nat} (hn : n ∈ L) (j : Nat) (v : Int64) : MDE D S0 (uJ U (adr n) j v) L G adr := by
  obtain ⟨a, b, c, d, e, f⟩ := id h
  exact ⟨a.uJ (h.in0 hn) j v, b, c, d, e, f⟩
theorem MDE.wR (h : MDE D S0 U L G adr) {n : Nat} (hn : n ∈ L) {f : Nat} (hf : (n, f) ∉ G) {v : Nat} (hv : (∃ k, k ∈ L ∧ sfx n f = some k ∧ v = adr k) ∨ (sfx n f = none ∧ v = D.2.2.1 106)) : MDE D S0 (uR U (adr n) f (some v)) L ((n, f) :: G) adr := by
  obtain ⟨a, b, c, d, e, g⟩ := id h
  refine ⟨a.uR (h.in0 hn) f (some v), b, c, d, fun p hp => ?_, g⟩
  rcases List.mem_cons.mp hp with rfl | hp
  · refine ⟨hn, ?_⟩
    rw [uR_self]
    rcases hv with ⟨k, k1, k2, k3⟩ | ⟨k1, k2⟩
    · exact Or.inl ⟨k, k1, k2, by rw [k3]⟩
    · exact Or.inr ⟨k1, by rw [k2]⟩
  · have ep := e p hp
    refine ⟨ep.1, ?_⟩
    have er : sR (uR U (adr n) f (some v)) (adr p.1) p.2 = sR U (adr p.1) p.2 := by
      by_cases q : p.1 = n
      · have : p.2 ≠ f := fun w => hf (by rw [← q, ← w]; exact hp)
        rw [q, uR_j _ _ _ this]
      · rw [uR_a _ _ _ (fun w => q (c _ ep.1 n hn w))]
    rw [er]
    exact ep.2
theorem MDE.ref (h : MDE D S0 U L G adr) {n f k : Nat} (hn : n ∈ L) (hk : k ∈ L) (hf : (n, f) ∉ G) (hs : sfx n f = some k) : MDE D S0 (uR U (adr n) f (some (adr k))) L ((n, f) :: G) adr := h.wR hn hf (Or.inl ⟨k, hk, hs, rfl⟩)
theorem MDE.r (h : MDE D S0 U L G adr) {n f k : Nat} (hp : (n, f) ∈ G) (hs : sfx n f = some k) : sR U (adr n) f = some (adr k) ∧ wM D U (adr k) ∧ sK U (adr k) = ckx k := by
  obtain ⟨e1, e2⟩ := h.2.2.2.2.1 (n, f) hp
  rcases e2 with ⟨k', k1, k2, k3⟩ | k1
  · have k2 : sfx n f = some k' := k2
    rw [hs] at k2
    injection k2 with k2
    subst k2
    exact ⟨k3, h.m k1, (h.2.1 k k1).2.1⟩
  · have k1 : sfx n f = none := k1.1
    rw [hs] at k1; exact absurd k1 (by simp)
/-- the cells' values as they stand -/
def c0U (U : wS) (o : Nat → Nat) : cM := (fun n j => (sI U (o n) j.toNat).toInt, fun n j => sJ U (o n) j.toNat)
theorem c0U_self (U : wS) (o : Nat → Nat) : U = cS U o (c0U U o) := by
  have e1 : U.2.2.2.1 = (cS U o (c0U U o)).2.2.2.1 := by
    funext a j
    show _ = (match cRow o a with | some n => iI ((c0U U o).1 n (j : Int)) | none => U.2.2.2.1 a j)
    cases hq : cRow o a with
    | none => rfl
    | some g =>
      have ha : o g = a := by simpa using List.find?_some hq
      show _ = iI ((sI U (o g) ((j : Int)).toNat).toInt)
      rw [iI_of, ha, Int.toNat_natCast]
  have e2 : U.2.2.2.2.1 = (cS U o (c0U U o)).2.2.2.2.1 := by
    funext a j
    show _ = (match cRow o a with | some n => (c0U U o).2 n (j : Int) | none => U.2.2.2.2.1 a j)
    cases hq : cRow o a with
    | none => rfl
    | some g =>
      have ha : o g = a := by simpa using List.find?_some hq
      show _ = sJ U (o g) ((j : Int)).toNat
      rw [ha, Int.toNat_natCast]
  show _ = (U.1, U.2.1, U.2.2.1, (cS U o (c0U U o)).2.2.2.1, (cS U o (c0U U o)).2.2.2.2.1, U.2.2.2.2.2)
  rw [← e1, ← e2]
/-- the pairs of objects and fields that name objects -/
def sfG : List (Nat × Nat) := (List.range 52).flatMap fun n => (List.range 16).filterMap fun f => if (sfr n f).isSome then some (n, f) else none
theorem sfr_G : ∀ n f k, sfr n f = some k → (n, f) ∈ sfG := by
  intro n f k h
  unfold sfr at h
  split at h <;> first | decide | exact absurd h (by simp)
theorem sfr_x {n f k : Nat} (h : sfr n f = some k) : sfx n f = some k := by
  unfold sfr at h
  split at h <;> first | exact h | exact absurd h (by simp)
theorem MDE.cc (h : MDE D S0 U L G adr) (hL : ∀ n, n < 52 → n ∈ L) (hG : ∀ p ∈ sfG, p ∈ G) : CC D U adr := by
  refine ⟨fun n hn => ?_, fun n hn k hk q => h.2.2.1 n (hL n hn) k (hL k hk) q, fun n f k hs => (h.r (hG _ (sfr_G n f k hs)) (sfr_x hs)).1⟩
  have b := h.2.1 n (hL n hn)
  refine ⟨b.1, ?_, ?_⟩
  · rw [b.2.1]; exact if_pos hn
  · rw [b.2.2]; exact if_pos hn
end
