/-! PHASE 3: a new game -/
section
variable {D : wD} {U : wS}
theorem nA_k (U : wS) (q k n : Nat) : sK (nA U q k n) q = k := va_up_self _ _ _
theorem nA_n (U : wS) (q k n : Nat) : sN (nA U q k n) q = n := va_up_self _ _ _
theorem nA_l (U : wS) (q k n : Nat) : q ∈ sL (nA U q k n) := List.mem_append_right _ (List.mem_singleton.mpr rfl)
theorem nA_i (U : wS) {q b : Nat} (k n : Nat) (h : b ≠ q) : sI (nA U q k n) b = sI U b := va_up_ne _ _ h
theorem nA_r (U : wS) {q b : Nat} (k n : Nat) (h : b ≠ q) : sR (nA U q k n) b = sR U b := va_up_ne _ _ h
/-- a new game with its rows -/
abbrev NG (D : wD) (U V : wS) (g y0 y1 y2 : Nat) (n : Int) : Prop := EX D U V [] ∧ (¬ wM D U g ∧ ¬ wM D U y0 ∧ ¬ wM D U y1 ∧ ¬ wM D U y2) ∧ (g ∈ sL V ∧ sK V g = 8) ∧ (sR V g 0 = some y0 ∧ y0 ∈ sL V ∧ sK V y0 = 22 ∧ (sN V y0 : Int) = (n + 1) * 5) ∧
  (sR V g 1 = some y1 ∧ y1 ∈ sL V ∧ sK V y1 = 21 ∧ (sN V y1 : Int) = n) ∧ (sR V g 2 = some y2 ∧ y2 ∈ sL V ∧ sK V y2 = 23 ∧ (sN V y2 : Int) = n + 1) ∧ sI V g 7 = iI 0 ∧ sI V g 8 = iI 0
theorem q_newGame {post : wS → Prop} {bc bs : Nat} {n : Int} (hn : 0 ≤ n ∧ n ≤ 80) {g : Nat} (hg : ¬ wM D U g) {U1 : wS} (e0 : U1 = nA U g 8 0) (hb : 3 ≤ bc ∧ 7 * n + 6 ≤ (bs : Int)) (k : ∀ V y0 y1 y2, NG D U V g y0 y1 y2 n → post V) : wp_X3_init D post bc bs U1 g (iI n) := by
  unfold wp_X3_init wp_X3_init_0
  intro S1 e1 S2 e2 S3 e3 S4 e4 S5 e5 S6 e6
  have E0 : EX D U U1 [] := by rw [e0]; exact EX.rf.nA hg _ _
  have gw : wM D U g → g ∈ ([] : List Nat) := fun z => absurd z hg
  have E6 : EX D U S6 [] := by
    rw [e6, e5, e4, e3, e2, e1]
    exact (((((E0.uI gw _ _).uI gw _ _).uI gw _ _).uI gw _ _).uI gw _ _).uI gw _ _
  have l6 : sL S6 = sL U1 := by rw [e6, e5, e4, e3, e2, e1]; rfl
  have k6 : sK S6 = sK U1 := by rw [e6, e5, e4, e3, e2, e1]; rfl
  have g6 : g ∈ sL S6 ∧ sK S6 g = 8 := by rw [l6, k6, e0]; exact ⟨nA_l _ _ _ _, nA_k _ _ _ _⟩
  have i7 : sI S6 g 7 = iI 0 := by rw [e6, uI_j _ _ _ (by decide), e5, uI_self]; rfl
  have i8 : sI S6 g 8 = iI 0 := by rw [e6, uI_self]; rfl
  intro x7 ex7
  have ex7 : x7 = iI n := by rw [ex7]; exact if_neg (fun q => absurd ((iI_lt (a := n) (b := 0) (by omega) (by omega) (by decide) (by decide)).mp q) (by omega))
  rw [ex7, show (1 : Int32) = iI 1 from rfl, iI_add, show (5 : Int32) = iI 5 from rfl, iI_mul, show (0 : Int32) = iI 0 from rfl, iI_lt (by omega) (by omega) (by decide) (by decide), iI_lt (by omega) (by omega) (by decide) (by decide), iI_lt (by omega) (by omega) (by decide) (by decide)]
  have c1 : ((iI ((n + 1) * 5)).toNatClampNeg : Int) = (n + 1) * 5 := iI_nat (by omega) (by omega)
  have c2 : ((iI n).toNatClampNeg : Int) = n := iI_nat (by omega) (by omega)
  have c3 : ((iI (n + 1)).toNatClampNeg : Int) = n + 1 := iI_nat (by omega) (by omega)
  refine ⟨by omega, by omega, by omega, by omega, fun y8 hy8 S9 e9 S11 e11 => ⟨by omega, by omega, by omega, by omega, fun y12 hy12 S13 e13 S15 e15 => ⟨by omega, by omega, by omega, by omega, fun y16 hy16 S17 e17 S19 e19 => ?_⟩⟩⟩
  have m6 : wM D S6 g := Or.inl g6.1
  have E9 : EX D S6 S9 [] := by rw [e9]; exact EX.rf.nA hy8 _ _
  have E11 : EX D S6 S11 [g] := by rw [e11]; exact (E9.mono (fun a _ z => by simp at z)).uR (fun _ => by simp) _ _
  have E13 : EX D S11 S13 [] := by rw [e13]; exact EX.rf.nA hy12 _ _
  have E15 : EX D S11 S15 [g] := by rw [e15]; exact (E13.mono (fun a _ z => by simp at z)).uR (fun _ => by simp) _ _
  have E17 : EX D S15 S17 [] := by rw [e17]; exact EX.rf.nA hy16 _ _
  have E19 : EX D S15 S19 [g] := by rw [e19]; exact (E17.mono (fun a _ z => by simp at z)).uR (fun _ => by simp) _ _
  have l8 : y8 ∈ sL S11 := by rw [e11]; show y8 ∈ sL S9; rw [e9]; exact nA_l _ _ _ _
  have k8 : sK S11 y8 = 22 ∧ (sN S11 y8 : Int) = (n + 1) * 5 := by
    have a : sK S11 y8 = 22 := by rw [e11]; show sK S9 y8 = _; rw [e9]; exact nA_k _ _ _ _
    have b : sN S11 y8 = (iI ((n + 1) * 5)).toNatClampNeg := by rw [e11]; show sN S9 y8 = _; rw [e9]; exact nA_n _ _ _ _
    exact ⟨a, by rw [b]; exact c1⟩
  have l12 : y12 ∈ sL S15 := by rw [e15]; show y12 ∈ sL S13; rw [e13]; exact nA_l _ _ _ _
  have k12 : sK S15 y12 = 21 ∧ (sN S15 y12 : Int) = n := by
    have a : sK S15 y12 = 21 := by rw [e15]; show sK S13 y12 = _; rw [e13]; exact nA_k _ _ _ _
    have b : sN S15 y12 = (iI n).toNatClampNeg := by rw [e15]; show sN S13 y12 = _; rw [e13]; exact nA_n _ _ _ _
    exact ⟨a, by rw [b]; exact c2⟩
  have l16 : y16 ∈ sL S19 := by rw [e19]; show y16 ∈ sL S17; rw [e17]; exact nA_l _ _ _ _
  have k16 : sK S19 y16 = 23 ∧ (sN S19 y16 : Int) = n + 1 := by
    have a : sK S19 y16 = 23 := by rw [e19]; show sK S17 y16 = _; rw [e17]; exact nA_k _ _ _ _
    have b : sN S19 y16 = (iI (n + 1)).toNatClampNeg := by rw [e19]; show sN S17 y16 = _; rw [e17]; exact nA_n _ _ _ _
    exact ⟨a, by rw [b]; exact c3⟩
  have g8 : g ≠ y8 := fun z => hy8 (z ▸ m6)
  have g11 : g ∈ sL S11 := E11.L g6.1
  have g15 : g ∈ sL S15 := E15.L g11
  have g19 : g ∈ sL S19 := E19.L g15
  have g12 : g ≠ y12 := fun z => hy12 (z ▸ Or.inl g11)
  have g16 : g ≠ y16 := fun z => hy16 (z ▸ Or.inl g15)
  have iS : sI S19 g = sI S6 g := by
    rw [e19]; show sI S17 g = _
    rw [e17, nA_i _ _ _ g16, e15]; show sI S13 g = _
    rw [e13, nA_i _ _ _ g12, e11]; show sI S9 g = _
    rw [e9, nA_i _ _ _ g8]
  have t11 : sR S11 g 0 = some y8 := by rw [e11, uR_self]
  have t15 : sR S15 g 0 = some y8 ∧ sR S15 g 1 = some y12 := by
    rw [e15, uR_j _ _ _ (by decide), uR_self, e13, nA_r _ _ _ g12]; exact ⟨t11, rfl⟩
  have t19 : sR S19 g 0 = some y8 ∧ sR S19 g 1 = some y12 ∧ sR S19 g 2 = some y16 := by
    rw [e19, uR_j _ _ _ (by decide), uR_j _ _ _ (by decide), uR_self, e17, nA_r _ _ _ g16]; exact ⟨t15.1, t15.2, rfl⟩
  have EU : EX D U S19 [] := ⟨((E6.1.trans E11.1).trans E15.1).trans E19.1, fun a ha _ => by
    have ag : a ∉ [g] := fun z => hg (List.mem_singleton.mp z ▸ ha)
    have h6 := E6.2 a ha (by simp)
    have h11 := E11.2 a (E6.M ha) ag
    have h15 := E15.2 a (E11.M (E6.M ha)) ag
    have h19 := E19.2 a (E15.M (E11.M (E6.M ha))) ag
    exact ⟨h19.1.trans (h15.1.trans (h11.1.trans h6.1)), h19.2.1.trans (h15.2.1.trans (h11.2.1.trans h6.2.1)), h19.2.2.trans (h15.2.2.trans (h11.2.2.trans h6.2.2))⟩⟩
  refine k S19 y8 y12 y16 ⟨EU, ⟨hg, fun z => hy8 (E6.M z), fun z => hy12 (E11.M (E6.M z)), fun z => hy16 (E15.M (E11.M (E6.M z)))⟩, ⟨g19, ?_⟩, ⟨t19.1, E19.L (E15.L l8), ?_, ?_⟩, ⟨t19.2.1, E19.L l12, ?_, ?_⟩, ⟨t19.2.2, l16, k16.1, k16.2⟩, by rw [iS]; exact i7, by rw [iS]; exact i8⟩
  · rw [E19.k (Or.inl g15), E15.k (Or.inl g11), E11.k m6]; exact g6.2
  · rw [E19.k (E15.M (Or.inl l8)), E15.k (Or.inl l8)]; exact k8.1
  · rw [E19.n (E15.M (Or.inl l8)), E15.n (Or.inl l8)]; exact k8.2
  · rw [E19.k (Or.inl l12)]; exact k12.1
  · rw [E19.n (Or.inl l12)]; exact k12.2
end
