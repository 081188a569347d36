/-! PHASE 4: what every proper position has -/
/-- the board -/
abbrev BFR (F R : Int) : Prop := (4 ≤ F ∧ F ≤ 8) ∧ 4 ≤ R ∧ R ≤ 8
section
variable {F R : Int} {t : Int → Int} {v : Int → Int} {m : xM} {c : cM} {L : List Int}
theorem PV.few (b : BFR F R) (h : PV F R v) : few F R v := few_PV b.1.1 b.1.2 b.2.1 b.2.2 h
theorem PV.mk (b : BFR F R) (h : PV F R v) {t : Mv} (ht : t ∈ movesL F R v) : PV F R (mkT F R v t) := by
  have hn := FR_r b.1.1 b.1.2 b.2.1 b.2.2
  exact PV_mk b.1.1 b.1.2 b.2.1 b.2.2 h (movesL_mem (by omega) ht)
theorem PV.few3 (b : BFR F R) (h : PV F R v) : few3 F R v :=
  ⟨h.few b, fun _ ht => (h.mk b ht).few b, fun _ ht _ hu => ((h.mk b ht).mk b hu).few b⟩
theorem PV.kg (b : BFR F R) (h : PV F R v) {s : Int} (hs : s = 0 ∨ s = 1) : kingB F R v s < F * R := by
  have hn := FR_r b.1.1 b.1.2 b.2.1 b.2.2
  exact (kings_of (by omega) h.2.2.2.2 hs).1
theorem PV.mv (b : BFR F R) (h : PV F R v) : mvOK F R v := by
  refine ⟨goodG_of b.1.1 b.1.2 b.2.1 b.2.2 h.1 h.2.1 h.2.2.2.1.w (h.kg b (by have := h.1.s; omega)), ?_⟩
  have := h.few b
  omega
theorem PV.st (b : BFR F R) (h : PV F R v) : stOK F R v := ⟨h.1, h.mv b, h.kg b (by have := h.1.s; omega)⟩
theorem PV.deep (b : BFR F R) : ∀ (n : Nat) (v : Int → Int), PV F R v → deepOK F R n v
  | 0, v, h => ⟨h.st b, h.2.1⟩
  | n + 1, v, h => ⟨⟨h.st b, h.2.1⟩, fun _ ht => PV.deep b n _ (h.mk b ht)⟩
theorem PV.gp (b : BFR F R) : GPc F R (PV F R) := fun _ h => ⟨h.1, h.2.1, h.mv b, fun _ ht => ⟨(h.mk b ht).st b, h.mk b ht⟩⟩
theorem pas_epS (b : BFR F R) (hv : okV F R v) (h : pasB F R v = true) : epS F R v := by
  have hn := FR_r b.1.1 b.1.2 b.2.1 b.2.2
  unfold pasB at h
  rw [Bool.or_eq_true, decide_eq_true_eq] at h
  rcases h with h | h
  · exact .inl h
  · simp only [Bool.and_eq_true, decide_eq_true_eq, Bool.not_eq_true', decide_eq_false_iff_not] at h
    obtain ⟨⟨⟨⟨⟨h1, h2⟩, h3⟩, h4⟩, h5⟩, h6⟩ := h
    by_cases z : v 66 = -1
    · exact .inl z
    · right
      have e66 := hv.2.2.2
      have q0 : 0 ≤ v 66 ∧ v 66 < F * R := by omega
      obtain ⟨x, y, e⟩ := fr_of b.1.1 q0
      have hs : v 64 = 0 ∨ v 64 = 1 := by have := hv.s; omega
      have eu : upB (1 - v 64) = - upB (v 64) := by unfold upB; rcases hs with z | z <;> simp [z]
      rw [eu, Int.neg_mul] at h5
      rw [show v 66 + -(upB (v 64) * F) = v 66 - upB (v 64) * F by omega] at h5
      refine ⟨⟨q0, ?_⟩, h3, h5⟩
      unfold upB firstB at *
      rcases hs with z | z <;> simp only [z] at h2 ⊢ <;> simp at h2 ⊢
      · have g1 : F * (v 66 / F + 1) ≤ F * (R - 1) := Int.mul_le_mul_of_nonneg_left (by omega) (by omega)
        rw [Int.mul_add, Int.mul_one, Int.mul_sub, Int.mul_one] at g1
        omega
      · have g1 : F * 3 ≤ F * (v 66 / F) := Int.mul_le_mul_of_nonneg_left (by omega) (by omega)
        omega
theorem rdP_ok (b : BFR F R) {len : Int} {u : Int → Int} (h : rdP F R t len = some u) : okV F R u ∧ clV u := by
  have hn := FR_r b.1.1 b.1.2 b.2.1 b.2.2
  unfold rdP at h
  cases e : rdS F R t R.toNat 0 (fun _ => 0) with
  | none => rw [e] at h; exact nomatch h
  | some x =>
    obtain ⟨a, u1⟩ := x
    rw [e] at h
    dsimp only at h
    rw [Option.some.injEq] at h
    rw [← h]
    exact rdE_ok b.1.1 b.1.2 hn.1 t len a (rdS_sq b.1.1 b.1.2 b.2.2 t _ _ _ (by omega) ⟨fun k _ _ => by simp, fun k _ => rfl⟩ _ _ e)
theorem pap_eq2 (hB : BG c F R) (hX : XB m F R) (hlen : m 50 13 = L.length) (hm : ∀ k : Int, 0 ≤ k → k < L.length → m 12 k = tx L k) :
    papB F R m = if okB F R L = true then some (rcB F R (tx L)) else none :=
  pap_eq hB hX hlen hm fun _ h => rdP_ok ⟨⟨hX.f4, hX.f8⟩, hX.r4, hX.r8⟩ h
end
