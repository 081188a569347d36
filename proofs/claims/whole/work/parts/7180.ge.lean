/-! PHASE 3: the reader opens brackets, takes tokens -/
section
variable {D : wD} {S U : wS} {o : Nat → Nat} {c : cM}
def opnM (c : cM) (d : Int) (u : Int → Int) : cM := cI (putS (cI (putP c 23 u) 22 6 (d + 1)) 24 (d + 1) u) 26 (d + 1) 0
def opnS (s : RD) : RD := (s.1 + 1, setR s.2.1 (s.1 + 1) (s.2.2.1 s.1), s.2.2.1, setR s.2.2.2.1 (s.1 + 1) 0, s.2.2.2.2)
theorem opnM_1 (c : cM) (d : Int) (u : Int → Int) {r : Nat} {j : Int} (h : r ≠ 23 ∧ (r ≠ 22 ∨ j ≠ 6) ∧ (r ≠ 26 ∨ j ≠ d + 1)) : (opnM c d u).1 r j = c.1 r j := by
  unfold opnM
  rw [cI_1, up_ne _ h.2.2, putS_i, cI_1, up_ne _ h.2.1, putP_1 _ _ h.1]
theorem opnM_RDC {s : RD} (hR : RDC c s) (h4 : s.1 < 4) (hl0 : s.2.2.2.1 s.1 ≠ 0) : RDC (opnM c s.1 (s.2.2.1 s.1)) (opnS s) := by
  obtain ⟨⟨h6, hd⟩, hn, hl, hli, h8, h9, h10⟩ := id hR
  have hu := (hl s.1 hd.1 (Int.le_refl _)).2.2 hl0
  have rs : ∀ (r : Nat) (i : Int) (w : Int → Int), r ≠ 23 → r ≠ 24 → RS c r i w → RS (opnM c s.1 (s.2.2.1 s.1)) r i w := fun r i w a1 a2 hh => by
    have e : ∀ j, (opnM c s.1 (s.2.2.1 s.1)).2 r j = c.2 r j := fun j => by
      unfold opnM
      rw [cI_2, putS_r _ _ _ a2, cI_2, putP_2 _ _ a1]
    unfold RS
    rw [e, e, e, e, e]; exact hh
  refine ⟨⟨?_, by show 0 ≤ s.1 + 1; omega, by show s.1 + 1 ≤ 4; omega⟩, fun d d0 d1 => ?_, fun d d0 d1 => ?_, ⟨?_, fun k hk => ?_⟩, ?_, ?_, ?_⟩
  · unfold opnM
    rw [cI_1, up_ne _ (Or.inl (by decide)), putS_i, cI_1, up_at]; rfl
  · show RS _ 24 d (setR s.2.1 (s.1 + 1) (s.2.2.1 s.1) d) ∧ rgV (setR s.2.1 (s.1 + 1) (s.2.2.1 s.1) d)
    unfold setR
    by_cases q : d = s.1 + 1
    · rw [if_pos q, q]
      refine ⟨?_, hu.2⟩
      exact putS_at _ 24 (s.1 + 1) _
    · rw [if_neg q]
      have d1 : d ≤ s.1 + 1 := d1
      have := hn d d0 (by omega)
      refine ⟨?_, this.2⟩
      have e : RS (cI (putP c 23 (s.2.2.1 s.1)) 22 6 (s.1 + 1)) 24 d (s.2.1 d) := by
        unfold RS
        rw [cI_2, putP_2 _ _ (by decide)]; exact this.1
      exact RS.putS _ e q
  · show _ = setR s.2.2.2.1 (s.1 + 1) 0 d ∧ (0 ≤ setR s.2.2.2.1 (s.1 + 1) 0 d ∧ setR s.2.2.2.1 (s.1 + 1) 0 d ≤ 500) ∧ (setR s.2.2.2.1 (s.1 + 1) 0 d ≠ 0 → _)
    unfold setR
    by_cases q : d = s.1 + 1
    · rw [if_pos q, q]
      exact ⟨by unfold opnM; rw [cI_1, up_at], by decide, fun z => absurd rfl z⟩
    · rw [if_neg q]
      have d1 : d ≤ s.1 + 1 := d1
      have := hl d d0 (by omega)
      refine ⟨?_, this.2.1, fun z => ⟨rs 25 d _ (by decide) (by decide) (this.2.2 z).1, (this.2.2 z).2⟩⟩
      rw [opnM_1 _ _ _ ⟨by decide, Or.inl (by decide), Or.inr q⟩]; exact this.1
  · show ((s.2.2.2.2.1.length : Nat) : Int) = setR s.2.2.2.1 (s.1 + 1) 0 0
    unfold setR
    rw [if_neg (by omega)]; exact hli.1
  · rw [opnM_1 _ _ _ ⟨by decide, Or.inl (by decide), Or.inl (by decide)⟩]; exact hli.2 k hk
  · rw [opnM_1 _ _ _ ⟨by decide, Or.inr (by decide), Or.inl (by decide)⟩]; exact h8
  · rw [opnM_1 _ _ _ ⟨by decide, Or.inr (by decide), Or.inl (by decide)⟩]; exact h9
  · rw [opnM_1 _ _ _ ⟨by decide, Or.inr (by decide), Or.inl (by decide)⟩]; exact h10
theorem q_opens {post : Int32 → wS → Prop} (h : CC D S o) {s : RD} (hR : RDC c s) (k0 : (4 ≤ s.1 ∨ s.2.2.2.1 s.1 = 0) → post (iI 0) (cS S o c)) (k1 : s.1 < 4 → s.2.2.2.1 s.1 ≠ 0 → post (iI 1) (cS S o (opnM c s.1 (s.2.2.1 s.1)))) : wp_X5_opens D post (cS S o c) (o 22) := by
  obtain ⟨⟨h6, hd⟩, hn, hl, hli, h8, h9, h10⟩ := id hR
  have hle := hl s.1 hd.1 (Int.le_refl _)
  have e6 : sI (cS S o c) (o 22) 6 = iI s.1 := by rw [c_i0 h (by decide), show c.1 22 ((6 : Nat) : Int) = s.1 from h6]
  unfold wp_X5_opens wp_X5_opens_0 wp_X5_opens_29
  rw [e6, show (0 : Int32) = iI 0 from rfl, show (5 : Int32) = iI 5 from rfl, show (1 : Int32) = iI 1 from rfl, iI_add, iI_lt (by omega) (by omega) (by decide) (by decide), iI_le (by decide) (by decide) (by omega) (by omega)]
  refine ⟨fun q => absurd q (by omega), fun _ => ⟨fun q => ⟨rfl, k0 (Or.inl (by omega))⟩, fun q4 => ⟨o 26, c_r h rfl, (c_m h (by decide)).mpr trivial, c_k h (by decide), iI_in (by omega) (by omega) (by rw [c_n h (by decide)]; show s.1 < ((5 : Nat) : Int); omega), ?_⟩⟩⟩
  rw [c_i h (by decide) (by omega) (by omega), hle.1, iI_eq (by omega) (by omega) (by decide) (by decide)]
  refine ⟨fun q => ?_, fun q => ⟨rfl, k0 (Or.inr q)⟩⟩
  have hu := hle.2.2 q
  refine ⟨o 23, c_r h rfl, (c_m h (by decide)).mpr trivial, c_k h (by decide), o 25, c_r h rfl, (c_m h (by decide)).mpr trivial, c_k h (by decide), ?_⟩
  refine q_load h (p := 23) (by decide) (w := s.2.2.1 s.1) (fun c' hc => by funext j; rw [c_j0 h (by decide), c_j0 h (by decide), hc 25 (by decide)]) hu.2 (RS.sv h (by decide) ⟨hd.1, by omega⟩ hu.1) (by have e : sN S (o 25) = 25 := c_n (c := c) h (by decide); rw [e]; omega) (by have e : sN S (o 25) = 25 := c_n (c := c) h (by decide); rw [e]; decide) ?_
  intro S10 e10
  have e6' : sI (cS S o (putP c 23 (s.2.2.1 s.1))) (o 22) 6 = iI s.1 := by rw [c_i0 h (by decide), show (putP c 23 (s.2.2.1 s.1)).1 22 ((6 : Nat) : Int) = s.1 from by rw [putP_1 _ _ (by decide)]; exact h6]
  rw [e6', iI_add, c_u1 h (by decide) (show ((6 : Nat) : Int) = 6 from rfl)] at e10
  rw [e10]
  have e66 : sI (cS S o (cI (putP c 23 (s.2.2.1 s.1)) 22 6 (s.1 + 1))) (o 22) 6 = iI (s.1 + 1) := by rw [c_i0 h (by decide), show (cI (putP c 23 (s.2.2.1 s.1)) 22 6 (s.1 + 1)).1 22 ((6 : Nat) : Int) = s.1 + 1 from by rw [cI_1]; exact up_at _ _ _ _]
  refine ⟨o 23, c_r h rfl, (c_m h (by decide)).mpr trivial, c_k h (by decide), o 24, c_r h rfl, (c_m h (by decide)).mpr trivial, c_k h (by decide), ?_⟩
  rw [e66]
  have hA23 : PAt (cI (putP c 23 (s.2.2.1 s.1)) 22 6 (s.1 + 1)) 23 (s.2.2.1 s.1) := by
    have z := putP_at c 23 (s.2.2.1 s.1)
    have i1 : ∀ j, (cI (putP c 23 (s.2.2.1 s.1)) 22 6 (s.1 + 1)).1 23 j = (putP c 23 (s.2.2.1 s.1)).1 23 j := fun j => by rw [cI_1, up_ne _ (Or.inl (by decide))]
    unfold PAt
    rw [i1, i1, i1, cI_2]; exact z
  refine q_save h (by decide) (by decide) (by decide) hA23 hu.2 (i := s.1 + 1) (by show 0 ≤ s.1 + 1 ∧ (s.1 + 1) * 5 + 5 ≤ ((25 : Nat) : Int); omega) (by decide) ?_
  have e67 : sI (cS S o (putS (cI (putP c 23 (s.2.2.1 s.1)) 22 6 (s.1 + 1)) 24 (s.1 + 1) (s.2.2.1 s.1))) (o 22) 6 = iI (s.1 + 1) := by rw [c_i0 h (by decide), show (putS (cI (putP c 23 (s.2.2.1 s.1)) 22 6 (s.1 + 1)) 24 (s.1 + 1) (s.2.2.1 s.1)).1 22 ((6 : Nat) : Int) = s.1 + 1 from by rw [putS_i, cI_1]; exact up_at _ _ _ _]
  rw [e67]
  refine ⟨o 26, c_r h rfl, (c_m h (by decide)).mpr trivial, c_k h (by decide), (c_l h (by decide)).mpr trivial, iI_in (by omega) (by omega) (by rw [c_n h (by decide)]; show s.1 + 1 < ((5 : Nat) : Int); omega), fun S17 e17 => ⟨rfl, ?_⟩⟩
  have en : ((iI (s.1 + 1)).toNatClampNeg : Int) = s.1 + 1 := iI_nat (by omega) (by omega)
  rw [c_u1 h (by decide) en] at e17
  rw [e17]
  exact k1 (by omega) q
end
