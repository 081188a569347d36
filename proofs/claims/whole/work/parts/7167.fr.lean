/-! PHASE 3: a paper's squares are read -/
section
variable {D : wD} {S : wS} {o : Nat → Nat} {c : cM} {F R : Int} {v w : Int → Int} {xp : String → wS → Prop}
def pR (c : cM) (w : Int → Int) (a : Int) : cM := putP (cI c 28 2 a) 12 w
theorem pR_a (c : cM) (w : Int → Int) (a : Int) : (pR c w a).1 28 2 = a := by
  unfold pR
  rw [putP_1 _ w (by decide), cI_1, up_at]
theorem pR_n (c : cM) (w : Int → Int) (a b : Int) : cI (pR c w a) 28 2 b = pR c w b := by
  unfold pR
  refine Prod.ext ?_ ?_
  · funext n j
    rw [cI_1]
    by_cases h : n = 28 ∧ j = 2
    · rw [h.1, h.2, up_at]
      simp [putP, cI_1, up_at]
    · have h' : n ≠ 28 ∨ j ≠ 2 := by omega
      rw [up_ne _ h']
      simp only [putP, cI_1]
      rw [up_ne _ h', up_ne _ h']
  · funext n j
    rw [cI_2]
    simp only [putP, cI_2]
theorem BG.cI28 (hB : BG c F R) (j a : Int) : BG (cI c 28 j a) F R := by
  have e : ∀ n : Nat, n < 10 → (cI c 28 j a).1 n = c.1 n := fun n hn => by
    funext i; rw [cI_1, up_ne _ (Or.inl (by omega))]
  unfold BG
  rw [e 1 (by decide), e 2 (by decide), e 3 (by decide)]
  exact hB
theorem BG.pR (hB : BG c F R) (w : Int → Int) (a : Int) : BG (pR c w a) F R := BG.put (hB.cI28 2 a) (by decide) w
def idxC (x : Int) : Int := firstL (fun i => decide (pcsL.getD i.toNat 0 = x)) 0 13
theorem idxC_r (x : Int) : -1 ≤ idxC x ∧ idxC x ≤ 12 := by
  have := firstL_r (fun i => decide (pcsL.getD i.toNat 0 = x)) 13 0
  unfold idxC; omega
/-- a rank read: where the reader stands behind it, and the squares -/
def rcF (F r : Int) (t : Int → Int) : Nat → Int → Int → (Int → Int) → Int × (Int → Int)
  | 0, _, a, w => (a, w)
  | n + 1, f, a, w => if F ≤ f then (a, w) else if 0 < idxC (t a) then rcF F r t n (f + 1) (a + 1) (upV w (r * F + f) (idxC (t a))) else if 49 < t a ∧ t a ≤ 56 then rcF F r t n (f + (t a - 49) + 1) (a + 1) w else rcF F r t n (f + 1) (a + 1) w
theorem q_rc_17 {post : wS → Prop} (h : CC D S o) (hB : BG c F R) (hP : ∀ c, ST D (cS S o c) (D.2.2.1 1) pcsL) {y : Nat} {L : List Int} (hT : SB (cS S o c) (o 49) y L) (hc : sN S y < 1000000) {k10 : wS → Nat → Nat → Nat → Int32 → Prop} {r : Int} (hr : 0 ≤ r ∧ r < R) :
    ∀ (n : Nat) (f a : Int) (w : Int → Int), 1 ≤ n → F < n + f → 0 ≤ f ∧ f < 16 → 0 ≤ a ∧ a + n < 200 →
    (∀ b u, rcF F r (tx L) n f a w = (b, u) → k10 (cS S o (pR c u (b + 1))) (o 28) (o 49) (o 12) (iI (r - 1))) → wp_X6_readSquares_17 D post k10 n (cS S o (pR c w a)) (o 28) (o 49) (o 12) (iI r) (iI f) := by
  have h4 := hB.2.1.1; have h8 := hB.2.1.2.1; have r4 := hB.2.1.2.2.1; have r8 := hB.2.1.2.2.2
  have hm := hB.m
  intro n
  induction n with
  | zero => 
    intro f a w h1; omega
  | succ n ih =>
    intro f a w hn1 hf h0 ha k
    unfold wp_X6_readSquares_17
    refine ⟨o 1, c_r h rfl, (c_m h (by decide)).mpr trivial, c_k h (by decide), ?_⟩
    have eF : sI (cS S o (pR c w a)) (o 1) 0 = iI F := by rw [c_i0 h (by decide), show (pR c w a).1 1 ((0 : Nat) : Int) = F from (hB.pR w a).1.1]
    have hT1 : ∀ u b, SB (cS S o (pR c u b)) (o 49) y L := fun u b => hT.over h _ _ (o_ne h (by decide) (by decide))
    rw [eF, iI_le (by omega) (by omega) (by omega) (by omega)]
    unfold rcF at k
    refine ⟨fun q => ?_, fun q => ?_⟩
    · rw [if_pos q] at k
      refine q_next h (hT1 w a) hc (pR_a c w a) (by omega) ?_
      intro x5 e5
      rw [pR_n, e5, show (-1 : Int32) = iI (-1) from rfl, iI_add]
      exact k a w rfl
    · rw [if_neg q] at k
      refine q_next h (hT1 w a) hc (pR_a c w a) (by omega) ?_
      intro y8 e8
      rw [pR_n, e8]
      have xr := tx_r hT.2.2.2.2.1 a
      refine q_indexS (hP _) (by decide) xr ?_
      show (iI (idxC (tx L a)) ≤ 0 → _) ∧ (¬ iI (idxC (tx L a)) ≤ 0 → _)
      have ir := idxC_r (tx L a)
      generalize hx : tx L a = x at *
      rw [show (0 : Int32) = iI 0 from rfl, show (49 : Int32) = iI 49 from rfl, show (56 : Int32) = iI 56 from rfl, iI_le (by omega) (by omega) (by decide) (by decide), iI_le (by omega) (by omega) (by decide) (by decide), iI_lt (by decide) (by decide) (by omega) (by omega)]
      have nx : ∀ (f' : Int) (u : Int → Int), 0 ≤ f' + 1 ∧ f' + 1 < 16 → f < f' + 1 → (∀ b z, rcF F r (tx L) n (f' + 1) (a + 1) u = (b, z) → k10 (cS S o (pR c z (b + 1))) (o 28) (o 49) (o 12) (iI (r - 1))) →
          wp_X6_readSquares_95 D post k10 (wp_X6_readSquares_17 D post k10 n) (cS S o (pR c u (a + 1))) (o 28) (o 49) (o 12) (iI r) (iI f') := fun f' u g1 g2 kk => by
        unfold wp_X6_readSquares_95
        intro x1 e1
        rw [e1, show (1 : Int32) = iI 1 from rfl, iI_add]
        exact ih (f' + 1) (a + 1) u (by omega) (by omega) g1 (by omega) kk
      refine ⟨fun q1 => ⟨fun q2 => ?_, fun q2 => ⟨fun q3 => ?_, fun q3 => ?_⟩⟩, fun q1 => ?_⟩
      · rw [if_neg (by omega), if_neg (by omega)] at k
        exact nx f w (by omega) (by omega) k
      · rw [if_neg (by omega), if_neg (by omega)] at k
        exact nx f w (by omega) (by omega) k
      · rw [if_neg (by omega), if_pos (by omega)] at k
        intro x14 e14
        rw [e14, iI_sub, iI_add]
        exact nx (f + (x - 49)) w (by omega) (by omega) k
      · rw [if_pos (by omega)] at k
        refine ⟨o 1, c_r h rfl, (c_m h (by decide)).mpr trivial, c_k h (by decide), ?_⟩
        have eF2 : sI (cS S o (pR c w (a + 1))) (o 1) 0 = iI F := by rw [c_i0 h (by decide), show (pR c w (a + 1)).1 1 ((0 : Nat) : Int) = F from (hB.pR w (a + 1)).1.1]
        rw [eF2, iI_mul, iI_add]
        have rf : 0 ≤ r * F ∧ r * F + f < 64 := by
          have h1 : 0 ≤ r * F := Int.mul_nonneg (by omega) (by omega)
          have h2 : (r + 1) * F ≤ R * F := Int.mul_le_mul_of_nonneg_right (by omega) (by omega)
          have h3 : R * F ≤ 64 := Int.le_trans (Int.mul_le_mul_of_nonneg_right r8 (by omega)) (by omega)
          rw [Int.add_mul] at h2
          omega
        exact q_placeP h (by decide) (by omega) (show 0 ≤ idxC x ∧ idxC x ≤ 12 by omega) (nx f _ (by omega) (by omega) k)
end
