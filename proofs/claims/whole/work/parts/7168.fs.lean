/-! PHASE 3: a paper's squares, rights, passing square are read -/
section
variable {D : wD} {S : wS} {o : Nat → Nat} {c : cM} {F R : Int} {v w : Int → Int} {xp : String → wS → Prop}
def rcS (F : Int) (t : Int → Int) : Nat → Int → (Int → Int) → Int × (Int → Int)
  | 0, a, w => (a, w)
  | d + 1, a, w => rcS F t d ((rcF F d t 9 0 a w).1 + 1) (rcF F d t 9 0 a w).2
theorem rcF_a (F r : Int) (t : Int → Int) : ∀ (n : Nat) (f a : Int) (w : Int → Int), a ≤ (rcF F r t n f a w).1 ∧ (rcF F r t n f a w).1 ≤ a + n := by
  intro n
  induction n with
  | zero => intro f a w; unfold rcF; exact ⟨Int.le_refl _, by show a ≤ a + 0; omega⟩
  | succ n ih =>
    intro f a w
    unfold rcF
    split
    · exact ⟨Int.le_refl _, by show a ≤ a + ((n + 1 : Nat) : Int); omega⟩
    · split
      · have := ih (f + 1) (a + 1) (upV w (r * F + f) (idxC (t a))); omega
      · split
        · have := ih (f + (t a - 49) + 1) (a + 1) w; omega
        · have := ih (f + 1) (a + 1) w; omega
theorem rcS_a (F : Int) (t : Int → Int) : ∀ (d : Nat) (a : Int) (w : Int → Int), a ≤ (rcS F t d a w).1 ∧ (rcS F t d a w).1 ≤ a + 10 * d := by
  intro d
  induction d with
  | zero => intro a w; unfold rcS; exact ⟨Int.le_refl _, by show a ≤ a + 10 * 0; omega⟩
  | succ d ih =>
    intro a w
    unfold rcS
    have h1 := rcF_a F d t 9 0 a w
    have h2 := ih ((rcF F d t 9 0 a w).1 + 1) (rcF F d t 9 0 a w).2
    omega
section
theorem q_rc_10 (h : CC D S o) (hB : BG c F R) (hP : ∀ c, ST D (cS S o c) (D.2.2.1 1) pcsL) {y : Nat} {L : List Int} (hT : SB (cS S o c) (o 49) y L) (hc : sN S y < 1000000) {post : wS → Prop} : ∀ (n d : Nat) (a : Int) (w : Int → Int), d < n → (d : Int) ≤ R → 0 ≤ a ∧ a + 10 * d < 190 →
    post (cS S o (pR c (rcS F (tx L) d a w).2 (rcS F (tx L) d a w).1)) → wp_X6_readSquares_10 D post n (cS S o (pR c w a)) (o 28) (o 49) (o 12) (iI ((d : Int) - 1)) := by
  have h4 := hB.2.1.1; have h8 := hB.2.1.2.1; have r4 := hB.2.1.2.2.1; have r8 := hB.2.1.2.2.2
  intro n
  induction n with
  | zero => intro d a w hd; omega
  | succ n ih =>
    intro d a w hd hR ha k
    unfold wp_X6_readSquares_10
    rw [show (0 : Int32) = iI 0 from rfl, iI_lt (by omega) (by omega) (by decide) (by decide)]
    cases d with
    | zero => exact ⟨fun _ => k, fun q => absurd (by omega) q⟩
    | succ d =>
      refine ⟨fun q => absurd q (by omega), fun _ => ⟨9, ?_⟩⟩
      rw [show ((d + 1 : Nat) : Int) - 1 = d by omega]
      refine q_rc_17 h hB hP hT hc (r := (d : Int)) (by omega) 9 0 a w (by decide) (by omega) (by omega) (by omega) fun b u e => ?_
      unfold rcS at k
      rw [e] at k
      have := rcF_a F d (tx L) 9 0 a w
      rw [e] at this
      exact ih d (b + 1) u (by omega) (by omega) (by simp at this; omega) k
theorem q_readSquaresC (h : CC D S o) (hB : BG c F R) (hP : ∀ c, ST D (cS S o c) (D.2.2.1 1) pcsL) {y : Nat} {L : List Int} (hT : SB (cS S o c) (o 49) y L) (hc : sN S y < 1000000) {post : wS → Prop} {a : Int} (ha : 0 ≤ a ∧ a < 100) (k : post (cS S o (pR c (rcS F (tx L) R.toNat a w).2 (rcS F (tx L) R.toNat a w).1))) : wp_X6_readSquares D post (cS S o (pR c w a)) (o 28) (o 49) (o 12) := by
  have h4 := hB.2.1.1; have h8 := hB.2.1.2.1; have r4 := hB.2.1.2.2.1; have r8 := hB.2.1.2.2.2
  unfold wp_X6_readSquares wp_X6_readSquares_0
  refine ⟨o 1, c_r h rfl, (c_m h (by decide)).mpr trivial, c_k h (by decide), ?_⟩
  intro x e
  have eR : sI (cS S o (pR c w a)) (o 1) 1 = iI R := by rw [c_i0 h (by decide), show (pR c w a).1 1 ((1 : Nat) : Int) = R from (hB.pR w a).1.2.1]
  rw [eR, show (1 : Int32) = iI 1 from rfl, iI_sub] at e
  rw [e]
  have := q_rc_10 h hB hP hT hc (post := post) 9 R.toNat a w (by omega) (by omega) (by omega) k
  rw [show ((R.toNat : Nat) : Int) = R by omega] at this
  exact ⟨9, this⟩
end
/-- the rights: behind the letter x -/
def rcR (t : Int → Int) : Nat → Int → Int → Int → Int × Int
  | 0, _, p, a => (p, a - 1)
  | n + 1, x, p, a => if firstL (fun i => decide (([75, 81, 107, 113] : List Int).getD i.toNat 0 = x)) 0 4 < 0 then (p, a - 1) else rcR t n (t a) (orI p (2 ^ (firstL (fun i => decide (([75, 81, 107, 113] : List Int).getD i.toNat 0 = x)) 0 4).toNat)) (a + 1)
theorem pR_6 (c : cM) (w : Int → Int) (a x : Int) : cI (pR c w a) 12 6 x = pR c (upV w 65 x) a := putP_i _ w x (Or.inr (Or.inl ⟨rfl, rfl⟩))
theorem pR_5 (c : cM) (w : Int → Int) (a x : Int) : cI (pR c w a) 12 5 x = pR c (upV w 64 x) a := putP_i _ w x (Or.inl ⟨rfl, rfl⟩)
theorem pR_7 (c : cM) (w : Int → Int) (a x : Int) : cI (pR c w a) 12 7 x = pR c (upV w 66 x) a := putP_i _ w x (Or.inr (Or.inr ⟨rfl, rfl⟩))
theorem pR_65 (c : cM) (w : Int → Int) (a : Int) : (pR c w a).1 12 6 = w 65 := (putP_at (cI c 28 2 a) 12 w).2.2.2.2.2.1
theorem pR_66 (c : cM) (w : Int → Int) (a : Int) : (pR c w a).1 12 7 = w 66 := (putP_at (cI c 28 2 a) 12 w).2.2.2.2.2.2
theorem or_bit {p b : Int} (hp : 0 ≤ p ∧ p ≤ 15) (hb : 0 ≤ b ∧ b < 4) : iI p ||| ((iI 1) <<< (iI b &&& 31)) = iI (orI p (2 ^ b.toNat)) ∧ 0 ≤ orI p (2 ^ b.toNat) ∧ orI p (2 ^ b.toNat) ≤ 15 := by
  have e : ∀ b : Nat, b < 4 → (iI 1) <<< (iI (b : Int) &&& 31) = iI (2 ^ b) ∧ (0 : Int) ≤ 2 ^ b ∧ (2 : Int) ^ b ≤ 15 := by decide +kernel
  have := e b.toNat (by omega)
  rw [show ((b.toNat : Nat) : Int) = b by omega] at this
  rw [this.1, iI_orQ hp this.2]
  exact ⟨rfl, orI_r hp this.2⟩
theorem upV_upV (w : Int → Int) (i x y : Int) : upV (upV w i x) i y = upV w i y := by
  funext j; unfold upV; split <;> rfl
section
theorem q_rr_16 (h : CC D S o) (hQ : ∀ c, ST D (cS S o c) (D.2.2.1 10) [75, 81, 107, 113]) {y : Nat} {L : List Int} (hT : SB (cS S o c) (o 49) y L) (hc : sN S y < 1000000) {post : wS → Prop} : ∀ (n d : Nat) (i x p a : Int) (w : Int → Int), d < n → i + d = 4 → 0 ≤ i → 0 ≤ x ∧ x < 128 → 0 ≤ p ∧ p ≤ 15 → 1 ≤ a ∧ a + d < 500 →
    post (cS S o (pR c (upV w 65 (rcR (tx L) d x p a).1) (rcR (tx L) d x p a).2)) → wp_X6_readRights_16 D post n (cS S o (pR c (upV w 65 p) a)) (o 28) (o 49) (o 12) (iI x) (iI i) := by
  intro n
  induction n with
  | zero => intro d i x p a w hd; omega
  | succ n ih =>
    intro d i x p a w hd hj h0 hx hp ha k
    have e2 : ∀ (u : Int → Int) (b : Int), sI (cS S o (pR c u b)) (o 28) 2 = iI b := fun u b => by rw [c_i0 h (by decide), show (pR c u b).1 28 ((2 : Nat) : Int) = b from pR_a c u b]
    have n64 : post (cS S o (pR c (upV w 65 p) (a - 1))) → wp_X6_readRights_64 D post (cS S o (pR c (upV w 65 p) a)) (o 28) := fun kk => by
      unfold wp_X6_readRights_64
      intro S1 e1
      rw [e2, show (1 : Int32) = iI 1 from rfl, iI_sub, c_u1 h (by decide) (show ((2 : Nat) : Int) = 2 from rfl), pR_n] at e1
      rw [e1]; exact kk
    unfold wp_X6_readRights_16
    intro y1 ey1
    rw [ey1]
    refine q_lenS (hQ _) ?_
    rw [show ((([75, 81, 107, 113] : List Int).length : Nat) : Int) = 4 from rfl, iI_le (by decide) (by decide) (by omega) (by omega)]
    cases d with
    | zero => exact ⟨fun _ => n64 k, fun q => absurd (by omega) q⟩
    | succ d =>
      refine ⟨fun q => absurd q (by omega), fun _ y5 ey5 => ?_⟩
      rw [ey5]
      refine q_indexS (hQ _) (by decide) hx ?_
      unfold rcR at k
      have br := firstL_r (fun i => decide (([75, 81, 107, 113] : List Int).getD i.toNat 0 = x)) 4 0
      rw [show ([75, 81, 107, 113] : List Int).length = 4 from rfl]
      generalize hb : firstL (fun i => decide (([75, 81, 107, 113] : List Int).getD i.toNat 0 = x)) 0 4 = b at k br ⊢
      rw [show (0 : Int32) = iI 0 from rfl, iI_lt (by omega) (by omega) (by decide) (by decide)]
      refine ⟨fun q => ?_, fun q y9 ey9 => ?_⟩
      · rw [if_pos q] at k
        exact n64 k
      · rw [if_neg q] at k
        rw [ey9]
        refine q_indexS (hQ _) (by decide) hx ?_
        rw [show ([75, 81, 107, 113] : List Int).length = 4 from rfl, hb]
        have e6 : sI (cS S o (pR c (upV w 65 p) a)) (o 12) 6 = iI p := by rw [c_i0 h (by decide), show (pR c (upV w 65 p) a).1 12 ((6 : Nat) : Int) = p from by rw [show ((6 : Nat) : Int) = 6 from rfl, pR_65]; exact if_pos rfl]
        intro S12 e12
        have ob := or_bit hp (b := b) (by omega)
        rw [e6, show (1 : Int32) = iI 1 from rfl, ob.1, c_u1 h (by decide) (show ((6 : Nat) : Int) = 6 from rfl), pR_6, upV_upV] at e12
        rw [e12]
        refine q_next h (hT.over h _ _ (o_ne h (by decide) (by decide))) hc (pR_a c _ a) (by omega) ?_
        intro x15 e15
        rw [e15, pR_n, show (1 : Int32) = iI 1 from rfl, iI_add]
        exact ih d (i + 1) (tx L a) _ (a + 1) w (by omega) (by omega) (by omega) (tx_r hT.2.2.2.2.1 a) ob.2 (by omega) k
def rcRs (t : Int → Int) (w : Int → Int) (a : Int) : Int × Int := if t a = 45 then (w 65, a + 1) else rcR t 4 (t a) (w 65) (a + 1)
theorem q_readRightsC (h : CC D S o) (hQ : ∀ c, ST D (cS S o c) (D.2.2.1 10) [75, 81, 107, 113]) {y : Nat} {L : List Int} (hT : SB (cS S o c) (o 49) y L) (hc : sN S y < 1000000) {post : wS → Prop} {w : Int → Int} (hw : 0 ≤ w 65 ∧ w 65 ≤ 15) {a : Int} (ha : 0 ≤ a ∧ a < 400) (k : post (cS S o (pR c (upV w 65 (rcRs (tx L) w a).1) (rcRs (tx L) w a).2))) : wp_X6_readRights D post (cS S o (pR c w a)) (o 28) (o 49) (o 12) := by
  unfold wp_X6_readRights wp_X6_readRights_0
  refine q_next h (hT.over h _ _ (o_ne h (by decide) (by decide))) hc (pR_a c _ a) (by omega) ?_
  have xr := tx_r hT.2.2.2.2.1 a
  have ew : upV w 65 (w 65) = w := by funext j; unfold upV; split <;> simp [*]
  unfold rcRs at k
  rw [pR_n, show (45 : Int32) = iI 45 from rfl, iI_eq (by omega) (by omega) (by decide) (by decide)]
  refine ⟨fun q => ⟨5, ?_⟩, fun q => ?_⟩
  · rw [if_neg q] at k
    have := q_rr_16 h hQ hT hc (post := post) 5 4 0 (tx L a) (w 65) (a + 1) w (by decide) (by decide) (by decide) xr hw (by omega) k
    rw [ew] at this
    exact this
  · rw [if_pos q, ew] at k
    exact k
def rcQ (F R : Int) (t : Int → Int) (w : Int → Int) (a : Int) : Int := if (0 ≤ t a - 97 ∧ t a - 97 < F) ∧ 0 ≤ t (a + 1) - 49 ∧ t (a + 1) - 49 < R then (t (a + 1) - 49) * F + (t a - 97) else w 66
theorem q_readPassingC (h : CC D S o) (hB : BG c F R) {y : Nat} {L : List Int} (hT : SB (cS S o c) (o 49) y L) (hc : sN S y < 1000000) {post : wS → Prop} {w : Int → Int} {a : Int} (ha : 0 ≤ a ∧ a < 400) (k : post (cS S o (pR c (upV w 66 (rcQ F R (tx L) w a)) (a + 2)))) : wp_X6_readPassing D post (cS S o (pR c w a)) (o 28) (o 49) (o 12) := by
  have h4 := hB.2.1.1; have h8 := hB.2.1.2.1; have r4 := hB.2.1.2.2.1; have r8 := hB.2.1.2.2.2
  unfold wp_X6_readPassing wp_X6_readPassing_0
  have hT1 : ∀ u b, SB (cS S o (pR c u b)) (o 49) y L := fun u b => hT.over h _ _ (o_ne h (by decide) (by decide))
  refine q_next h (hT1 _ _) hc (pR_a c _ a) (by omega) ?_
  intro x3 e3
  rw [pR_n]
  refine q_next h (hT1 _ _) hc (pR_a c _ (a + 1)) (by omega) ?_
  intro x6 e6
  rw [pR_n, show a + 1 + 1 = a + 2 by omega, e3, e6]
  have xr := tx_r hT.2.2.2.2.1 a
  have yr := tx_r hT.2.2.2.2.1 (a + 1)
  unfold rcQ at k
  have ew : upV w 66 (w 66) = w := by funext j; unfold upV; split <;> simp [*]
  generalize tx L a = x at k xr ⊢
  generalize tx L (a + 1) = z at k yr ⊢
  have o1 : sR (cS S o (pR c w (a + 2))) (o 28) 0 = some (o 1) ∧ wM D (cS S o (pR c w (a + 2))) (o 1) ∧ sK (cS S o (pR c w (a + 2))) (o 1) = 5 := ⟨c_r h rfl, (c_m h (by decide)).mpr trivial, c_k h (by decide)⟩
  have eF : sI (cS S o (pR c w (a + 2))) (o 1) 0 = iI F := by rw [c_i0 h (by decide), show (pR c w (a + 2)).1 1 ((0 : Nat) : Int) = F from (hB.pR w _).1.1]
  have eR : sI (cS S o (pR c w (a + 2))) (o 1) 1 = iI R := by rw [c_i0 h (by decide), show (pR c w (a + 2)).1 1 ((1 : Nat) : Int) = R from (hB.pR w _).1.2.1]
  rw [show (97 : Int32) = iI 97 from rfl, show (49 : Int32) = iI 49 from rfl, iI_sub, iI_sub, show (0 : Int32) = iI 0 from rfl, iI_lt (by omega) (by omega) (by decide) (by decide), iI_lt (by omega) (by omega) (by decide) (by decide)]
  unfold wp_X6_readPassing_67
  refine ⟨fun q => ?_, fun q1 => ⟨o 1, o1.1, o1.2.1, o1.2.2, ?_⟩⟩
  · rw [if_neg (by omega), ew] at k; exact k
  rw [eF, iI_le (by omega) (by omega) (by omega) (by omega)]
  refine ⟨fun q => ?_, fun q2 => ⟨fun q => ?_, fun q3 => ⟨o 1, o1.1, o1.2.1, o1.2.2, ?_⟩⟩⟩
  · rw [if_neg (by omega), ew] at k; exact k
  · rw [if_neg (by omega), ew] at k; exact k
  rw [eR, iI_le (by omega) (by omega) (by omega) (by omega)]
  refine ⟨fun q => ?_, fun q4 => ⟨o 1, o1.1, o1.2.1, o1.2.2, ?_⟩⟩
  · rw [if_neg (by omega), ew] at k; exact k
  rw [if_pos (by omega)] at k
  intro S14 e14
  rw [eF, iI_mul, iI_add, c_u1 h (by decide) (show ((7 : Nat) : Int) = 7 from rfl), pR_7] at e14
  rw [e14]
  exact k
end
end
