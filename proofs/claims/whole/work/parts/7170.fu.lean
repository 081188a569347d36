/-! PHASE 3: a paper is read -/
section
variable {D : wD} {S : wS} {o : Nat → Nat} {c : cM} {F R : Int} {v w : Int → Int}
theorem VGr.sq (hn : F * R ≤ 64) (h : VG F R w) {q x : Int} (hq : 0 ≤ q ∧ q < F * R) (hx : 0 ≤ x ∧ x ≤ 12) : VG F R (upV w q x) := by
  obtain ⟨⟨a1, a2, a3, a4⟩, b, d⟩ := h
  refine ⟨⟨fun k h0 h1 => ?_, ?_, ?_, ?_⟩, clV_up b (by omega), fun k h0 h1 => ?_⟩
  · unfold upV; split
    · exact hx
    · exact a1 k h0 h1
  · unfold upV; rw [if_neg (by omega)]; exact a2
  · unfold upV; rw [if_neg (by omega)]; exact a3
  · unfold upV; rw [if_neg (by omega)]; exact a4
  · unfold upV; rw [if_neg (by omega)]; exact d k h0 h1
theorem VGr.st (hn : F * R ≤ 64) (h : VG F R w) {x : Int} (hx : 0 ≤ x ∧ x ≤ 1) : VG F R (upV w 64 x) := by
  obtain ⟨⟨a1, a2, a3, a4⟩, b, d⟩ := h
  refine ⟨⟨fun k h0 h1 => ?_, ?_, ?_, ?_⟩, clV_up b (by decide), fun k h0 h1 => ?_⟩
  · unfold upV; rw [if_neg (by omega)]; exact a1 k h0 h1
  · unfold upV; rw [if_pos rfl]; exact hx
  · unfold upV; rw [if_neg (by decide)]; exact a3
  · unfold upV; rw [if_neg (by decide)]; exact a4
  · unfold upV; rw [if_neg (by omega)]; exact d k h0 h1
theorem VGr.rt (hn : F * R ≤ 64) (h : VG F R w) {x : Int} (hx : 0 ≤ x ∧ x ≤ 15) : VG F R (upV w 65 x) := by
  obtain ⟨⟨a1, a2, a3, a4⟩, b, d⟩ := h
  refine ⟨⟨fun k h0 h1 => ?_, ?_, ?_, ?_⟩, clV_up b (by decide), fun k h0 h1 => ?_⟩
  · unfold upV; rw [if_neg (by omega)]; exact a1 k h0 h1
  · unfold upV; rw [if_neg (by decide)]; exact a2
  · unfold upV; rw [if_pos rfl]; exact hx
  · unfold upV; rw [if_neg (by decide)]; exact a4
  · unfold upV; rw [if_neg (by omega)]; exact d k h0 h1
theorem VGr.pq (hn : F * R ≤ 64) (h : VG F R w) {x : Int} (hx : -1 ≤ x ∧ x < F * R) : VG F R (upV w 66 x) := by
  obtain ⟨⟨a1, a2, a3, a4⟩, b, d⟩ := h
  refine ⟨⟨fun k h0 h1 => ?_, ?_, ?_, ?_⟩, clV_up b (by decide), fun k h0 h1 => ?_⟩
  · unfold upV; rw [if_neg (by omega)]; exact a1 k h0 h1
  · unfold upV; rw [if_neg (by decide)]; exact a2
  · unfold upV; rw [if_neg (by decide)]; exact a3
  · unfold upV; rw [if_pos rfl]; exact hx
  · unfold upV; rw [if_neg (by omega)]; exact d k h0 h1
theorem VGr.e (hn : 0 < F * R) : VG F R emptyV := by
  refine ⟨⟨fun k h0 h1 => ?_, ?_, ?_, ?_⟩, fun k h => ?_, fun k h0 h1 => ?_⟩
  · unfold emptyV; rw [if_neg (by omega), if_neg (by omega)]; decide
  · decide
  · decide
  · show -1 ≤ (-1 : Int) ∧ (-1 : Int) < F * R; omega
  · unfold emptyV; rw [if_neg (by omega), if_neg (by omega)]
  · unfold emptyV; rw [if_neg (by omega), if_neg (by omega)]
theorem rcF_VG (h4 : 4 ≤ F) (hn : F * R ≤ 64) {r : Int} (hr : 0 ≤ r ∧ r < R) (t : Int → Int) : ∀ (n : Nat) (f a : Int) (w : Int → Int), 0 ≤ f → VG F R w → VG F R (rcF F r t n f a w).2 := by
  intro n
  induction n with
  | zero => intro f a w _ h; exact h
  | succ n ih =>
    intro f a w h0 h
    unfold rcF
    split
    · exact h
    · split
      · refine ih _ _ _ (by omega) (VGr.sq hn h ?_ (by have := idxC_r (t a); omega))
        have h1 : 0 ≤ r * F := Int.mul_nonneg (by omega) (by omega)
        have h2 : (r + 1) * F ≤ R * F := Int.mul_le_mul_of_nonneg_right (by omega) (by omega)
        rw [Int.add_mul, Int.mul_comm R F] at h2
        omega
      · split
        · exact ih _ _ _ (by omega) h
        · exact ih _ _ _ (by omega) h
theorem rcS_VG (h4 : 4 ≤ F) (hn : F * R ≤ 64) (t : Int → Int) : ∀ (d : Nat) (a : Int) (w : Int → Int), (d : Int) ≤ R → VG F R w → VG F R (rcS F t d a w).2 := by
  intro d
  induction d with
  | zero => intro a w _ h; exact h
  | succ d ih =>
    intro a w hd h
    unfold rcS
    exact ih _ _ (by omega) (rcF_VG h4 hn (by omega) t 9 0 a w (by decide) h)
theorem rcR_r (t : Int → Int) : ∀ (n : Nat) (x p a : Int), 0 ≤ p ∧ p ≤ 15 → (0 ≤ (rcR t n x p a).1 ∧ (rcR t n x p a).1 ≤ 15) ∧ a - 1 ≤ (rcR t n x p a).2 ∧ (rcR t n x p a).2 ≤ a + n - 1 := by
  intro n
  induction n with
  | zero => intro x p a hp; unfold rcR; exact ⟨hp, Int.le_refl _, by show a - 1 ≤ a + 0 - 1; omega⟩
  | succ n ih =>
    intro x p a hp
    unfold rcR
    have br := firstL_r (fun i => decide (([75, 81, 107, 113] : List Int).getD i.toNat 0 = x)) 4 0
    split
    · exact ⟨hp, by show a - 1 ≤ a - 1; omega, by show a - 1 ≤ a + ((n + 1 : Nat) : Int) - 1; omega⟩
    · have ob := or_bit hp (b := firstL (fun i => decide (([75, 81, 107, 113] : List Int).getD i.toNat 0 = x)) 0 4) (by omega)
      have := ih (t a) _ (a + 1) ob.2
      refine ⟨this.1, ?_, ?_⟩
      · have := this.2.1; omega
      · have := this.2.2; omega
theorem rcRs_r (t : Int → Int) {w : Int → Int} (hw : 0 ≤ w 65 ∧ w 65 ≤ 15) (a : Int) : (0 ≤ (rcRs t w a).1 ∧ (rcRs t w a).1 ≤ 15) ∧ a ≤ (rcRs t w a).2 ∧ (rcRs t w a).2 ≤ a + 4 := by
  unfold rcRs
  split
  · exact ⟨hw, by show a ≤ a + 1; omega, by show a + 1 ≤ a + 4; omega⟩
  · have := rcR_r t 4 (t a) (w 65) (a + 1) hw
    refine ⟨this.1, ?_, ?_⟩
    · have := this.2.1; omega
    · have := this.2.2; omega
theorem rcQ_r (h4 : 4 ≤ F) (t : Int → Int) {w : Int → Int} (hw : -1 ≤ w 66 ∧ w 66 < F * R) (a : Int) : -1 ≤ rcQ F R t w a ∧ rcQ F R t w a < F * R := by
  unfold rcQ
  split
  case isTrue h =>
    have h1 : 0 ≤ (t (a + 1) - 49) * F := Int.mul_nonneg (by omega) (by omega)
    have h2 : (t (a + 1) - 49 + 1) * F ≤ R * F := Int.mul_le_mul_of_nonneg_right (by omega) (by omega)
    rw [Int.add_mul, Int.mul_comm R F] at h2
    omega
  case isFalse h => exact hw
/-- what the class reads -/
def rc1 (F R : Int) (t : Int → Int) : Int → Int := upV (rcS F t R.toNat 0 emptyV).2 64 (if t (rcS F t R.toNat 0 emptyV).1 = 119 then 1 else 0)
def rcA (F R : Int) (t : Int → Int) : Int := (rcS F t R.toNat 0 emptyV).1 + 2
def rc2 (F R : Int) (t : Int → Int) : Int → Int := upV (rc1 F R t) 65 (rcRs t (rc1 F R t) (rcA F R t)).1
def rcB (F R : Int) (t : Int → Int) : Int → Int := upV (rc2 F R t) 66 (rcQ F R t (rc2 F R t) ((rcRs t (rc1 F R t) (rcA F R t)).2 + 1))
def okB (F R : Int) (L : List Int) : Bool := decide (L = paperP F R (rcB F R (tx L))) && properB F R (rcB F R (tx L)) && pasB F R (rcB F R (tx L))
theorem rc1_VG (hB : BG c F R) (t : Int → Int) : VG F R (rc1 F R t) := by
  have hm := hB.m
  exact VGr.st hm.2 (rcS_VG hB.f4 hm.2 t _ _ _ (by have := hB.r4; omega) (VGr.e (by omega))) (by split <;> decide)
theorem rcB_VG (hB : BG c F R) (t : Int → Int) : VG F R (rcB F R t) := by
  have hm := hB.m
  have h1 := rc1_VG hB t
  have h2 : VG F R (rc2 F R t) := VGr.rt hm.2 h1 (rcRs_r t h1.1.2.2.1 _).1
  exact VGr.pq hm.2 h2 (rcQ_r hB.f4 t h2.1.2.2.2 _)
theorem put_28 (c : cM) (w : Int → Int) (a : Int) : cI (putP c 12 w) 28 2 a = pR c w a := by
  unfold pR
  refine Prod.ext ?_ ?_
  · funext n j
    rw [cI_1]
    by_cases h : n = 28 ∧ j = 2
    · rw [h.1, h.2, up_at]
      simp [putP, cI_1, up_at]
    · have h' : n ≠ 28 ∨ j ≠ 2 := by omega
      rw [up_ne _ h']
      simp only [putP, cI_1]
      rw [up_ne _ h']
  · funext n j
    rw [cI_2]
    simp only [putP, cI_2]
theorem q_readsC {post : Int32 → wS → Prop} (h : CC D S o) (hB : BG c F R) (hP : ∀ c, ST D (cS S o c) (D.2.2.1 1) pcsL) (hQ : ∀ c, ST D (cS S o c) (D.2.2.1 10) [75, 81, 107, 113]) {y z : Nat} {L Z : List Int} (hT : SB (cS S o c) (o 49) y L) (hc : sN S y < 1000000) (hZ : SB (cS S o c) (o 29) z Z)
    (hk : ∀ c, KS D (cS S o c) (o 29) z) (hyz : y ≠ z) {M : Nat} (hM : 180 ≤ M ∧ M < 20000) {bc bs : Nat} (hr' : RBD (sN S z) bc bs M) (h16 : 16 ≤ sN S z)
    (k : ∀ a U' z', BL D (cS S o (pR c (rcB F R (tx L)) a)) U' (o 29) z z' (paperP F R (rcB F R (tx L))) → 16 ≤ sN U' z' → sN U' z' ≤ M → post (iI (bI (okB F R L))) U') : wp_X6_reads D post bc bs (cS S o c) (o 28) (o 49) (o 12) := by
  have hm := hB.m
  have h4 := hB.2.1.1; have h8 := hB.2.1.2.1; have r4 := hB.2.1.2.2.1; have r8 := hB.2.1.2.2.2
  have hT1 : ∀ u b, SB (cS S o (pR c u b)) (o 49) y L := fun u b => hT.over h _ _ (o_ne h (by decide) (by decide))
  have V1 := rc1_VG hB (tx L)
  have V3 := rcB_VG hB (tx L)
  have A1 := rcS_a F (tx L) R.toNat 0 emptyV
  unfold wp_X6_reads wp_X6_reads_0
  refine q_clearP h (by decide) ?_
  intro S3 e3
  rw [show (0 : Int32) = iI 0 from rfl, c_u1 h (by decide) (show ((2 : Nat) : Int) = 2 from rfl), put_28] at e3
  rw [e3]
  refine q_readSquaresC h hB hP hT hc (by decide) ?_
  generalize hs1 : (rcS F (tx L) R.toNat 0 emptyV).1 = a1 at A1
  refine q_next h (hT1 _ _) hc (pR_a c _ _) (by omega) ?_
  rw [pR_n]
  have ar := tx_r hT.2.2.2.2.1 a1
  rw [show (119 : Int32) = iI 119 from rfl, iI_eq (by omega) (by omega) (by decide) (by decide)]
  have g31 : ∀ x : Int, (x = 0 ∨ x = 1) → upV (rcS F (tx L) R.toNat 0 emptyV).2 64 x = rc1 F R (tx L) → wp_X6_reads_31 D post bc bs (cS S o (pR c (rcS F (tx L) R.toNat 0 emptyV).2 (a1 + 1))) (o 28) (o 49) (o 12) (o 12) (iI x) := fun x hx e => by
    unfold wp_X6_reads_31
    refine ⟨by rcases hx with rfl | rfl <;> rfl, by rcases hx with rfl | rfl <;> rfl, fun S1 e1 => ?_⟩
    rw [c_u1 h (by decide) (show ((5 : Nat) : Int) = 5 from rfl), pR_5, e] at e1
    rw [e1]
    refine q_next h (hT1 _ _) hc (pR_a c _ _) (by omega) ?_
    rw [pR_n]
    have ea : a1 + 1 + 1 = rcA F R (tx L) := by unfold rcA; omega
    rw [ea]
    have rA := rcRs_r (tx L) V1.1.2.2.1 (rcA F R (tx L))
    refine q_readRightsC h hQ hT hc V1.1.2.2.1 (by omega) ?_
    refine q_next h (hT1 _ _) hc (pR_a c _ _) (by omega) ?_
    rw [pR_n]
    refine q_readPassingC h hB hT hc (by omega) ?_
    show ∃ y_11 : Nat, sR (cS S o (pR c (rcB F R (tx L)) _)) (o 28) 1 = some y_11 ∧ _
    generalize (rcRs (tx L) (rc1 F R (tx L)) (rcA F R (tx L))).2 + 1 + 2 = a3
    refine ⟨o 29, c_r h rfl, (c_m h (by decide)).mpr trivial, c_k h (by decide), bc, bs, Nat.le_refl _, Nat.le_refl _, ?_⟩
    have hZ1 : SB (cS S o (pR c (rcB F R (tx L)) a3)) (o 29) z Z := hZ.over h _ _ (o_ne h (by decide) (by decide))
    have hK := ap_of h (by decide) (by decide) hZ1
    refine q_write h hK (hB.pR _ _) (by decide) V3.1 (putP_at _ 12 _) (hk _) hM hZ1 hr' h16 fun U' z' hb g1 g2 => ?_
    have hc' := bl_c h hK hb
    have rr : sR U' (o 28) 1 = some (o 29) ∧ wM D U' (o 29) ∧ sK U' (o 29) = 1 := by rw [hc'.2]; exact ⟨c_r hc'.1 rfl, (c_m hc'.1 (by decide)).mpr trivial, c_k hc'.1 (by decide)⟩
    refine ⟨o 29, rr.1, rr.2.1, rr.2.2, ?_⟩
    have yo : y ≠ o 29 := fun e => by
      have k1 := (h.1 29 (by decide)).2.1
      have k2 : sK S y = 20 := hT.2.1.2.2.1
      rw [← e, k2] at k1; exact absurd k1 (by decide)
    have oz : o 49 ≠ z := fun e => by
      have k1 := (h.1 49 (by decide)).2.1
      have k2 : sK S z = 20 := hZ.2.1.2.2.1
      rw [e, k2] at k1; exact absurd k1 (by decide)
    have o49 : o 49 ≠ o 29 := fun e => absurd (h.2.1 49 (by decide) 29 (by decide) e) (by decide)
    have hTU : SB U' (o 49) y L := (hT1 _ a3).ex hb.1 (by simp; exact ⟨o49, oz⟩) (by simp; exact ⟨yo, hyz⟩)
    have nU : sN U' y = sN S y := hb.1.n (Or.inl (hT1 (rcB F R (tx L)) a3).2.1.2.1)
    have k := k a3 U' z' hb g1 g2
    unfold okB at k
    refine q_isSameT hTU hb.2.2 (by rw [nU]; exact hc) (by omega) ?_
    have no : ∀ b : Bool, post (iI (bI b)) U' → b = false → wp_X6_reads_97 D post (bc - bc) (bs - bs) U' := fun b kk e => by
      unfold wp_X6_reads_97 wp_X6_reads_98
      rw [e] at kk; exact ⟨rfl, kk⟩
    rw [show (0 : Int32) = iI 0 from rfl, bI_z]
    refine ⟨fun q => no _ k (by rw [q]; rfl), fun q => ?_⟩
    have q := (Bool.not_eq_false _).mp q
    rw [hc'.2]
    refine q_isLawful hc'.1 (hB.pR _ _) (by decide) V3.1 V3.2.2 (putP_at _ 12 _) ?_
    rw [bI_z]
    rw [hc'.2] at k no
    refine ⟨fun q1 => no _ k (by rw [q1]; simp), fun q1 => ?_⟩
    have q1 := (Bool.not_eq_false _).mp q1
    refine q_isPassingSound hc'.1 (hB.pR _ _) (by decide) V3.1 V3.2.2 (putP_at _ 12 _) ?_
    rw [bI_z]
    refine ⟨fun q2 => no _ k (by rw [q2]; simp), fun q2 => ?_⟩
    have q2 := (Bool.not_eq_false _).mp q2
    rw [q, q1, q2] at k
    exact ⟨rfl, k⟩
  refine ⟨fun q => ?_, fun q => ?_⟩
  · exact g31 0 (Or.inl rfl) (by unfold rc1; rw [hs1, if_neg q])
  · exact g31 1 (Or.inr rfl) (by unfold rc1; rw [hs1, if_pos q])
end
