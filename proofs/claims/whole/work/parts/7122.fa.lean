section
variable {D : wD} {S : wS} {o : Nat → Nat} {c : cM} {F R : Int} {post : Int32 → wS → Prop} {xp : String → wS → Prop}
theorem q_clearS {post : wS → Prop} (h : CC D S o) {s : Int} (hs : s = 0 ∨ s = 1) {yl : Nat} {els : List Nat} (hA : AL D (cS S o c) (o (slO s)) yl els) (hc : sN S yl < 100000) {K : List Nat} (hKa : o (slO s) ∈ K) (hKy : els.length ≠ 0 → yl ∈ K)
    (k : ∀ U', EX D (cS S o c) U' K → AL D U' (o (slO s)) yl [] → post U') : wp_X10_clear D post (cS S o c) (o (sbO s)) := by
  have hb := shb (D := D) (c := c) h hs
  unfold wp_X10_clear wp_X10_clear_0
  exact ⟨o (slO s), hb.1, hb.2.1, hb.2.2, q_clearA hA hc hKa hKy k⟩
/-- the class's cells behind newBoard, from those with the new board laid -/
def newM (c : cM) : cM := filR (forgM (cI (putS (cI (putP c 11 emptyV) 13 3 0) 14 0 emptyV) 0 17 0)) 51 64 15
theorem emptyV_rg : rgV emptyV := by
  refine ⟨fun k k0 k1 => ?_, ?_, ?_, ?_⟩
  · unfold emptyV; rw [if_neg (by omega), if_neg (by omega)]; decide
  · decide
  · decide
  · decide
end
section
variable {D : wD} {U : wS} {a yl b g1 z0 z1 : Nat} {r1 n1 : Int} {w1 : Int → Int → Int} {mv1 : Int → Mv} {els : List Nat} {n : Int → Int} {w : Int → Int → Int → Int} {mv : Int → Int → Mv} {fr : Int → Int → Bool} {inf : Int → Nat → Int} {ys : Int → Nat × Nat × Nat} {post : Int32 → wS → Prop}
/-- whether a position of a game stood before, in it or on the shelf -/
def knownC (n : Int → Int) (w : Int → Int → Int → Int) (l : Nat) (w1 : Int → Int → Int) (i : Int) : Bool := anyL (fun k => sameB (w1 i) (w1 k)) 0 i.toNat || anyL (fun g => anyL (fun k => sameB (w1 i) (w g k)) 0 (n g + 1).toNat) 0 l
theorem q_known_48 (hS : SHC D U a yl els n w mv fr inf ys) (hG : GO D U g1 z0 z1 r1 n1 w1 mv1) {i : Int} (hi : 0 ≤ i ∧ i ≤ n1) {j : Int} (hj : 0 ≤ j ∧ j < els.length) {k27 : wS → Nat → Nat → Int32 → Int32 → Prop} : ∀ (f d : Nat) (e : Int), d < f → e + d = n j + 1 → 0 ≤ e →
    (anyL (fun k => sameB (w1 i) (w j k)) e d = true → post (iI 1) U) → (anyL (fun k => sameB (w1 i) (w j k)) e d = false → k27 U b g1 (iI i) (iI (j + 1))) → wp_X10_isKnown_48 D post k27 f U b g1 (iI i) (iI j) (some (els.getD j.toNat 0)) (iI e) := by
  have gg := hS.2.2 j hj.1 hj.2
  have hn := gg.1.2.2.1
  have h40 := hS.2.1
  intro f
  induction f with
  | zero => intro d e hd; omega
  | succ f ih =>
    intro d e hd he h0 k1 k0
    unfold wp_X10_isKnown_48
    refine ⟨fun q => absurd q (by simp), fun y hy => ?_⟩
    injection hy with hy
    rw [← hy]
    refine ⟨(hS.g8 hj).1, (hS.g8 hj).2, ?_⟩
    rw [gg.1.2.2.2.1, iI_lt (by omega) (by omega) (by omega) (by omega)]
    refine ⟨fun q => ?_, fun q => ?_⟩
    · rw [show d = 0 by omega] at k0
      unfold wp_X10_isKnown_83
      intro x1 e1
      rw [e1, show (1 : Int32) = iI 1 from rfl, iI_add]
      exact k0 rfl
    · obtain ⟨d', rfl⟩ : ∃ d', d = d' + 1 := ⟨d - 1, by omega⟩
      unfold anyL at k0 k1
      refine q_isSameAt hG gg.1 hi (i' := e) ⟨h0, by omega⟩ ?_
      rw [bI_0]
      refine ⟨fun z x7 e7 => ?_, fun z => ⟨nr1, k1 (by rw [show sameB (w1 i) (w j e) = true by simpa using z]; rfl)⟩⟩
      rw [z, Bool.false_or] at k0 k1
      rw [e7, show (1 : Int32) = iI 1 from rfl, iI_add]
      exact ih d' (e + 1) (by omega) (by omega) (by omega) k1 k0
theorem q_known_27 (hb : SHB D U b a) (hS : SHC D U a yl els n w mv fr inf ys) (hG : GO D U g1 z0 z1 r1 n1 w1 mv1) {i : Int} (hi : 0 ≤ i ∧ i ≤ n1) : ∀ (f d : Nat) (j : Int), d < f → j + d = els.length → 0 ≤ j →
    post (iI (bI (anyL (fun g => anyL (fun k => sameB (w1 i) (w g k)) 0 (n g + 1).toNat) j d))) U → wp_X10_isKnown_27 D post f U b g1 (iI i) (iI j) := by
  have h40 := hS.2.1
  intro f
  induction f with
  | zero => intro d j hd; omega
  | succ f ih =>
    intro d j hd hj h0 k
    unfold wp_X10_isKnown_27
    refine ⟨a, hb.1, hb.2.1, hb.2.2, ?_⟩
    refine q_sizeA hS.1 ?_
    rw [iI_le (by omega) (by omega) (by omega) (by omega)]
    refine ⟨fun q => ?_, fun q => ?_⟩
    · rw [show d = 0 by omega] at k
      exact ⟨nr0, k⟩
    · obtain ⟨d', rfl⟩ : ∃ d', d = d' + 1 := ⟨d - 1, by omega⟩
      unfold anyL at k
      have hjj : 0 ≤ j ∧ j < els.length := ⟨h0, by omega⟩
      have hn := (hS.2.2 j h0 hjj.2).1.2.2.1
      refine q_gameAt hb hS hjj ?_
      refine ⟨82, ?_⟩
      refine q_known_48 hS hG hi hjj 82 (n j + 1).toNat 0 (by omega) (by omega) (by decide) (fun z => ?_) (fun z => ?_)
      · rw [z, Bool.true_or] at k; exact k
      · rw [z, Bool.false_or] at k
        exact ih d' (j + 1) (by omega) (by omega) (by omega) k
theorem q_known_2 (hb : SHB D U b a) (hS : SHC D U a yl els n w mv fr inf ys) (hG : GO D U g1 z0 z1 r1 n1 w1 mv1) {i : Int} (hi : 0 ≤ i ∧ i ≤ n1) : ∀ (f d : Nat) (j : Int), d < f → j + d = i → 0 ≤ j →
    post (iI (bI (anyL (fun k => sameB (w1 i) (w1 k)) j d || anyL (fun g => anyL (fun k => sameB (w1 i) (w g k)) 0 (n g + 1).toNat) 0 els.length))) U → wp_X10_isKnown_2 D post f U b g1 (iI i) (iI j) := by
  have h40 := hS.2.1
  have hn := hG.2.2.1
  intro f
  induction f with
  | zero => intro d j hd; omega
  | succ f ih =>
    intro d j hd hj h0 k
    unfold wp_X10_isKnown_2
    rw [iI_le (by omega) (by omega) (by omega) (by omega)]
    refine ⟨fun q => ⟨41, ?_⟩, fun q => ?_⟩
    · rw [show d = 0 by omega] at k
      exact q_known_27 hb hS hG hi 41 els.length 0 (by omega) (by omega) (by decide) k
    · obtain ⟨d', rfl⟩ : ∃ d', d = d' + 1 := ⟨d - 1, by omega⟩
      rw [show anyL (fun k => sameB (w1 i) (w1 k)) j (d' + 1) = (sameB (w1 i) (w1 j) || anyL (fun k => sameB (w1 i) (w1 k)) (j + 1) d') from rfl] at k
      refine q_isSameAt hG hG hi (i' := j) ⟨h0, by omega⟩ ?_
      rw [bI_0]
      refine ⟨fun z x6 e6 => ?_, fun z => ?_⟩
      · rw [z, Bool.false_or] at k
        rw [e6, show (1 : Int32) = iI 1 from rfl, iI_add]
        exact ih d' (j + 1) (by omega) (by omega) (by omega) k
      · rw [show sameB (w1 i) (w1 j) = true by simpa using z, Bool.true_or, Bool.true_or] at k
        exact ⟨nr1, k⟩
theorem q_isKnown (hb : SHB D U b a) (hS : SHC D U a yl els n w mv fr inf ys) (hG : GO D U g1 z0 z1 r1 n1 w1 mv1) {i : Int} (hi : 0 ≤ i ∧ i ≤ n1) (k : post (iI (bI (knownC n w els.length w1 i))) U) : wp_X10_isKnown D post U b g1 (iI i) := by
  have hn := hG.2.2.1
  refine ⟨82, ?_⟩
  exact q_known_2 hb hS hG hi 82 i.toNat 0 (by omega) (by omega) (by decide) k
end
