section
variable {D : wD} {S : wS} {o : Nat → Nat} {c : cM} {F R : Int} {v : Int → Int} {post : Int32 → wS → Prop} {xp : String → wS → Prop} {a b yl : Nat} {els : List Nat} {n : Int → Int} {w : Int → Int → Int → Int} {mv : Int → Int → Mv} {fr : Int → Int → Bool} {inf : Int → Nat → Int} {ys : Int → Nat × Nat × Nat}
/-- the fresh positions of a game that fit a pattern -/
def fitC (F R : Int) (pat : Int → Int) (n : Int → Int) (w : Int → Int → Int → Int) (fr : Int → Int → Bool) (g : Int) : Int := sumL (fun k => if fr g k && holdsB F R pat (w g k) then 1 else 0) 0 (n g + 1).toNat
theorem q_fitting_28 (h : CC D S o) (hS : ∀ c, SHC D (cS S o c) a yl els n w mv fr inf ys) (hoff : offK (cLs.map o) els ys) {c0 : cM} (hB : BG c0 F R) (hr : ∀ k : Int, 0 ≤ k → k < 64 → 0 ≤ c0.1 51 k ∧ c0.1 51 k ≤ 15) {j : Int} (hj : 0 ≤ j ∧ j < els.length) {k5 : wS → Nat → Nat → Nat → Int32 → Int32 → Prop} :
    ∀ (f d : Nat) (i s : Int) (c : cM), d < f → i + d = n j + 1 → 0 ≤ i → cSim [12] c0 c →
    (∀ c', cSim [12] c0 c' → k5 (cS S o c') b (o 51) (o 12) (iI (s + sumL (fun k => if fr j k && holdsB F R (c0.1 51) (w j k) then 1 else 0) i d)) (iI (j + 1))) →
    wp_X10_positionsFitting_28 D post k5 f (cS S o c) b (o 51) (o 12) (iI s) (iI j) (some (els.getD j.toNat 0)) (iI i) := by
  have hn := ((hS c0).2.2 j hj.1 hj.2).1.2.2.1
  have h40 := (hS c0).2.1
  intro f
  induction f with
  | zero => intro d i s c hd; omega
  | succ f ih =>
    intro d i s c hd hi h0 hc k
    have hS' := hS c
    have gg := hS'.2.2 j hj.1 hj.2
    have hB' : BG c F R := hc.B (fun m hm => by simp; omega) hB
    have h51 : c.1 51 = c0.1 51 := (hc 51 (by decide)).1
    unfold wp_X10_positionsFitting_28
    refine ⟨fun q => absurd q (by simp), fun z hz => ?_⟩
    injection hz with hz
    rw [← hz]
    refine ⟨(hS'.g8 hj).1, (hS'.g8 hj).2, ?_⟩
    rw [gg.1.2.2.2.1, iI_lt (by omega) (by omega) (by omega) (by omega)]
    refine ⟨fun q => ?_, fun q => ⟨(ys j).1, gg.1.1.1, gg.1.1.2.1, gg.1.1.2.2.1, ?_⟩⟩
    · rw [show d = 0 by omega] at k
      unfold sumL at k
      unfold wp_X10_positionsFitting_86
      intro x1 e1
      rw [e1, show (1 : Int32) = iI 1 from rfl, iI_add]
      have := k c hc
      rwa [Int.add_zero] at this
    · obtain ⟨d', rfl⟩ : ∃ d', d = d' + 1 := ⟨d - 1, by omega⟩
      unfold sumL at k
      have ho := hoff j hj.1 hj.2
      have sv := gg.1.2.2.2.2.1 i h0 (by omega)
      refine q_load h (p := 12) (by decide) (fun c' _ => ?_) sv.2 sv.1 ?_ ?_ ?_
      · exact (c_ex (D := D) (S := S) (o := o) c c').j gg.1.1.2.1 ho.2.1
      · have := gg.1.1.2.2.2
        show 0 ≤ i ∧ i * 5 + 5 ≤ ((sN (cS S o c) (ys j).1 : Nat) : Int)
        omega
      · have := gg.1.1.2.2.2
        show sN (cS S o c) (ys j).1 < 1000000
        omega
      have hc2 : cSim [12] c0 (putP c 12 (w j i)) := hc.trans (putP_sim c 12 _)
      have gg2 := (hS (putP c 12 (w j i))).2.2 j hj.1 hj.2
      refine q_isFreshAt gg2.2.1 (i := i) ⟨h0, by omega⟩ ?_
      rw [bI_0]
      have nx : ∀ t : Int, t = (if (fr j i && holdsB F R (c0.1 51) (w j i)) = true then 1 else 0) → ∀ c', cSim [12] c0 c' → wp_X10_positionsFitting_78 D post k5 (wp_X10_positionsFitting_28 D post k5 f) (cS S o c') b (o 51) (o 12) (iI j) (els.getD j.toNat 0) (iI i) (iI s) (iI t) := by
        intro t ht c' hc'
        unfold wp_X10_positionsFitting_78
        intro x1 e1 x2 e2
        rw [e1, e2, show (1 : Int32) = iI 1 from rfl, iI_add, iI_add]
        refine ih d' (i + 1) (s + t) c' (by omega) (by omega) (by omega) hc' fun c'' hc'' => ?_
        have := k c'' hc''
        rw [← Int.add_assoc] at this
        rw [ht]; exact this
      unfold wp_X10_positionsFitting_77
      refine ⟨fun z => nx 0 (by rw [z]; simp) _ hc2, fun z => ?_⟩
      have z : fr j i = true := by simpa using z
      have h51' : (putP c 12 (w j i)).1 51 = c0.1 51 := (hc2 51 (by decide)).1
      refine q_fitsC h (hB'.put (p := 12) (by decide) _) (p := 12) (by decide) sv.2.1 (putP_at c 12 _) (by rw [h51']; exact hr) ?_
      rw [h51', bI_0]
      refine ⟨fun y => nx 0 (by rw [z, y]; simp) _ hc2, fun y => nx 1 (by rw [z, show holdsB F R (c0.1 51) (w j i) = true by simpa using y]; rfl) _ hc2⟩
theorem q_fitting_5 (h : CC D S o) (hb : ∀ c, SHB D (cS S o c) b a) (hS : ∀ c, SHC D (cS S o c) a yl els n w mv fr inf ys) (hoff : offK (cLs.map o) els ys) {c0 : cM} (hB : BG c0 F R) (hr : ∀ k : Int, 0 ≤ k → k < 64 → 0 ≤ c0.1 51 k ∧ c0.1 51 k ≤ 15) :
    ∀ (f d : Nat) (j s : Int) (c : cM), d < f → j + d = els.length → 0 ≤ j → cSim [12] c0 c →
    (∀ c', cSim [12] c0 c' → post (iI (s + sumL (fitC F R (c0.1 51) n w fr) j d)) (cS S o c')) → wp_X10_positionsFitting_5 D post f (cS S o c) b (o 51) (o 12) (iI s) (iI j) := by
  have h40 := (hS c0).2.1
  intro f
  induction f with
  | zero => intro d j s c hd; omega
  | succ f ih =>
    intro d j s c hd hj h0 hc k
    unfold wp_X10_positionsFitting_5
    refine ⟨a, (hb c).1, (hb c).2.1, (hb c).2.2, ?_⟩
    refine q_sizeA (hS c).1 ?_
    rw [iI_le (by omega) (by omega) (by omega) (by omega)]
    refine ⟨fun q => ?_, fun q => ?_⟩
    · rw [show d = 0 by omega] at k
      unfold sumL at k
      have := k c hc
      rwa [Int.add_zero] at this
    · obtain ⟨d', rfl⟩ : ∃ d', d = d' + 1 := ⟨d - 1, by omega⟩
      unfold sumL at k
      have hjj : 0 ≤ j ∧ j < els.length := ⟨h0, by omega⟩
      have hn := ((hS c0).2.2 j hjj.1 hjj.2).1.2.2.1
      refine q_gameAt (hb c) (hS c) hjj ?_
      refine ⟨82, ?_⟩
      refine q_fitting_28 h hS hoff hB hr hjj 82 (n j + 1).toNat 0 s c (by omega) (by omega) (by decide) hc fun c' hc' => ?_
      refine ih d' (j + 1) (s + fitC F R (c0.1 51) n w fr j) c' (by omega) (by omega) (by omega) hc' fun c'' hc'' => ?_
      have := k c'' hc''
      rw [← Int.add_assoc] at this
      exact this
end
section
variable {D : wD} {S : wS} {o : Nat → Nat} {c : cM} {F R : Int} {v : Int → Int} {post : Int32 → wS → Prop} {xp : String → wS → Prop} {yl : Int → Nat} {els : Int → List Nat} {n : Int → Int → Int} {w : Int → Int → Int → Int → Int} {mv : Int → Int → Int → Mv} {fr : Int → Int → Int → Bool} {inf : Int → Int → Nat → Int} {ys : Int → Int → Nat × Nat × Nat}
theorem q_patternCountC (h : CC D S o) (hB : BG c F R) (hr : ∀ k : Int, 0 ≤ k → k < 64 → 0 ≤ c.1 51 k ∧ c.1 51 k ≤ 15) (hS : SHL D S o c yl els n w mv fr inf ys) (hl : ∀ s : Int, (s = 0 ∨ s = 1) → offK (cLs.map o) (els s) (ys s)) {s : Int} (hs : i32 s) (k0 : inB s 0 1 = false → xp "java/lang/IndexOutOfBoundsException" (cS S o c))
    (k1 : inB s 0 1 = true → ∀ c', cSim [12] c c' → post (iI (sumL (fitC F R (c.1 51) (n s) (w s) (fr s)) 0 (els s).length)) (cS S o c')) : wp_X11_patternCount D post xp (cS S o c) (o 0) (iI s) := by
  unfold wp_X11_patternCount wp_X11_patternCount_0
  refine q_shelfOf h hs k0 fun q => ?_
  have q' := in01.mp q
  have sk := shk (D := D) (c := c) h q'
  have h40 := (hS s q').2.1
  refine ⟨o 51, c_r h rfl, (c_m h (by decide)).mpr trivial, c_k h (by decide), o 12, c_r h rfl, (c_m h (by decide)).mpr trivial, c_k h (by decide), o (sbO s), rfl, sk.1, sk.2, ?_⟩
  refine ⟨41, ?_⟩
  refine q_fitting_5 h (fun c => shb h q') (fun c' => SHL.over h c c' hl hS s q') (hl s q') hB hr 41 (els s).length 0 0 c (by omega) (by omega) (by decide) (cSim.refl _ _) fun c' hc' => ?_
  rw [Int.zero_add]
  exact k1 q c' hc'
end
