/-! PHASE 3, SHELVES -/
/-- a shelf's list at a: its games' addresses els, lengths n, positions w, moves mv, marks fr, fields inf (4 result, 5 year, 6 strength, 7 box, 8 due), rows ys -/
abbrev SHC (D : wD) (U : wS) (a yl : Nat) (els : List Nat) (n : Int → Int) (w : Int → Int → Int → Int) (mv : Int → Int → Mv) (fr : Int → Int → Bool) (inf : Int → Nat → Int) (ys : Int → Nat × Nat × Nat) : Prop :=
  AL D U a yl els ∧ (els.length ≤ 40 ∧ sN U yl < 90) ∧ ∀ g : Int, 0 ≤ g → g < els.length → GO D U (els.getD g.toNat 0) (ys g).1 (ys g).2.1 (n g) (n g) (w g) (mv g) ∧ FO D U (els.getD g.toNat 0) (ys g).2.2 (n g) (n g) (fr g) ∧ ∀ f : Nat, 4 ≤ f → f ≤ 8 → sI U (els.getD g.toNat 0) f = iI (inf g f) ∧ i32 (inf g f)
/-- a game passes through a position -/
def thruC (n : Int → Int) (w : Int → Int → Int → Int) (v : Int → Int) (g : Int) : Bool := anyL (fun k => sameB (w g k) v) 0 (n g + 1).toNat
section
variable {D : wD} {U : wS} {a yl b p : Nat} {els : List Nat} {n : Int → Int} {w : Int → Int → Int → Int} {mv : Int → Int → Mv} {fr : Int → Int → Bool} {inf : Int → Nat → Int} {ys : Int → Nat × Nat × Nat} {v : Int → Int} {post : Int32 → wS → Prop}
/-- the shelf b and its list a -/
abbrev SHB (D : wD) (U : wS) (b a : Nat) : Prop := sR U b 0 = some a ∧ wM D U a ∧ sK U a = 4
theorem q_sizeS (hb : SHB D U b a) (hS : SHC D U a yl els n w mv fr inf ys) (k : post (iI els.length) U) : wp_X10_size D post U b := by
  unfold wp_X10_size wp_X10_size_0
  exact ⟨a, hb.1, hb.2.1, hb.2.2, q_sizeA hS.1 k⟩
theorem els_at {g : Int} (h : 0 ≤ g ∧ g < els.length) : els[g.toNat]? = some (els.getD g.toNat 0) := by
  rw [List.getD_eq_getElem?_getD, List.getElem?_eq_getElem (by omega)]; rfl
theorem SHC.g8 (hS : SHC D U a yl els n w mv fr inf ys) {g : Int} (h : 0 ≤ g ∧ g < els.length) : wM D U (els.getD g.toNat 0) ∧ sK U (els.getD g.toNat 0) = 8 := by
  have := hS.1.2.2.2.2 _ (List.mem_of_getElem? (els_at h))
  exact ⟨Or.inl this.1, this.2⟩
theorem q_gameAt {post : Option Nat → wS → Prop} (hb : SHB D U b a) (hS : SHC D U a yl els n w mv fr inf ys) {g : Int} (h : 0 ≤ g ∧ g < els.length) (k : post (some (els.getD g.toNat 0)) U) : wp_X10_gameAt D post U b (iI g) := by
  have h40 := hS.2.1
  unfold wp_X10_gameAt wp_X10_gameAt_0 wp_X10_gameAt_29 wp_X10_gameAt_30
  rw [show (0 : Int32) = iI 0 from rfl]
  refine ⟨fun q => absurd ((iI_lt (by omega) (by omega) (by decide) (by decide)).mp q) (by omega), fun _ => ⟨a, hb.1, hb.2.1, hb.2.2, ?_⟩⟩
  refine q_sizeA hS.1 ?_
  refine ⟨fun q => absurd ((iI_le (by omega) (by omega) (by omega) (by omega)).mp q) (by omega), fun _ => ⟨a, hb.1, hb.2.1, hb.2.2, ?_⟩⟩
  refine q_getA hS.1 (by omega) h ?_
  rw [els_at h]
  have g8 := hS.g8 h
  exact ⟨fun y hy => by injection hy with hy; rw [← hy]; exact g8, k⟩
theorem q_gameAtN {post : Option Nat → wS → Prop} (hb : SHB D U b a) (hS : SHC D U a yl els n w mv fr inf ys) {g : Int} (hg : i32 g) (h : ¬ (0 ≤ g ∧ g < els.length)) (k : post none U) : wp_X10_gameAt D post U b (iI g) := by
  have h40 := hS.2.1
  unfold wp_X10_gameAt wp_X10_gameAt_0 wp_X10_gameAt_29 wp_X10_gameAt_30
  rw [show (0 : Int32) = iI 0 from rfl]
  refine ⟨fun _ => k, fun q => ⟨a, hb.1, hb.2.1, hb.2.2, ?_⟩⟩
  have q : ¬ g < 0 := fun z => q ((iI_lt hg.1 hg.2 (by decide) (by decide)).mpr z)
  refine q_sizeA hS.1 ?_
  exact ⟨fun _ => k, fun z => absurd ((iI_le (by omega) (by omega) hg.1 hg.2).mpr (by omega)) z⟩
theorem q_passing_5 (hb : SHB D U b a) (hS : SHC D U a yl els n w mv fr inf ys) (hA : PO U p v) (hv : rgV v) {r : Int} (hr : i32 r) : ∀ (f d : Nat) (j s : Int), d < f → j + d = els.length → 0 ≤ j →
    post (iI (s + sumL (fun g => if (decide (r = -1) || decide (inf g 4 = r)) && thruC n w v g then 1 else 0) j d)) U → wp_X10_passing_5 D post f U b p (iI r) (iI s) (iI j) := by
  have h40 := hS.2.1
  intro f
  induction f with
  | zero => intro d j s hd; omega
  | succ f ih =>
    intro d j s hd hj h0 k
    unfold wp_X10_passing_5
    refine ⟨a, hb.1, hb.2.1, hb.2.2, ?_⟩
    refine q_sizeA hS.1 ?_
    rw [iI_le (by omega) (by omega) (by omega) (by omega)]
    refine ⟨fun q => ?_, fun q => ?_⟩
    · rw [show d = 0 by omega] at k
      unfold sumL at k
      rwa [Int.add_zero] at k
    · obtain ⟨d', rfl⟩ : ∃ d', d = d' + 1 := ⟨d - 1, by omega⟩
      unfold sumL at k
      rw [← Int.add_assoc] at k
      have hjj : 0 ≤ j ∧ j < els.length := ⟨h0, by omega⟩
      have gg := hS.2.2 j h0 hjj.2
      have nx : ∀ t : Int, t = s + (if ((decide (r = -1) || decide (inf j 4 = r)) && thruC n w v j) = true then 1 else 0) → wp_X10_passing_56 D post (wp_X10_passing_5 D post f) U b p (iI r) (iI t) (iI j) := by
        intro t ht
        unfold wp_X10_passing_56
        intro x1 e1
        rw [e1, show (1 : Int32) = iI 1 from rfl, iI_add]
        exact ih d' (j + 1) t (by omega) (by omega) (by omega) (by rw [ht]; exact k)
      refine q_gameAt hb hS hjj ?_
      refine ⟨fun q => absurd q (by simp), fun y hy => ?_⟩
      injection hy with hy
      rw [← hy]
      have at44 : (decide (r = -1) || decide (inf j 4 = r)) = true → wp_X10_passing_44 D post (wp_X10_passing_5 D post f) U b p (iI r) (iI s) (iI j) (els.getD j.toNat 0) := by
        intro hq
        unfold wp_X10_passing_44
        refine q_passesThrough gg.1 hA hv ?_
        rw [bI_0]
        have pc : anyL (fun k => sameB (w j k) v) 0 (n j + 1).toNat = thruC n w v j := rfl
        rw [pc]
        refine ⟨fun z => nx s (by rw [z, Bool.and_false]; simp), fun z x4 e4 => ?_⟩
        rw [e4, show (1 : Int32) = iI 1 from rfl, iI_add]
        exact nx (s + 1) (by rw [hq, show thruC n w v j = true by simpa using z]; rfl)
      have g4 := gg.2.2 4 (by decide) (by decide)
      refine ⟨(hS.g8 hjj).1, (hS.g8 hjj).2, ?_⟩
      rw [g4.1, show (-1 : Int32) = iI (-1) from rfl, iI_eq hr.1 hr.2 (by decide) (by decide), iI_eq g4.2.1 g4.2.2 hr.1 hr.2]
      refine ⟨fun q1 => at44 (by rw [decide_eq_true q1]; rfl), fun q1 => ⟨fun q2 => nx s (by rw [decide_eq_false q1, decide_eq_false q2]; simp), fun q2 => at44 (by rw [decide_eq_true q2, Bool.or_true])⟩⟩
theorem q_passingS (hb : SHB D U b a) (hS : SHC D U a yl els n w mv fr inf ys) (hA : PO U p v) (hv : rgV v) {r : Int} (hr : i32 r) (k : post (iI (sumL (fun g => if (decide (r = -1) || decide (inf g 4 = r)) && thruC n w v g then 1 else 0) 0 els.length)) U) : wp_X10_passing D post U b p (iI r) := by
  have h40 := hS.2.1
  refine ⟨41, ?_⟩
  refine q_passing_5 hb hS hA hv hr 41 els.length 0 0 (by omega) (by omega) (by decide) ?_
  rw [Int.zero_add]; exact k
theorem q_years_6 (hb : SHB D U b a) (hS : SHC D U a yl els n w mv fr inf ys) (hA : PO U p v) (hv : rgV v) {x y : Int} (hx : i32 x) (hy : i32 y) : ∀ (f d : Nat) (j s : Int), d < f → j + d = els.length → 0 ≤ j →
    post (iI (s + sumL (fun g => if inB (inf g 5) x y && thruC n w v g then 1 else 0) j d)) U → wp_X10_passingInYears_6 D post f U b p (iI x) (iI y) (iI s) (iI j) := by
  have h40 := hS.2.1
  intro f
  induction f with
  | zero => intro d j s hd; omega
  | succ f ih =>
    intro d j s hd hj h0 k
    unfold wp_X10_passingInYears_6
    refine ⟨a, hb.1, hb.2.1, hb.2.2, ?_⟩
    refine q_sizeA hS.1 ?_
    rw [iI_le (by omega) (by omega) (by omega) (by omega)]
    refine ⟨fun q => ?_, fun q => ?_⟩
    · rw [show d = 0 by omega] at k
      unfold sumL at k
      rwa [Int.add_zero] at k
    · obtain ⟨d', rfl⟩ : ∃ d', d = d' + 1 := ⟨d - 1, by omega⟩
      unfold sumL at k
      rw [← Int.add_assoc] at k
      have hjj : 0 ≤ j ∧ j < els.length := ⟨h0, by omega⟩
      have gg := hS.2.2 j h0 hjj.2
      have nx : ∀ t : Int, t = s + (if (inB (inf j 5) x y && thruC n w v j) = true then 1 else 0) → wp_X10_passingInYears_61 D post (wp_X10_passingInYears_6 D post f) U b p (iI x) (iI y) (iI t) (iI j) := by
        intro t ht
        unfold wp_X10_passingInYears_61
        intro x1 e1
        rw [e1, show (1 : Int32) = iI 1 from rfl, iI_add]
        exact ih d' (j + 1) t (by omega) (by omega) (by omega) (by rw [ht]; exact k)
      refine q_gameAt hb hS hjj ?_
      refine ⟨fun q => absurd q (by simp), fun z hz => ?_⟩
      injection hz with hz
      rw [← hz]
      have g5 := gg.2.2 5 (by decide) (by decide)
      refine ⟨(hS.g8 hjj).1, (hS.g8 hjj).2, ?_⟩
      rw [g5.1, iI_lt g5.2.1 g5.2.2 hx.1 hx.2, iI_lt hy.1 hy.2 g5.2.1 g5.2.2]
      refine ⟨fun q1 => nx s ?_, fun q1 => ⟨fun q2 => nx s ?_, fun q2 => ?_⟩⟩
      · unfold inB; rw [decide_eq_false (by omega)]; simp
      · unfold inB; rw [decide_eq_false (show ¬ inf j 5 ≤ y by omega)]; simp
      · refine q_passesThrough gg.1 hA hv ?_
        have hin : inB (inf j 5) x y = true := inB_iff.mpr ⟨by omega, by omega⟩
        rw [bI_0]
        have pc : anyL (fun k => sameB (w j k) v) 0 (n j + 1).toNat = thruC n w v j := rfl
        rw [pc]
        refine ⟨fun z => nx s (by rw [z, Bool.and_false]; simp), fun z x4 e4 => ?_⟩
        rw [e4, show (1 : Int32) = iI 1 from rfl, iI_add]
        exact nx (s + 1) (by rw [hin, show thruC n w v j = true by simpa using z]; rfl)
theorem q_yearsS (hb : SHB D U b a) (hS : SHC D U a yl els n w mv fr inf ys) (hA : PO U p v) (hv : rgV v) {x y : Int} (hx : i32 x) (hy : i32 y) (k : post (iI (sumL (fun g => if inB (inf g 5) x y && thruC n w v g then 1 else 0) 0 els.length)) U) : wp_X10_passingInYears D post U b p (iI x) (iI y) := by
  have h40 := hS.2.1
  refine ⟨41, ?_⟩
  refine q_years_6 hb hS hA hv hx hy 41 els.length 0 0 (by omega) (by omega) (by decide) ?_
  rw [Int.zero_add]; exact k
end
