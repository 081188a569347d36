section
variable {D : wD} {U : wS} {a yl b p : Nat} {els : List Nat} {n : Int → Int} {w : Int → Int → Int → Int} {mv : Int → Int → Mv} {fr : Int → Int → Bool} {inf : Int → Nat → Int} {ys : Int → Nat × Nat × Nat} {v : Int → Int} {post : Int32 → wS → Prop}
theorem q_strength_4 (hb : SHB D U b a) (hS : SHC D U a yl els n w mv fr inf ys) (hA : PO U p v) (hv : rgV v) : ∀ (f d : Nat) (j s : Int), d < f → j + d = els.length → 0 ≤ j →
    post (iI (s + sumL (fun g => if thruC n w v g then inf g 6 else 0) j d)) U → wp_X10_strengthsPassing_4 D post f U b p (iI s) (iI j) := by
  have h40 := hS.2.1
  intro f
  induction f with
  | zero => intro d j s hd; omega
  | succ f ih =>
    intro d j s hd hj h0 k
    unfold wp_X10_strengthsPassing_4
    refine ⟨a, hb.1, hb.2.1, hb.2.2, ?_⟩
    refine q_sizeA hS.1 ?_
    rw [iI_le (by omega) (by omega) (by omega) (by omega)]
    refine ⟨fun q => ?_, fun q => ?_⟩
    · rw [show d = 0 by omega] at k
      unfold sumL at k
      rwa [Int.add_zero] at k
    · obtain ⟨d', rfl⟩ : ∃ d', d = d' + 1 := ⟨d - 1, by omega⟩
      unfold sumL at k
      rw [← Int.add_assoc] at k
      have hjj : 0 ≤ j ∧ j < els.length := ⟨h0, by omega⟩
      have gg := hS.2.2 j h0 hjj.2
      have nx : ∀ t : Int, t = s + (if thruC n w v j = true then inf j 6 else 0) → wp_X10_strengthsPassing_44 D post (wp_X10_strengthsPassing_4 D post f) U b p (iI t) (iI j) := by
        intro t ht
        unfold wp_X10_strengthsPassing_44
        intro x1 e1
        rw [e1, show (1 : Int32) = iI 1 from rfl, iI_add]
        exact ih d' (j + 1) t (by omega) (by omega) (by omega) (by rw [ht]; exact k)
      refine q_gameAt hb hS hjj ?_
      refine ⟨fun q => absurd q (by simp), fun z hz => ?_⟩
      injection hz with hz
      rw [← hz]
      have g6 := gg.2.2 6 (by decide) (by decide)
      refine ⟨(hS.g8 hjj).1, (hS.g8 hjj).2, ?_⟩
      refine q_passesThrough gg.1 hA hv ?_
      rw [bI_0]
      have pc : anyL (fun k => sameB (w j k) v) 0 (n j + 1).toNat = thruC n w v j := rfl
      rw [pc]
      refine ⟨fun z => nx s (by rw [z]; simp), fun z x12 e12 => ?_⟩
      rw [e12, g6.1, iI_add]
      exact nx (s + inf j 6) (by rw [show thruC n w v j = true by simpa using z, if_pos rfl])
theorem q_strengthS (hb : SHB D U b a) (hS : SHC D U a yl els n w mv fr inf ys) (hA : PO U p v) (hv : rgV v) (k : post (iI (sumL (fun g => if thruC n w v g then inf g 6 else 0) 0 els.length)) U) : wp_X10_strengthsPassing D post U b p := by
  have h40 := hS.2.1
  refine ⟨41, ?_⟩
  refine q_strength_4 hb hS hA hv 41 els.length 0 0 (by omega) (by omega) (by decide) ?_
  rw [Int.zero_add]; exact k
theorem q_movesAll_4 (hb : SHB D U b a) (hS : SHC D U a yl els n w mv fr inf ys) : ∀ (f d : Nat) (j s : Int), d < f → j + d = els.length → 0 ≤ j →
    post (iI (s + sumL n j d)) U → wp_X10_movesOfAll_4 D post f U b (iI s) (iI j) := by
  have h40 := hS.2.1
  intro f
  induction f with
  | zero => intro d j s hd; omega
  | succ f ih =>
    intro d j s hd hj h0 k
    unfold wp_X10_movesOfAll_4
    refine ⟨a, hb.1, hb.2.1, hb.2.2, ?_⟩
    refine q_sizeA hS.1 ?_
    rw [iI_le (by omega) (by omega) (by omega) (by omega)]
    refine ⟨fun q => ?_, fun q => ?_⟩
    · rw [show d = 0 by omega] at k
      unfold sumL at k
      rwa [Int.add_zero] at k
    · obtain ⟨d', rfl⟩ : ∃ d', d = d' + 1 := ⟨d - 1, by omega⟩
      unfold sumL at k
      rw [← Int.add_assoc] at k
      have hjj : 0 ≤ j ∧ j < els.length := ⟨h0, by omega⟩
      have gg := hS.2.2 j h0 hjj.2
      refine q_gameAt hb hS hjj ?_
      refine ⟨fun q => absurd q (by simp), fun z hz => ?_⟩
      injection hz with hz
      rw [← hz]
      refine ⟨(hS.g8 hjj).1, (hS.g8 hjj).2, ?_⟩
      rw [gg.1.2.2.2.1]
      unfold wp_X10_movesOfAll_34
      intro x1 e1 x2 e2
      rw [e1, e2, show (1 : Int32) = iI 1 from rfl, iI_add, iI_add]
      exact ih d' (j + 1) (s + n j) (by omega) (by omega) (by omega) k
theorem q_movesAllS (hb : SHB D U b a) (hS : SHC D U a yl els n w mv fr inf ys) (k : post (iI (sumL n 0 els.length)) U) : wp_X10_movesOfAll D post U b := by
  have h40 := hS.2.1
  refine ⟨41, ?_⟩
  refine q_movesAll_4 hb hS 41 els.length 0 0 (by omega) (by omega) (by decide) ?_
  rw [Int.zero_add]; exact k
/-- the fresh positions of a game -/
def freshC (n : Int → Int) (fr : Int → Int → Bool) (g : Int) : Int := sumL (fun k => if fr g k then 1 else 0) 0 (n g + 1).toNat
theorem q_diff_24 (hS : SHC D U a yl els n w mv fr inf ys) {j : Int} (hj : 0 ≤ j ∧ j < els.length) {k4 : wS → Nat → Int32 → Int32 → Prop} : ∀ (f d : Nat) (i s : Int), d < f → i + d = n j + 1 → 0 ≤ i →
    k4 U b (iI (s + sumL (fun k => if fr j k then 1 else 0) i d)) (iI (j + 1)) → wp_X10_differentPositions_24 D post k4 f U b (iI s) (iI j) (some (els.getD j.toNat 0)) (iI i) := by
  have gg := hS.2.2 j hj.1 hj.2
  have hn := gg.1.2.2.1
  have h40 := hS.2.1
  intro f
  induction f with
  | zero => intro d i s hd; omega
  | succ f ih =>
    intro d i s hd hi h0 k
    unfold wp_X10_differentPositions_24
    refine ⟨fun q => absurd q (by simp), fun z hz => ?_⟩
    injection hz with hz
    rw [← hz]
    refine ⟨(hS.g8 hj).1, (hS.g8 hj).2, ?_⟩
    rw [gg.1.2.2.2.1, iI_lt (by omega) (by omega) (by omega) (by omega)]
    refine ⟨fun q => ?_, fun q => ?_⟩
    · rw [show d = 0 by omega] at k
      unfold sumL at k
      unfold wp_X10_differentPositions_60
      intro x1 e1
      rw [e1, show (1 : Int32) = iI 1 from rfl, iI_add]
      rwa [Int.add_zero] at k
    · obtain ⟨d', rfl⟩ : ∃ d', d = d' + 1 := ⟨d - 1, by omega⟩
      unfold sumL at k
      rw [← Int.add_assoc] at k
      refine q_isFreshAt gg.2.1 (i := i) ⟨h0, by omega⟩ ?_
      rw [bI_0]
      have nx : ∀ t : Int, t = (if fr j i = true then 1 else 0) → wp_X10_differentPositions_52 D post k4 (wp_X10_differentPositions_24 D post k4 f) U b (iI j) (els.getD j.toNat 0) (iI i) (iI s) (iI t) := by
        intro t ht
        unfold wp_X10_differentPositions_52
        intro x1 e1 x2 e2
        rw [e1, e2, show (1 : Int32) = iI 1 from rfl, iI_add, iI_add]
        exact ih d' (i + 1) (s + t) (by omega) (by omega) (by omega) (by rw [ht]; exact k)
      exact ⟨fun z => nx 0 (by rw [z]; simp), fun z => nx 1 (by rw [show fr j i = true by simpa using z, if_pos rfl])⟩
theorem q_diff_4 (hb : SHB D U b a) (hS : SHC D U a yl els n w mv fr inf ys) : ∀ (f d : Nat) (j s : Int), d < f → j + d = els.length → 0 ≤ j →
    post (iI (s + sumL (freshC n fr) j d)) U → wp_X10_differentPositions_4 D post f U b (iI s) (iI j) := by
  have h40 := hS.2.1
  intro f
  induction f with
  | zero => intro d j s hd; omega
  | succ f ih =>
    intro d j s hd hj h0 k
    unfold wp_X10_differentPositions_4
    refine ⟨a, hb.1, hb.2.1, hb.2.2, ?_⟩
    refine q_sizeA hS.1 ?_
    rw [iI_le (by omega) (by omega) (by omega) (by omega)]
    refine ⟨fun q => ?_, fun q => ?_⟩
    · rw [show d = 0 by omega] at k
      unfold sumL at k
      rwa [Int.add_zero] at k
    · obtain ⟨d', rfl⟩ : ∃ d', d = d' + 1 := ⟨d - 1, by omega⟩
      unfold sumL at k
      rw [← Int.add_assoc] at k
      have hjj : 0 ≤ j ∧ j < els.length := ⟨h0, by omega⟩
      have gg := hS.2.2 j h0 hjj.2
      have hn := gg.1.2.2.1
      refine q_gameAt hb hS hjj ?_
      refine ⟨82, ?_⟩
      refine q_diff_24 hS hjj 82 (n j + 1).toNat 0 s (by omega) (by omega) (by decide) ?_
      exact ih d' (j + 1) (s + freshC n fr j) (by omega) (by omega) (by omega) k
theorem q_diffS (hb : SHB D U b a) (hS : SHC D U a yl els n w mv fr inf ys) (k : post (iI (sumL (freshC n fr) 0 els.length)) U) : wp_X10_differentPositions D post U b := by
  have h40 := hS.2.1
  refine ⟨41, ?_⟩
  refine q_diff_4 hb hS 41 els.length 0 0 (by omega) (by omega) (by decide) ?_
  rw [Int.zero_add]; exact k
/-- whether a shelf has a game like another -/
theorem q_like_2 (hb : SHB D U b a) (hS : SHC D U a yl els n w mv fr inf ys) {g' y0' y1' : Nat} {r' n' : Int} {w' : Int → Int → Int} {mv' : Int → Mv} (hG : GO D U g' y0' y1' r' n' w' mv') : ∀ (f d : Nat) (j : Int), d < f → j + d = els.length → 0 ≤ j →
    post (iI (bI (anyL (fun g => likeB (n g) n' (w g) w' (mv g) mv') j d))) U → wp_X10_hasLike_2 D post f U b g' (iI j) := by
  have h40 := hS.2.1
  intro f
  induction f with
  | zero => intro d j hd; omega
  | succ f ih =>
    intro d j hd hj h0 k
    unfold wp_X10_hasLike_2
    refine ⟨a, hb.1, hb.2.1, hb.2.2, ?_⟩
    refine q_sizeA hS.1 ?_
    rw [iI_le (by omega) (by omega) (by omega) (by omega)]
    refine ⟨fun q => ?_, fun q => ?_⟩
    · rw [show d = 0 by omega] at k
      exact ⟨nr0, k⟩
    · obtain ⟨d', rfl⟩ : ∃ d', d = d' + 1 := ⟨d - 1, by omega⟩
      unfold anyL at k
      have hjj : 0 ≤ j ∧ j < els.length := ⟨h0, by omega⟩
      have gg := hS.2.2 j h0 hjj.2
      refine q_gameAt hb hS hjj ?_
      refine ⟨fun q => absurd q (by simp), fun z hz => ?_⟩
      injection hz with hz
      rw [← hz]
      refine ⟨(hS.g8 hjj).1, (hS.g8 hjj).2, ?_⟩
      refine q_isLikeG gg.1 hG ?_
      rw [bI_0]
      refine ⟨fun z => ?_, fun z => ?_⟩
      · rw [z, Bool.false_or] at k
        unfold wp_X10_hasLike_33
        intro x1 e1
        rw [e1, show (1 : Int32) = iI 1 from rfl, iI_add]
        exact ih d' (j + 1) (by omega) (by omega) (by omega) k
      · rw [show likeB (n j) n' (w j) w' (mv j) mv' = true by simpa using z, Bool.true_or] at k
        exact ⟨nr1, k⟩
theorem q_hasLikeS (hb : SHB D U b a) (hS : SHC D U a yl els n w mv fr inf ys) {g' y0' y1' : Nat} {r' n' : Int} {w' : Int → Int → Int} {mv' : Int → Mv} (hG : GO D U g' y0' y1' r' n' w' mv') (k : post (iI (bI (anyL (fun g => likeB (n g) n' (w g) w' (mv g) mv') 0 els.length))) U) : wp_X10_hasLike D post U b g' := by
  have h40 := hS.2.1
  exact ⟨41, q_like_2 hb hS hG 41 els.length 0 (by omega) (by omega) (by decide) k⟩
end
