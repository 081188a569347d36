section
variable {D : wD} {S : wS} {o : Nat → Nat} {c : cM} {F R : Int} {v : Int → Int} {post : Int32 → wS → Prop} {a b yl : Nat} {els : List Nat} {n : Int → Int} {w : Int → Int → Int → Int} {mv : Int → Int → Mv} {fr : Int → Int → Bool} {inf : Int → Nat → Int} {ys : Int → Nat × Nat × Nat}
/-- the games of a shelf go by the rules -/
abbrev RUL (F R : Int) (l : Nat) (n : Int → Int) (w : Int → Int → Int → Int) (mv : Int → Int → Mv) : Prop := ∀ g : Int, 0 ≤ g → g < l → ∀ k : Int, 0 ≤ k → k < n g → PV F R (w g k) ∧ okMv F R (w g k) (mv g k) ∧ w g (k + 1) = mkT F R (w g k) (mv g k)
theorem q_replay_53 (h : CC D S o) (hS : ∀ c, SHC D (cS S o c) a yl els n w mv fr inf ys) (hR : RUL F R els.length n w mv) {c0 : cM} (hB : BG c0 F R) (hA : PAt c0 11 v) (hv : rgV v) {j : Int} (hj : 0 ≤ j ∧ j < els.length) {k5 : wS → Nat → Nat → Nat → Int32 → Int32 → Prop} {s : Int} :
    ∀ (f d : Nat) (i : Int) (q : Bool) (c : cM), d < f → i + d = n j → 0 ≤ i → cSim [12] c0 c → PAt c 12 (w j i) →
    (∀ c', cSim [12] c0 c' → k5 (cS S o c') b (o 11) (o 12) (iI (s + if (q || anyL (fun k => sameB (w j k) v) (i + 1) d) then 1 else 0)) (iI (j + 1))) →
    wp_X10_replaysPassing_53 D post k5 f (cS S o c) b (o 11) (o 12) (iI s) (iI j) (els.getD j.toNat 0) (iI (bI q)) (iI i) := by
  have hn := ((hS c0).2.2 j hj.1 hj.2).1.2.2.1
  have h40 := (hS c0).2.1
  intro f
  induction f with
  | zero => intro d i q c hd; omega
  | succ f ih =>
    intro d i q c hd hi h0 hc hP k
    have gg := (hS c).2.2 j hj.1 hj.2
    have hB' : BG c F R := hc.B (fun m hm => by simp; omega) hB
    unfold wp_X10_replaysPassing_53
    rw [gg.1.2.2.2.1, iI_le (by omega) (by omega) (by omega) (by omega)]
    refine ⟨fun z => ?_, fun z => ?_⟩
    · rw [show d = 0 by omega] at k
      have k := k c hc
      unfold anyL at k
      rw [Bool.or_false] at k
      have fin : ∀ t : Int, t = (if q = true then 1 else 0) → wp_X10_replaysPassing_101 D post k5 (cS S o c) b (o 11) (o 12) (iI j) (iI s) (iI t) := by
        intro t ht
        unfold wp_X10_replaysPassing_101 wp_X10_replaysPassing_103
        intro x1 e1 x2 e2
        rw [e1, e2, show (1 : Int32) = iI 1 from rfl, iI_add, iI_add, ht]
        exact k
      rw [bI_0]
      exact ⟨fun y => fin 0 (by rw [y]; simp), fun y => fin 1 (by rw [show q = true by simpa using y, if_pos rfl])⟩
    · obtain ⟨d', rfl⟩ : ∃ d', d = d' + 1 := ⟨d - 1, by omega⟩
      have rl := hR j hj.1 hj.2 i h0 (by omega)
      have svn := gg.1.2.2.2.2.1 (i + 1) (by omega) (by omega)
      refine q_moveAt gg.1 (i := i) ⟨h0, by omega⟩ ?_
      refine q_apply h hB' (p := 12) (by decide) rl.1.1 rl.1.2.1 rl.1.2.2.1 rl.1.2.2.2.1 (proper_parts rl.1.2.2.2.2).2.2.1 hP rl.2.1 ?_
      rw [← rl.2.2]
      have hc2 : cSim [12] c0 (putP c 12 (w j (i + 1))) := hc.trans (putP_sim c 12 _)
      have hP2 := putP_at c 12 (w j (i + 1))
      have hA2 : PAt (putP c 12 (w j (i + 1))) 11 v := hc2.P (by decide) hA
      refine q_isLike (PAt.po h (p := 12) (by decide) hP2) svn.2 (PAt.po h isP11 hA2) hv ?_
      intro x9 e9 x10 e10
      rw [e9, e10, bI_or, show (1 : Int32) = iI 1 from rfl, iI_add]
      refine ih d' (i + 1) _ _ (by omega) (by omega) (by omega) hc2 hP2 fun c' hc' => ?_
      have := k c' hc'
      rw [show anyL (fun k => sameB (w j k) v) (i + 1) (d' + 1) = (sameB (w j (i + 1)) v || anyL (fun k => sameB (w j k) v) (i + 1 + 1) d') from rfl, ← Bool.or_assoc] at this
      exact this
theorem q_replay_5 (h : CC D S o) (hb : ∀ c, SHB D (cS S o c) b a) (hS : ∀ c, SHC D (cS S o c) a yl els n w mv fr inf ys) (hoff : offK (cLs.map o) els ys) (hR : RUL F R els.length n w mv) {c0 : cM} (hB : BG c0 F R) (hA : PAt c0 11 v) (hv : rgV v) :
    ∀ (f d : Nat) (j s : Int) (c : cM), d < f → j + d = els.length → 0 ≤ j → cSim [12] c0 c →
    (∀ c', cSim [12] c0 c' → post (iI (s + sumL (fun g => if thruC n w v g then 1 else 0) j d)) (cS S o c')) → wp_X10_replaysPassing_5 D post f (cS S o c) b (o 11) (o 12) (iI s) (iI j) := by
  have h40 := (hS c0).2.1
  intro f
  induction f with
  | zero => intro d j s c hd; omega
  | succ f ih =>
    intro d j s c hd hj h0 hc k
    unfold wp_X10_replaysPassing_5
    refine ⟨a, (hb c).1, (hb c).2.1, (hb c).2.2, ?_⟩
    refine q_sizeA (hS c).1 ?_
    rw [iI_le (by omega) (by omega) (by omega) (by omega)]
    refine ⟨fun q => ?_, fun q => ?_⟩
    · rw [show d = 0 by omega] at k
      unfold sumL at k
      have := k c hc
      rwa [Int.add_zero] at this
    · obtain ⟨d', rfl⟩ : ∃ d', d = d' + 1 := ⟨d - 1, by omega⟩
      unfold sumL at k
      have hjj : 0 ≤ j ∧ j < els.length := ⟨h0, by omega⟩
      have gg := (hS c).2.2 j hjj.1 hjj.2
      have hn := gg.1.2.2.1
      refine q_gameAt (hb c) (hS c) hjj ?_
      refine ⟨fun z => absurd z (by simp), fun y hy => ?_⟩
      injection hy with hy
      rw [← hy]
      refine ⟨((hS c).g8 hjj).1, ((hS c).g8 hjj).2, (ys j).1, gg.1.1.1, gg.1.1.2.1, gg.1.1.2.2.1, ?_⟩
      have sv := gg.1.2.2.2.2.1 0 (by decide) hn.1
      rw [show (0 : Int32) = iI 0 from rfl]
      refine q_load h (p := 12) (by decide) (fun c' _ => (c_ex (D := D) (S := S) (o := o) c c').j gg.1.1.2.1 (hoff j hjj.1 hjj.2).2.1) sv.2 sv.1 ?_ ?_ ?_
      · have := gg.1.1.2.2.2
        show 0 ≤ (0 : Int) ∧ 0 * 5 + 5 ≤ ((sN (cS S o c) (ys j).1 : Nat) : Int)
        omega
      · have := gg.1.1.2.2.2
        show sN (cS S o c) (ys j).1 < 1000000
        omega
      have hc2 : cSim [12] c0 (putP c 12 (w j 0)) := hc.trans (putP_sim c 12 _)
      have hP2 := putP_at c 12 (w j 0)
      have hA2 : PAt (putP c 12 (w j 0)) 11 v := hc2.P (by decide) hA
      refine q_isLike (PAt.po h (p := 12) (by decide) hP2) sv.2 (PAt.po h isP11 hA2) hv ?_
      refine ⟨82, ?_⟩
      refine q_replay_53 h hS hR hB hA hv hjj 82 (n j).toNat 0 _ _ (by omega) (by omega) (by decide) hc2 hP2 fun c' hc' => ?_
      refine ih d' (j + 1) _ c' (by omega) (by omega) (by omega) hc' fun c'' hc'' => ?_
      have := k c'' hc''
      have et : thruC n w v j = (sameB (w j 0) v || anyL (fun k => sameB (w j k) v) (0 + 1) (n j).toNat) := by
        unfold thruC
        rw [show (n j + 1).toNat = (n j).toNat + 1 by omega]
        rfl
      rw [← et, Int.add_assoc]
      exact this
end
