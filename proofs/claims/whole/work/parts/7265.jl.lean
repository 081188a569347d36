section
variable {D : wD} {S U : wS} {o : Nat → Nat} {c c' : cM} {x : Nat} {A : Nat → Nat} {m m' : xM} {F R F' R' : Int} {v v' u : Int → Int} {n n' : Int} {w w' : Int → Int → Int} {mv mv' : Int → Mv} {L W : List Int} {yb : Nat → Nat} {yl : Int → Nat} {d : Int → SDt} {ye lw : List Nat} {q q' : Int} {b Ln : Nat} {xs : Nat → Int32} {a3 a4 : Nat} {P Q : wS → Prop} {ε : Bool}
theorem SIM.put3 (h : SIM m m') (a : Int) (u : Int → Int) : SIM m (putV m' a u) := fun r j k => by
  have : (r == 3) = false := by
    by_cases z : r = 3
    · rw [z] at k; exact nomatch k
    · simpa using z
  rw [putV_f _ _ _ _ this]; exact h r j k
/-- CALL: isPinned -/
theorem call_isPinned (hD : wDok D b Ln xs) (hR : RELo D S o x A [a3, a4] q ε) {a : Int} (ha : i32 a) {r : wS → Int32} {hv : wS → Prop} (hvv : ∀ S', CST D S' → hv S' ∧ r S' = iI a) (hP : ∀ S', RELo D S' o x A [a3, a4] (q + 1) ε → P S') :
    wp_L_isPinned D (fun r1 S2 => hv S2 ∧ wp_X12_isPinned D (fun r3 S4 => CMPb D x a3 P Q r1 r3 S4) S2 x (r S2)) S (o 0) (iI a) a3 := by
  refine REL.elim hR fun c m F R v n w mv L W yb yl d ye hf lk ev => ?_
  unfold wp_L_isPinned wp_L_isPinned_0
  have e1 := hf.1.1.2
  obtain ⟨w1, w2, w3, w4, w5, w6, w7⟩ := hf.2.2.2.1.1.1
  have pe := prop_eq hf lk
  have hK : properB F R (gv m 0) = true → kingB F R (pv m) (pv m 64) < F * R := fun z => by
    rw [pe] at z; rw [ev]
    exact (hf.2.2.2.1.1.1.pv z).kg (bfr_of hf) (by have := w2.s; omega)
  rw [e1]
  refine q_isPinnedC hf.1.1.1 w1 w2 w3 w4 w5 w6 w7 ha (fun z => .inl ⟨rfl, ?_⟩) (fun z z2 => .inr ⟨rfl, ?_⟩) (fun z z2 => ?_)
  · rw [← e1]
    obtain ⟨h1, h2⟩ := hvv _ hf.2.1.1
    refine ⟨h1, ?_⟩
    rw [h2, hf.1.2.1.2]
    exact q_isPinned hf.1.2.1.1 hf.2.2.2.2.1 hK ha (fun _ => errb_ok hD hf lk (.inl rfl) ((SIM.rf m).up0 1) rfl hP) (fun y => by rw [z] at y; exact nomatch y) (fun y => by rw [z] at y; exact nomatch y)
  · rw [← e1]
    obtain ⟨h1, h2⟩ := hvv _ hf.2.1.1
    refine ⟨h1, ?_⟩
    rw [h2, hf.1.2.1.2]
    exact q_isPinned hf.1.2.1.1 hf.2.2.2.2.1 hK ha (fun y => by rw [z] at y; exact nomatch y) (fun _ _ => errb_ok hD hf lk (.inr (.inl rfl)) (((SIM.rf m).up0 0).ldm.up0 2) rfl hP) (fun _ y => by rw [pe, z2] at y; exact nomatch y)
  · rw [← e1]
    refine storeb_ok hD hf (fun S5 h5 e5 => ?_)
    obtain ⟨h1, h2⟩ := hvv _ h5.2.1.1
    refine ⟨h1, ?_⟩
    rw [h2, h5.1.2.1.2]
    refine q_isPinned h5.1.2.1.1 h5.2.2.2.2.1 hK ha (fun y => by rw [z] at y; exact nomatch y) (fun _ y => by rw [pe, z2] at y; exact nomatch y) (fun _ _ m' hm => ?_)
    have s0 : SIM m m' := by
      rcases hm with rfl | rfl
      · exact ((SIM.rf m).up0 0).ldm.up0 0
      · exact (((SIM.rf m).up0 0).ldm.up0 0).put3 _ _
    have h50 : m' 50 0 = 0 := by
      rcases hm with rfl | rfl
      · rfl
      · unfold pinM; rw [putV_f _ _ _ _ rfl]; rfl
    exact endb_ok hD h5 lk s0 h50 hP e5 (by rw [ev])
end
