section
variable {D : wD} {S U : wS} {o : Nat → Nat} {c c' : cM} {x : Nat} {A : Nat → Nat} {m m' : xM} {F R F' R' : Int} {v v' : Int → Int} {n n' : Int} {w w' : Int → Int → Int} {mv mv' : Int → Mv} {L W : List Int} {yb : Nat → Nat} {yl : Int → Nat} {d : Int → SDt} {ye lw : List Nat} {q q' : Int} {b Ln : Nat} {xs : Nat → Int32} {a3 a4 : Nat} {P Q : wS → Prop} {ε : Bool}
theorem call_moveTo (hD : wDok D b Ln xs) (hR : RELo D S o x A [a3, a4] q ε) {i : Int} (hi : i32 i) {r : wS → Int32} {hv : wS → Prop} (hvv : ∀ S', CST D S' → hv S' ∧ r S' = iI i) (hP : ∀ S', RELo D S' o x A [a3, a4] (q + 1) ε → P S') :
    wp_L_moveTo D (fun r1 S2 => hv S2 ∧ wp_X12_moveTo D (fun r3 S4 => CMPo D x a3 P Q r1 r3 S4) S2 x (r S2)) S (o 0) (iI i) a3 := by
  refine REL.elim hR fun c m F R v n w mv L W yb yl d ye hf lk ev => ?_
  unfold wp_L_moveTo wp_L_moveTo_0
  have e1 := hf.1.1.2
  have pe := prop_eq hf lk
  have hK := mv_of hf lk ev
  rw [e1]
  refine q_moveToC hf.1.1.1 hf.2.2.2.1.1.1 (fun z => (few_of hf z).1) hi (fun z => ?_) (fun z z2 => ?_) (fun z z2 => ?_)
  · first | refine ⟨rfl, ?_⟩ | refine .inl ⟨rfl, ?_⟩
    rw [← e1]
    obtain ⟨h1, h2⟩ := hvv _ hf.2.1.1
    refine ⟨h1, ?_⟩
    rw [h2, hf.1.2.1.2]
    exact q_moveTo hf.1.2.1.1 hf.2.2.2.2.1 hK hi (fun _ => err_ok hD hf lk (.inl rfl) ((SIM.rf m).ldm.up0 1) rfl hP) (fun y => by rw [pe, z] at y; exact nomatch y) (fun y => by rw [pe, z] at y; exact nomatch y)
  · have hf' := hf.query hD.2.2.2.2 (lkM_sim c F R v) (by decide)
    have lk' := lk.csim (lkM_sim c F R v) (by decide)
    refine .inr ⟨rfl, ?_⟩
    obtain ⟨h1, h2⟩ := hvv _ hf'.2.1.1
    refine ⟨h1, ?_⟩
    rw [h2, hf'.1.2.1.2]
    refine q_moveTo hf'.1.2.1.1 hf'.2.2.2.2.1 hK hi (fun y => by rw [pe, z] at y; exact nomatch y) (fun _ w0 _ _ => err_ok hD hf' lk' (.inr (.inl rfl)) (((SIM.rf m).ldm.up0 2).ls _ _) (by rw [lsM_f _ _ _ _ _ rfl]; rfl) hP) (fun _ w0 _ y => ?_)
    rw [ev] at y
    rw [inB_iff.mpr (by omega)] at z2
    exact nomatch z2
  · have hf' := hf.query hD.2.2.2.2 (lkM_sim c F R v) (by decide)
    have lk' := lk.csim (lkM_sim c F R v) (by decide)
    refine store_ok hD hf' (fun S5 h5 e5 => ?_)
    obtain ⟨h1, h2⟩ := hvv _ h5.2.1.1
    refine ⟨h1, ?_⟩
    rw [h2, h5.1.2.1.2]
    refine q_moveTo h5.1.2.1.1 h5.2.2.2.2.1 hK hi (fun y => by rw [pe, z] at y; exact nomatch y) (fun _ w0 _ y => by rw [ev, z2] at y; exact nomatch y) (fun _ w0 _ _ => end_ok hD h5 lk' (((SIM.rf m).ldm.up0 0).ls _ _) (by rw [lsM_f _ _ _ _ _ rfl]; rfl) hP ?_)
    rw [e5, ev]
theorem call_moveBecomes (hD : wDok D b Ln xs) (hR : RELo D S o x A [a3, a4] q ε) {i : Int} (hi : i32 i) {r : wS → Int32} {hv : wS → Prop} (hvv : ∀ S', CST D S' → hv S' ∧ r S' = iI i) (hP : ∀ S', RELo D S' o x A [a3, a4] (q + 1) ε → P S') :
    wp_L_moveBecomes D (fun r1 S2 => hv S2 ∧ wp_X12_moveBecomes D (fun r3 S4 => CMPo D x a3 P Q r1 r3 S4) S2 x (r S2)) S (o 0) (iI i) a3 := by
  refine REL.elim hR fun c m F R v n w mv L W yb yl d ye hf lk ev => ?_
  unfold wp_L_moveBecomes wp_L_moveBecomes_0
  have e1 := hf.1.1.2
  have pe := prop_eq hf lk
  have hK := mv_of hf lk ev
  rw [e1]
  refine q_moveBecomesC hf.1.1.1 hf.2.2.2.1.1.1 (fun z => (few_of hf z).1) hi (fun z => ?_) (fun z z2 => ?_) (fun z z2 => ?_)
  · first | refine ⟨rfl, ?_⟩ | refine .inl ⟨rfl, ?_⟩
    rw [← e1]
    obtain ⟨h1, h2⟩ := hvv _ hf.2.1.1
    refine ⟨h1, ?_⟩
    rw [h2, hf.1.2.1.2]
    exact q_moveBecomes hf.1.2.1.1 hf.2.2.2.2.1 hK hi (fun _ => err_ok hD hf lk (.inl rfl) ((SIM.rf m).ldm.up0 1) rfl hP) (fun y => by rw [pe, z] at y; exact nomatch y) (fun y => by rw [pe, z] at y; exact nomatch y)
  · have hf' := hf.query hD.2.2.2.2 (lkM_sim c F R v) (by decide)
    have lk' := lk.csim (lkM_sim c F R v) (by decide)
    refine .inr ⟨rfl, ?_⟩
    obtain ⟨h1, h2⟩ := hvv _ hf'.2.1.1
    refine ⟨h1, ?_⟩
    rw [h2, hf'.1.2.1.2]
    refine q_moveBecomes hf'.1.2.1.1 hf'.2.2.2.2.1 hK hi (fun y => by rw [pe, z] at y; exact nomatch y) (fun _ w0 _ _ => err_ok hD hf' lk' (.inr (.inl rfl)) (((SIM.rf m).ldm.up0 2).ls _ _) (by rw [lsM_f _ _ _ _ _ rfl]; rfl) hP) (fun _ w0 _ y => ?_)
    rw [ev] at y
    rw [inB_iff.mpr (by omega)] at z2
    exact nomatch z2
  · have hf' := hf.query hD.2.2.2.2 (lkM_sim c F R v) (by decide)
    have lk' := lk.csim (lkM_sim c F R v) (by decide)
    refine store_ok hD hf' (fun S5 h5 e5 => ?_)
    obtain ⟨h1, h2⟩ := hvv _ h5.2.1.1
    refine ⟨h1, ?_⟩
    rw [h2, h5.1.2.1.2]
    refine q_moveBecomes h5.1.2.1.1 h5.2.2.2.2.1 hK hi (fun y => by rw [pe, z] at y; exact nomatch y) (fun _ w0 _ y => by rw [ev, z2] at y; exact nomatch y) (fun _ w0 _ _ => end_ok hD h5 lk' (((SIM.rf m).ldm.up0 0).ls _ _) (by rw [lsM_f _ _ _ _ _ rfl]; rfl) hP ?_)
    rw [e5, ev]
end
