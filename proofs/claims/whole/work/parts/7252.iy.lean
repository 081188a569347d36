section
variable {D : wD} {S U : wS} {o : Nat → Nat} {c c' : cM} {x : Nat} {A : Nat → Nat} {m m' : xM} {F R F' R' : Int} {v v' : Int → Int} {n n' : Int} {w w' : Int → Int → Int} {mv mv' : Int → Mv} {L W : List Int} {yb : Nat → Nat} {yl : Int → Nat} {d : Int → SDt} {ye lw : List Nat} {q q' : Int} {b Ln : Nat} {xs : Nat → Int32} {a3 a4 : Nat} {P Q : wS → Prop} {ε : Bool}
theorem mv_of (hf : HFo D S o x A lw c m F R v n w mv L W yb yl d ye q F R) (lk : LKo m c F R n w mv L W d ye ε) (ev : pv m = v) : properB F R (gv m 0) = true → mvOK F R (pv m) := fun z => by
  rw [prop_eq hf lk] at z; rw [ev]
  exact (hf.2.2.2.1.1.1.pv z).mv (bfr_of hf)
theorem few_of (hf : HFo D S o x A lw c m F R v n w mv L W yb yl d ye q F' R') : properB F R v = true → few3 F R v := fun z => (hf.2.2.2.1.1.1.pv z).few3 (bfr_of hf)
theorem call_forcesMate (hD : wDok D b Ln xs) (hR : RELo D S o x A [a3, a4] q ε) (hP : ∀ S', RELo D S' o x A [a3, a4] (q + 1) ε → P S') :
    wp_L_forcesMate D (fun r1 S2 => wp_X12_forcesMate D (fun r3 S4 => CMPo D x a3 P Q r1 r3 S4) S2 x) S (o 0) a3 := by
  refine REL.elim hR fun c m F R v n w mv L W yb yl d ye hf lk ev => ?_
  unfold wp_L_forcesMate wp_L_forcesMate_0
  have e1 := hf.1.1.2
  have pe := prop_eq hf lk
  have hK : properB F R (gv m 0) = true → deepOK F R 3 (pv m) := fun z => by
    rw [pe] at z; rw [ev]
    exact PV.deep (bfr_of hf) 3 v (hf.2.2.2.1.1.1.pv z)
  rw [e1]
  refine q_forcesMateC hf.1.1.1 hf.2.2.2.1.1.1 (few_of hf) (fun z => ⟨rfl, ?_⟩) (fun z c' sm => ?_)
  · rw [← e1]
    show wp_X12_forcesMate D _ S x
    rw [hf.1.2.1.2]
    exact q_forcesMate hf.1.2.1.1 hf.2.2.2.2.1 hK (fun _ => err_ok hD hf lk (.inl rfl) ((SIM.rf m).ldm.up0 1) rfl hP) (fun y => by rw [pe, z] at y; exact nomatch y)
  · have hf' := hf.query hD.2.2.2.2 sm (by decide)
    have lk' := lk.csim sm (by decide)
    refine store_ok hD hf' (fun S5 h5 e5 => ?_)
    show wp_X12_forcesMate D _ S5 x
    rw [h5.1.2.1.2]
    refine q_forcesMate h5.1.2.1.1 h5.2.2.2.2.1 hK (fun y => by rw [pe, z] at y; exact nomatch y) (fun _ m' hm' => end_ok hD h5 lk' (SIM.scM ((SIM.rf m).ldm.up0 0) hm') ?_ hP ?_)
    · exact hm' 50 0 (by omega) (by omega) (by omega)
    · rw [e5, ev]
theorem call_moveFrom (hD : wDok D b Ln xs) (hR : RELo D S o x A [a3, a4] q ε) {i : Int} (hi : i32 i) {r : wS → Int32} {hv : wS → Prop} (hvv : ∀ S', CST D S' → hv S' ∧ r S' = iI i) (hP : ∀ S', RELo D S' o x A [a3, a4] (q + 1) ε → P S') :
    wp_L_moveFrom D (fun r1 S2 => hv S2 ∧ wp_X12_moveFrom D (fun r3 S4 => CMPo D x a3 P Q r1 r3 S4) S2 x (r S2)) S (o 0) (iI i) a3 := by
  refine REL.elim hR fun c m F R v n w mv L W yb yl d ye hf lk ev => ?_
  unfold wp_L_moveFrom wp_L_moveFrom_0
  have e1 := hf.1.1.2
  have pe := prop_eq hf lk
  have hK := mv_of hf lk ev
  rw [e1]
  refine q_moveFromC hf.1.1.1 hf.2.2.2.1.1.1 (fun z => (few_of hf z).1) hi (fun z => ?_) (fun z z2 => ?_) (fun z z2 => ?_)
  · first | refine ⟨rfl, ?_⟩ | refine .inl ⟨rfl, ?_⟩
    rw [← e1]
    obtain ⟨h1, h2⟩ := hvv _ hf.2.1.1
    refine ⟨h1, ?_⟩
    rw [h2, hf.1.2.1.2]
    exact q_moveFrom hf.1.2.1.1 hf.2.2.2.2.1 hK hi (fun _ => err_ok hD hf lk (.inl rfl) ((SIM.rf m).ldm.up0 1) rfl hP) (fun y => by rw [pe, z] at y; exact nomatch y) (fun y => by rw [pe, z] at y; exact nomatch y)
  · have hf' := hf.query hD.2.2.2.2 (lkM_sim c F R v) (by decide)
    have lk' := lk.csim (lkM_sim c F R v) (by decide)
    refine .inr ⟨rfl, ?_⟩
    obtain ⟨h1, h2⟩ := hvv _ hf'.2.1.1
    refine ⟨h1, ?_⟩
    rw [h2, hf'.1.2.1.2]
    refine q_moveFrom hf'.1.2.1.1 hf'.2.2.2.2.1 hK hi (fun y => by rw [pe, z] at y; exact nomatch y) (fun _ w0 _ _ => err_ok hD hf' lk' (.inr (.inl rfl)) (((SIM.rf m).ldm.up0 2).ls _ _) (by rw [lsM_f _ _ _ _ _ rfl]; rfl) hP) (fun _ w0 _ y => ?_)
    rw [ev] at y
    rw [inB_iff.mpr (by omega)] at z2
    exact nomatch z2
  · have hf' := hf.query hD.2.2.2.2 (lkM_sim c F R v) (by decide)
    have lk' := lk.csim (lkM_sim c F R v) (by decide)
    refine store_ok hD hf' (fun S5 h5 e5 => ?_)
    obtain ⟨h1, h2⟩ := hvv _ h5.2.1.1
    refine ⟨h1, ?_⟩
    rw [h2, h5.1.2.1.2]
    refine q_moveFrom h5.1.2.1.1 h5.2.2.2.2.1 hK hi (fun y => by rw [pe, z] at y; exact nomatch y) (fun _ w0 _ y => by rw [ev, z2] at y; exact nomatch y) (fun _ w0 _ _ => end_ok hD h5 lk' (((SIM.rf m).ldm.up0 0).ls _ _) (by rw [lsM_f _ _ _ _ _ rfl]; rfl) hP ?_)
    rw [e5, ev]
end
