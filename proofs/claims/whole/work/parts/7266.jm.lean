section
variable {D : wD} {S U : wS} {o : Nat → Nat} {c c' : cM} {x : Nat} {A : Nat → Nat} {m m' : xM} {F R F' R' : Int} {v v' : Int → Int} {n n' : Int} {w w' : Int → Int → Int} {mv mv' : Int → Mv} {L W : List Int} {yb : Nat → Nat} {yl : Int → Nat} {d : Int → SDt} {ye lw : List Nat} {q q' : Int} {b Ln : Nat} {xs : Nat → Int32} {a3 a4 : Nat} {P Q : wS → Prop} {ε : Bool}
theorem call_keyCount (hD : wDok D b Ln xs) (hR : RELo D S o x A [a3, a4] q ε) (hP : ∀ S', RELo D S' o x A [a3, a4] (q + 1) ε → P S') :
    wp_L_keyCount D (fun r1 S2 => wp_X12_keyCount D (fun r3 S4 => CMPo D x a3 P Q r1 r3 S4) S2 x) S (o 0) a3 := by
  refine REL.elim hR fun c m F R v n w mv L W yb yl d ye hf lk ev => ?_
  unfold wp_L_keyCount wp_L_keyCount_0
  have e1 := hf.1.1.2
  have pe := prop_eq hf lk
  have hK : properB F R (gv m 0) = true → deepOK F R 3 (pv m) := fun z => by
    rw [pe] at z; rw [ev]
    exact PV.deep (bfr_of hf) 3 v (hf.2.2.2.1.1.1.pv z)
  rw [e1]
  refine q_keyCountC hf.1.1.1 hf.2.2.2.1.1.1 (few_of hf) (fun z => ⟨rfl, ?_⟩) (fun z c' sm => ?_)
  · rw [← e1]
    show wp_X12_keyCount D _ S x
    rw [hf.1.2.1.2]
    exact q_keyCount hf.1.2.1.1 hf.2.2.2.2.1 hK (fun _ => err_ok hD hf lk (.inl rfl) ((SIM.rf m).ldm.up0 1) rfl hP) (fun y => by rw [pe, z] at y; exact nomatch y)
  · have hf' := hf.query hD.2.2.2.2 sm (by decide)
    have lk' := lk.csim sm (by decide)
    refine store_ok hD hf' (fun S5 h5 e5 => ?_)
    show wp_X12_keyCount D _ S5 x
    rw [h5.1.2.1.2]
    refine q_keyCount h5.1.2.1.1 h5.2.2.2.2.1 hK (fun y => by rw [pe, z] at y; exact nomatch y) (fun _ m' hm' => end_ok hD h5 lk' (SIM.scM ((SIM.rf m).ldm.up0 0) hm') ?_ hP ?_)
    · exact hm' 50 0 (by omega) (by omega) (by omega)
    · rw [e5, ev]
theorem call_countMoves (hD : wDok D b Ln xs) (hR : RELo D S o x A [a3, a4] q ε) {dp : Int} {x2 z2 : Int32} (hd : i32 dp) {G : Int32 → wS → Prop} (hG : ∀ r1 S2, CST D S2 → wp_X12_countMoves D (fun r3 S4 => CMPo D x a3 P Q r1 r3 S4) S2 x (iI dp) z2 → G r1 S2) (hP : ∀ S', RELo D S' o x A [a3, a4] (q + 1) ε → P S') :
    wp_L_countMoves D G S (o 0) (iI dp) x2 a3 := by
  refine REL.elim hR fun c m F R v n w mv L W yb yl d ye hf lk ev => ?_
  unfold wp_L_countMoves wp_L_countMoves_0
  have e1 := hf.1.1.2
  have pe := prop_eq hf lk
  have hK : properB F R (gv m 0) = true → deepOK F R 2 (pv m) := fun z => by
    rw [pe] at z; rw [ev]
    exact PV.deep (bfr_of hf) 2 v (hf.2.2.2.1.1.1.pv z)
  rw [e1]
  refine q_countMovesC hf.1.1.1 hf.2.2.2.1.1.1 (few_of hf) hd (fun z => .inl ⟨rfl, ?_⟩) (fun z y => .inr ⟨rfl, ?_⟩) (fun z y c' sm => ?_)
  · rw [← e1]
    refine hG _ _ hf.2.1.1 ?_
    rw [hf.1.2.1.2]
    exact q_countMoves hf.1.2.1.1 hf.2.2.2.2.1 hK hd (fun _ => err_ok hD hf lk (.inl rfl) ((SIM.rf m).up0 1) rfl hP) (fun k => by rw [z] at k; exact nomatch k) (fun k => by rw [z] at k; exact nomatch k)
  · rw [← e1]
    refine hG _ _ hf.2.1.1 ?_
    rw [hf.1.2.1.2]
    exact q_countMoves hf.1.2.1.1 hf.2.2.2.2.1 hK hd (fun k => by rw [z] at k; exact nomatch k) (fun _ _ => err_ok hD hf lk (.inr (.inl rfl)) (((SIM.rf m).up0 0).ldm.up0 2) rfl hP) (fun _ k => by rw [pe, y] at k; exact nomatch k)
  · have hf' := hf.query hD.2.2.2.2 sm (by decide)
    have lk' := lk.csim sm (by decide)
    refine store_ok hD hf' (fun S5 h5 e5 => ?_)
    refine hG _ _ h5.2.1.1 ?_
    rw [h5.1.2.1.2]
    refine q_countMoves h5.1.2.1.1 h5.2.2.2.2.1 hK hd (fun k => by rw [z] at k; exact nomatch k) (fun _ k => by rw [pe, y] at k; exact nomatch k) (fun _ _ m' hm' => end_ok hD h5 lk' (SIM.scM (((SIM.rf m).up0 0).ldm.up0 0) hm') ?_ hP ?_)
    · exact hm' 50 0 (by omega) (by omega) (by omega)
    · rw [e5, ev]
end
