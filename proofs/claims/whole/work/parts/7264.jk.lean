section
variable {D : wD} {S U : wS} {o : Nat → Nat} {c c' : cM} {x : Nat} {A : Nat → Nat} {m m' : xM} {F R F' R' : Int} {v v' u : Int → Int} {n n' : Int} {w w' : Int → Int → Int} {mv mv' : Int → Mv} {L W : List Int} {yb : Nat → Nat} {yl : Int → Nat} {d : Int → SDt} {ye lw : List Nat} {q q' : Int} {b Ln : Nat} {xs : Nat → Int32} {a3 a4 : Nat} {P Q : wS → Prop} {ε : Bool}
/-- CALL: material -/
theorem call_material (hD : wDok D b Ln xs) (hR : RELo D S o x A lw q ε) {s : Int} (hs : s = 0 ∨ s = 1) {G : Int32 → wS → Prop} (hG : ∀ r1 S2, CST D S2 → wp_X12_material D (DIRo P Q r1) S2 x (iI s) → G r1 S2) (hP : ∀ S', RELo D S' o x A lw (q + 1) ε → P S') : wp_X11_material D G S (o 0) (iI s) := by
  refine REL.elim hR fun c m F R v n w mv L W yb yl d ye hf lk ev => ?_
  have e1 := hf.1.1.2
  obtain ⟨w1, w2, w3, w4, w5, w6, w7⟩ := hf.2.2.2.1.1.1
  have hs' : i32 s := by rcases hs with rfl | rfl <;> decide
  have es : (if s = 0 then (0 : Int) else 1) = s := by rcases hs with rfl | rfl <;> rfl
  rw [e1]
  refine q_materialC hf.1.1.1 w1 w2.1 w4 w6 hs ?_
  rw [← e1]
  refine hG _ _ hf.2.1.1 ?_
  rw [hf.1.2.1.2]
  exact q_material hf.1.2.1.1 hf.2.2.2.2.1 hs' (dir_ok hD hf lk ((SIM.rf m).up0 0) hP (by rw [ev, es]))
/-- CALL: isAttacked -/
theorem call_isAttacked (hD : wDok D b Ln xs) (hR : RELo D S o x A [a3, a4] q ε) {a s : Int} (ha : i32 a) (hs : s = 0 ∨ s = 1) {G : Int32 → wS → Prop} (hG : ∀ r1 S2, CST D S2 → wp_X12_isAttacked D (fun r3 S4 => CMPb D x a3 P Q r1 r3 S4) S2 x (iI a) (iI s) → G r1 S2) (hP : ∀ S', RELo D S' o x A [a3, a4] (q + 1) ε → P S') :
    wp_L_isAttacked D G S (o 0) (iI a) (iI s) a3 := by
  refine REL.elim hR fun c m F R v n w mv L W yb yl d ye hf lk ev => ?_
  unfold wp_L_isAttacked wp_L_isAttacked_0
  have e1 := hf.1.1.2
  obtain ⟨w1, w2, w3, w4, w5, w6, w7⟩ := hf.2.2.2.1.1.1
  have hs' : i32 s := by rcases hs with rfl | rfl <;> decide
  have es : (if s = 0 then (0 : Int) else 1) = s := by rcases hs with rfl | rfl <;> rfl
  rw [e1]
  refine q_isAttackedC hf.1.1.1 w1 w2 w4 w6 ha hs (fun z => ⟨rfl, ?_⟩) (fun z => ?_)
  · rw [← e1]
    refine hG _ _ hf.2.1.1 ?_
    rw [hf.1.2.1.2]
    exact q_isAttacked hf.1.2.1.1 hf.2.2.2.2.1 ha hs' (fun _ => errb_ok hD hf lk (.inl rfl) ((SIM.rf m).up0 1) rfl hP) (fun y => by rw [z] at y; exact nomatch y)
  · rw [← e1]
    refine storeb_ok hD hf (fun S5 h5 e5 => ?_)
    refine hG _ _ h5.2.1.1 ?_
    rw [h5.1.2.1.2]
    exact q_isAttacked h5.1.2.1.1 h5.2.2.2.2.1 ha hs' (fun y => by rw [z] at y; exact nomatch y) (fun _ => endb_ok hD h5 lk ((SIM.rf m).up0 0).ldm rfl hP e5 (by rw [ev, es]))
end
