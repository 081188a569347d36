section
variable {D : wD} {S U : wS} {o : Nat → Nat} {c c' : cM} {x : Nat} {A : Nat → Nat} {m m' : xM} {F R F' R' : Int} {v v' u : Int → Int} {n n' : Int} {w w' : Int → Int → Int} {mv mv' : Int → Mv} {L W : List Int} {yb : Nat → Nat} {yl : Int → Nat} {d : Int → SDt} {ye lw : List Nat} {q q' : Int} {b Ln : Nat} {xs : Nat → Int32} {a3 a4 : Nat} {P Q : wS → Prop} {ε : Bool}
theorem as2 {α β : Type} {A B : β → Prop} {C : α → β → Prop} : (fun r S => A S ∧ B S ∧ C r S) = (fun r S => (A S ∧ B S) ∧ C r S) := funext fun r => funext fun S => propext and_assoc.symm
theorem as3 {α β : Type} {A B E : β → Prop} {C : α → β → Prop} : (fun r S => A S ∧ B S ∧ E S ∧ C r S) = (fun r S => (A S ∧ B S ∧ E S) ∧ C r S) := funext fun r => funext fun S => propext ⟨fun h => ⟨⟨h.1, h.2.1, h.2.2.1⟩, h.2.2.2⟩, fun h => ⟨h.1.1, h.1.2.1, h.1.2.2, h.2⟩⟩
theorem as4 {α β : Type} {A B E G : β → Prop} {C : α → β → Prop} : (fun r S => A S ∧ B S ∧ E S ∧ G S ∧ C r S) = (fun r S => (A S ∧ B S ∧ E S ∧ G S) ∧ C r S) := funext fun r => funext fun S => propext ⟨fun h => ⟨⟨h.1, h.2.1, h.2.2.1, h.2.2.2.1⟩, h.2.2.2.2⟩, fun h => ⟨h.1.1, h.1.2.1, h.1.2.2.1, h.1.2.2.2, h.2⟩⟩
theorem REL.succ (hR : RELo D S o x A lw q ε) : RELo D S o x A lw (q + 1) ε := by
  refine REL.elim hR fun c m F R v n w mv L W yb yl d ye hf lk ev => ?_
  exact REL.mk (hf.succ (by omega)) lk
theorem REL.cst (hR : RELo D S o x A lw q ε) : CST D S := by
  refine REL.elim hR fun c m F R v n w mv L W yb yl d ye hf lk ev => ?_
  exact hf.2.1.1
theorem call_setSide2 (hD : wDok D b Ln xs) (hR : RELo D S o x A [a3, a4] q ε) {s z : Int} (hs : s = 0 ∨ s = 1) (hz : i32 z) {G : Int32 → wS → Prop} (hGG : ∀ r1 S2, CST D S2 → wp_X12_setSide D (fun r3 S4 => CMPo D x a3 P Q r1 r3 S4) S2 x (iI s) (iI z) → G r1 S2) (hP : ∀ S', RELo D S' o x A [a3, a4] (q + 1) ε → P S') :
    wp_L_setSide D G S (o 0) (iI s) (iI z) a3 := by
  refine REL.elim hR fun c m F R v n w mv L W yb yl d ye hf lk ev => ?_
  unfold wp_L_setSide wp_L_setSide_0
  have e1 := hf.1.1.2
  obtain ⟨w1, w2, w3, w4, w5, w6, w7⟩ := hf.2.2.2.1.1.1
  have pg := hf.2.2.2.1.1.2.1
  have hG := hf.2.2.2.2.1
  have bb := bfr_of hf
  have hn := FR_r bb.1.1 bb.1.2 bb.2.1 bb.2.2
  have e11 := lk.2.1.1
  have n0 := pg.2.1.1
  have hs' : i32 s := by rcases hs with rfl | rfl <;> decide
  have es : (if s = 0 then (0 : Int) else 1) = s := by rcases hs with rfl | rfl <;> rfl
  rw [e1]
  refine q_setSideC hf.1.1.1 w1 w2 w6 pg hs hz (fun y => .inl ⟨rfl, ?_⟩) (fun y y2 => .inr ⟨rfl, ?_⟩) (fun y y3 => ?_)
  · rw [← e1]
    refine hGG _ _ hf.2.1.1 ?_
    rw [hf.1.2.1.2]
    exact q_setSide hf.1.2.1.1 hG hs' hz (fun _ => err_ok hD hf lk (.inl rfl) ((SIM.rf m).up0 1) rfl hP) (fun k => by rw [y] at k; exact nomatch k) (fun k => by rw [y] at k; exact nomatch k)
  · rw [← e1]
    refine hGG _ _ hf.2.1.1 ?_
    rw [hf.1.2.1.2]
    exact q_setSide hf.1.2.1.1 hG hs' hz (fun k => by rw [y] at k; exact nomatch k) (fun _ _ => err_ok hD hf lk (.inr (.inl rfl)) ((SIM.rf m).up0 2) rfl hP) (fun _ k => by omega)
  · have i2 := inB_iff.mp y
    have ok : okV F R (sideV2 v s z) := by
      unfold sideV2 upV
      refine ⟨fun k k0 k1 => ?_, ?_, ?_, ?_⟩
      · dsimp only
        rw [if_neg (by omega), if_neg (by omega), if_neg (by omega)]; exact w2.p k k0 k1
      · dsimp only
        rw [if_neg (by decide), if_neg (by decide), if_pos rfl]; omega
      · dsimp only
        rw [if_neg (by decide), if_pos rfl]; omega
      · dsimp only
        rw [if_pos rfl]; omega
    have cl : clV (sideV2 v s z) := fun k hk => by
      unfold sideV2 upV
      rw [if_neg (by omega), if_neg (by omega), if_neg (by omega)]; exact w3 k hk
    have br : brd F R (sideV2 v s z) := fun k k0 k1 => by
      unfold sideV2 upV
      rw [if_neg (by omega), if_neg (by omega), if_neg (by omega)]; exact w4 k k0 k1
    have ep : epS F R (sideV2 v s z) := .inl (by unfold sideV2 upV; rw [if_pos rfl])
    obtain ⟨hf1, sm⟩ := lay_ok hf hD.2.2.2.2 ⟨ok, cl, br, ep⟩ (ok.rg hn.2)
    have m0 : m 50 11 = 0 := by omega
    have g0 : gv m 0 = v := by
      have := ev
      unfold pv at this
      rw [m0] at this; exact this
    have g0' : ∀ j, 0 ≤ j → j < 67 → m 8 j = v j := fun j j0 j1 => by
      have := congrFun g0 j
      unfold gv vec at this
      rw [if_pos ⟨j0, j1⟩] at this
      rw [← this]; congr 1; omega
    refine store_ok hD hf1 (fun S5 h5 e5 => ?_)
    refine hGG _ _ h5.2.1.1 ?_
    rw [h5.1.2.1.2]
    refine q_setSide h5.1.2.1.1 hG hs' hz (fun k => by rw [y] at k; exact nomatch k) (fun _ k => absurd m0 k) (fun _ _ => ?_)
    rw [es]
    have row : ∀ r : Nat, r ≠ 8 → r ≠ 50 → sideM m s z r = m r := fun r h1 h2 => by
      unfold sideM
      rw [up_r _ _ _ (by simpa using h1), up_r _ _ _ (by simpa using h1), up_r _ _ _ (by simpa using h1), up_r _ _ _ (by simpa using h2)]
    have o50 : ∀ j : Int, j ≠ 0 → sideM m s z 50 j = m 50 j := fun j hj => by
      unfold sideM
      rw [up_f _ _ _ _ rfl, up_f _ _ _ _ rfl, up_f _ _ _ _ rfl, up_ne _ (Or.inr hj)]
    have g8 : gv (sideM m s z) 0 = sideV2 v s z := by
      funext j
      unfold gv vec
      by_cases c : 0 ≤ j ∧ j < 67
      · rw [if_pos c, show 67 * (0 : Int) + j = j by omega]
        unfold sideM sideV2 upV
        by_cases j66 : j = 66
        · rw [j66, up_at, if_pos rfl]
        · rw [up_ne _ (Or.inr j66), if_neg j66]
          by_cases j65 : j = 65
          · rw [j65, up_at, if_pos rfl]
          · rw [up_ne _ (Or.inr j65), if_neg j65]
            by_cases js : j = 64
            · rw [js, up_at, if_pos rfl]
            · rw [up_ne _ (Or.inr js), if_neg js, up_f _ _ _ _ rfl]
              exact g0' j c.1 c.2
      · rw [if_neg c, cl j c]
    refine cmp_ok (by rw [x_i0]; unfold sideM; rw [up_f _ _ _ _ rfl, up_f _ _ _ _ rfl, up_f _ _ _ _ rfl]; rfl) (lay_ref hD h5 lk sm row o50 m0 g8 hP) (fun _ => ⟨(ans_ref h5 _).2, ?_⟩)
    rw [(ans_ref h5 _).1, e5, g0' 65 (by decide) (by decide)]
theorem call_meanStrength2 (hD : wDok D b Ln xs) (hR : RELo D S o x A [a3, a4] q ε) {s t : Int} (hs : i32 s) (ht : t = 0 ∨ t = 1) {G : Int32 → wS → Prop} (hGG : ∀ r1 S2, CST D S2 → wp_X12_meanStrength D (fun r3 S4 => CMPo D x a3 P Q r1 r3 S4) S2 x (iI s) (iI t) → G r1 S2) (hP : ∀ S', RELo D S' o x A [a3, a4] (q + 1) ε → P S') :
    wp_L_meanStrength D G S (o 0) (iI s) (iI t) a3 := by
  refine REL.elim hR fun c m F R v n w mv L W yb yl d ye hf lk ev => ?_
  unfold wp_L_meanStrength wp_L_meanStrength_0
  have e1 := hf.1.1.2
  have hSH := shl_of hf
  have hT : ∀ k, 0 ≤ k → k < 80 → 0 ≤ m 36 k ∧ m 36 k ≤ 3500 := fun k k0 k1 => (hf.2.2.2.2.2.2.2.2.1 k k0 k1).1
  have ht' : i32 t := by rcases ht with rfl | rfl <;> decide
  have gm : ∀ z : inB s 0 1 = true, gamesB m s (-1) 0 9999 = passN (d s).2.1 (d s).2.2.1 (d s).2.2.2.2.2.1 v (-1) (d s).1.length := fun z => by
    have i1 := in01.mp z
    rw [(shm_of lk i1).passN (yr_of hf i1), ev]
  rw [e1]
  refine q_meanStrengthC hf.1.1.1 hf.2.2.2.1.1.1.2.2.2.2.2.1 (rg_of hf) hSH (fun s g hs g0 g1 => ((hf.2.2.2.1.2.2.1 s hs).2.2 g g0 g1).2.2.1) hs ht (fun z => .inl ⟨rfl, ?_⟩) (fun z z2 => .inr ⟨rfl, ?_⟩) (fun z z2 => ?_)
  · rw [← e1]
    refine hGG _ _ hf.2.1.1 ?_
    rw [hf.1.2.1.2]
    exact q_meanStrength hf.1.2.1.1 hf.2.2.2.2.1 hf.2.2.2.2.2.1 hT hs ht' (fun _ => err_ok hD hf lk (.inl rfl) ((SIM.rf m).up0 1) rfl hP) (fun y => by rw [z] at y; exact nomatch y) (fun y => by rw [z] at y; exact nomatch y)
  · rw [← e1]
    refine hGG _ _ hf.2.1.1 ?_
    rw [hf.1.2.1.2]
    exact q_meanStrength hf.1.2.1.1 hf.2.2.2.2.1 hf.2.2.2.2.2.1 hT hs ht' (fun y => by rw [z] at y; exact nomatch y) (fun _ _ => err_ok hD hf lk (.inr (.inl rfl)) ((SIM.rf m).up0 2) rfl hP) (fun _ y => absurd ((gm z).trans z2) y)
  · rw [← e1]
    refine store_ok hD hf (fun S5 h5 e5 => ?_)
    refine hGG _ _ h5.2.1.1 ?_
    rw [h5.1.2.1.2]
    refine q_meanStrength h5.1.2.1.1 h5.2.2.2.2.1 h5.2.2.2.2.2.1 hT hs ht' (fun y => by rw [z] at y; exact nomatch y) (fun _ y => absurd ((gm z).symm.trans y) z2) (fun _ _ => end_ok hD h5 lk ((SIM.rf m).up0 0) rfl hP ?_)
    have i1 := in01.mp z
    rw [e5, (shm_of lk i1).mean (yr_of hf i1), ev]
end
