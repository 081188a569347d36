section
variable {D : wD} {S U : wS} {o : Nat → Nat} {c c' : cM} {x : Nat} {A : Nat → Nat} {m m' : xM} {F R F' R' : Int} {v v' u : Int → Int} {n n' : Int} {w w' : Int → Int → Int} {mv mv' : Int → Mv} {L W : List Int} {yb : Nat → Nat} {yl : Int → Nat} {d : Int → SDt} {ye lw : List Nat} {q q' : Int} {b Ln : Nat} {xs : Nat → Int32} {a3 a4 : Nat} {P Q : wS → Prop} {ε : Bool}
/-- CALL: setSide -/
theorem call_setSide (hD : wDok D b Ln xs) (hR : RELo D S o x A [a3, a4] q ε) {s z : Int} (hs : s = 0 ∨ s = 1) (hz : i32 z) {r r' : wS → Int32} {hv : wS → Prop} (hvv : ∀ S', CST D S' → hv S' ∧ r S' = iI s ∧ r' S' = iI z) (hP : ∀ S', RELo D S' o x A [a3, a4] (q + 1) ε → P S') :
    wp_L_setSide D (fun r1 S2 => hv S2 ∧ wp_X12_setSide D (fun r3 S4 => CMPo D x a3 P Q r1 r3 S4) S2 x (r S2) (r' S2)) S (o 0) (iI s) (iI z) a3 := by
  refine REL.elim hR fun c m F R v n w mv L W yb yl d ye hf lk ev => ?_
  unfold wp_L_setSide wp_L_setSide_0
  have e1 := hf.1.1.2
  obtain ⟨w1, w2, w3, w4, w5, w6, w7⟩ := hf.2.2.2.1.1.1
  have pg := hf.2.2.2.1.1.2.1
  have hG := hf.2.2.2.2.1
  have bb := bfr_of hf
  have hn := FR_r bb.1.1 bb.1.2 bb.2.1 bb.2.2
  have e11 := lk.2.1.1
  have n0 := pg.2.1.1
  have hs' : i32 s := by rcases hs with rfl | rfl <;> decide
  have es : (if s = 0 then (0 : Int) else 1) = s := by rcases hs with rfl | rfl <;> rfl
  rw [e1]
  refine q_setSideC hf.1.1.1 w1 w2 w6 pg hs hz (fun y => .inl ⟨rfl, ?_⟩) (fun y y2 => .inr ⟨rfl, ?_⟩) (fun y y3 => ?_)
  · rw [← e1]
    obtain ⟨h1, h2, h3⟩ := hvv _ hf.2.1.1
    refine ⟨h1, ?_⟩
    rw [h2, h3, hf.1.2.1.2]
    exact q_setSide hf.1.2.1.1 hG hs' hz (fun _ => err_ok hD hf lk (.inl rfl) ((SIM.rf m).up0 1) rfl hP) (fun k => by rw [y] at k; exact nomatch k) (fun k => by rw [y] at k; exact nomatch k)
  · rw [← e1]
    obtain ⟨h1, h2, h3⟩ := hvv _ hf.2.1.1
    refine ⟨h1, ?_⟩
    rw [h2, h3, hf.1.2.1.2]
    exact q_setSide hf.1.2.1.1 hG hs' hz (fun k => by rw [y] at k; exact nomatch k) (fun _ _ => err_ok hD hf lk (.inr (.inl rfl)) ((SIM.rf m).up0 2) rfl hP) (fun _ k => by omega)
  · have i2 := inB_iff.mp y
    have ok : okV F R (sideV2 v s z) := by
      unfold sideV2 upV
      refine ⟨fun k k0 k1 => ?_, ?_, ?_, ?_⟩
      · dsimp only
        rw [if_neg (by omega), if_neg (by omega), if_neg (by omega)]; exact w2.p k k0 k1
      · dsimp only
        rw [if_neg (by decide), if_neg (by decide), if_pos rfl]; omega
      · dsimp only
        rw [if_neg (by decide), if_pos rfl]; omega
      · dsimp only
        rw [if_pos rfl]; omega
    have cl : clV (sideV2 v s z) := fun k hk => by
      unfold sideV2 upV
      rw [if_neg (by omega), if_neg (by omega), if_neg (by omega)]; exact w3 k hk
    have br : brd F R (sideV2 v s z) := fun k k0 k1 => by
      unfold sideV2 upV
      rw [if_neg (by omega), if_neg (by omega), if_neg (by omega)]; exact w4 k k0 k1
    have ep : epS F R (sideV2 v s z) := .inl (by unfold sideV2 upV; rw [if_pos rfl])
    obtain ⟨hf1, sm⟩ := lay_ok hf hD.2.2.2.2 ⟨ok, cl, br, ep⟩ (ok.rg hn.2)
    have m0 : m 50 11 = 0 := by omega
    have g0 : gv m 0 = v := by
      have := ev
      unfold pv at this
      rw [m0] at this; exact this
    have g0' : ∀ j, 0 ≤ j → j < 67 → m 8 j = v j := fun j j0 j1 => by
      have := congrFun g0 j
      unfold gv vec at this
      rw [if_pos ⟨j0, j1⟩] at this
      rw [← this]; congr 1; omega
    refine store_ok hD hf1 (fun S5 h5 e5 => ?_)
    obtain ⟨h1, h2, h3⟩ := hvv _ h5.2.1.1
    refine ⟨h1, ?_⟩
    rw [h2, h3, h5.1.2.1.2]
    refine q_setSide h5.1.2.1.1 hG hs' hz (fun k => by rw [y] at k; exact nomatch k) (fun _ k => absurd m0 k) (fun _ _ => ?_)
    rw [es]
    have row : ∀ r : Nat, r ≠ 8 → r ≠ 50 → sideM m s z r = m r := fun r h1 h2 => by
      unfold sideM
      rw [up_r _ _ _ (by simpa using h1), up_r _ _ _ (by simpa using h1), up_r _ _ _ (by simpa using h1), up_r _ _ _ (by simpa using h2)]
    have o50 : ∀ j : Int, j ≠ 0 → sideM m s z 50 j = m 50 j := fun j hj => by
      unfold sideM
      rw [up_f _ _ _ _ rfl, up_f _ _ _ _ rfl, up_f _ _ _ _ rfl, up_ne _ (Or.inr hj)]
    have g8 : gv (sideM m s z) 0 = sideV2 v s z := by
      funext j
      unfold gv vec
      by_cases c : 0 ≤ j ∧ j < 67
      · rw [if_pos c, show 67 * (0 : Int) + j = j by omega]
        unfold sideM sideV2 upV
        by_cases j66 : j = 66
        · rw [j66, up_at, if_pos rfl]
        · rw [up_ne _ (Or.inr j66), if_neg j66]
          by_cases j65 : j = 65
          · rw [j65, up_at, if_pos rfl]
          · rw [up_ne _ (Or.inr j65), if_neg j65]
            by_cases js : j = 64
            · rw [js, up_at, if_pos rfl]
            · rw [up_ne _ (Or.inr js), if_neg js, up_f _ _ _ _ rfl]
              exact g0' j c.1 c.2
      · rw [if_neg c, cl j c]
    refine cmp_ok (by rw [x_i0]; unfold sideM; rw [up_f _ _ _ _ rfl, up_f _ _ _ _ rfl, up_f _ _ _ _ rfl]; rfl) (lay_ref hD h5 lk sm row o50 m0 g8 hP) (fun _ => ⟨(ans_ref h5 _).2, ?_⟩)
    rw [(ans_ref h5 _).1, e5, g0' 65 (by decide) (by decide)]
end
