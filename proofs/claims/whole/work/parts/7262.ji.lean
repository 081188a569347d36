section
variable {D : wD} {S U : wS} {o : Nat → Nat} {c c' : cM} {x : Nat} {A : Nat → Nat} {m m' : xM} {F R F' R' : Int} {v v' u : Int → Int} {n n' : Int} {w w' : Int → Int → Int} {mv mv' : Int → Mv} {L W : List Int} {yb : Nat → Nat} {yl : Int → Nat} {d : Int → SDt} {ye lw : List Nat} {q q' : Int} {b Ln : Nat} {xs : Nat → Int32} {a3 a4 : Nat} {P Q : wS → Prop} {ε : Bool}
/-- CALL: put -/
theorem call_put (hD : wDok D b Ln xs) (hR : RELo D S o x A [a3, a4] q ε) {sq z : Int} (hs : i32 sq) (hz : i32 z) {r r' : wS → Int32} {hv : wS → Prop} (hvv : ∀ S', CST D S' → hv S' ∧ r S' = iI sq ∧ r' S' = iI z) (hP : ∀ S', RELo D S' o x A [a3, a4] (q + 1) ε → P S') :
    wp_L_put D (fun r1 S2 => hv S2 ∧ wp_X12_put D (fun r3 S4 => CMPo D x a3 P Q r1 r3 S4) S2 x (r S2) (r' S2)) S (o 0) (iI sq) (iI z) a3 := by
  refine REL.elim hR fun c m F R v n w mv L W yb yl d ye hf lk ev => ?_
  unfold wp_L_put wp_L_put_0
  have e1 := hf.1.1.2
  obtain ⟨w1, w2, w3, w4, w5, w6, w7⟩ := hf.2.2.2.1.1.1
  have pg := hf.2.2.2.1.1.2.1
  have hG := hf.2.2.2.2.1
  have bb := bfr_of hf
  have hn := FR_r bb.1.1 bb.1.2 bb.2.1 bb.2.2
  have e11 := lk.2.1.1
  have n0 := pg.2.1.1
  rw [e1]
  refine q_putC hf.1.1.1 w1 w2 w6 pg hs hz (fun y => .inl ⟨rfl, ?_⟩) (fun y y2 => .inr (.inl ⟨rfl, ?_⟩)) (fun y y2 y3 => .inr (.inr ⟨rfl, ?_⟩)) (fun y y2 y3 => ?_)
  · rw [← e1]
    obtain ⟨h1, h2, h3⟩ := hvv _ hf.2.1.1
    refine ⟨h1, ?_⟩
    rw [h2, h3, hf.1.2.1.2]
    exact q_put hf.1.2.1.1 hG hs hz (fun _ => err_ok hD hf lk (.inl rfl) ((SIM.rf m).up0 1) rfl hP) (fun k => by rw [y] at k; exact nomatch k) (fun k => by rw [y] at k; exact nomatch k) (fun k => by rw [y] at k; exact nomatch k)
  · rw [← e1]
    obtain ⟨h1, h2, h3⟩ := hvv _ hf.2.1.1
    refine ⟨h1, ?_⟩
    rw [h2, h3, hf.1.2.1.2]
    exact q_put hf.1.2.1.1 hG hs hz (fun k => by rw [y] at k; exact nomatch k) (fun _ _ => err_ok hD hf lk (.inr (.inl rfl)) ((SIM.rf m).up0 2) rfl hP) (fun _ k => by rw [y2] at k; exact nomatch k) (fun _ k => by rw [y2] at k; exact nomatch k)
  · rw [← e1]
    obtain ⟨h1, h2, h3⟩ := hvv _ hf.2.1.1
    refine ⟨h1, ?_⟩
    rw [h2, h3, hf.1.2.1.2]
    exact q_put hf.1.2.1.1 hG hs hz (fun k => by rw [y] at k; exact nomatch k) (fun _ k => by rw [y2] at k; exact nomatch k) (fun _ _ _ => err_ok hD hf lk (.inr (.inr rfl)) ((SIM.rf m).up0 3) rfl hP) (fun _ _ k => by omega)
  · have i1 := inB_iff.mp y
    have i2 := inB_iff.mp y2
    have ok : okV F R (putV2 v sq z) := by
      unfold putV2 upV
      refine ⟨fun k k0 k1 => ?_, ?_, ?_, ?_⟩
      · dsimp only
        rw [if_neg (by omega), if_neg (by omega)]
        split
        · omega
        · exact w2.p k k0 k1
      · dsimp only
        rw [if_neg (by decide), if_neg (by decide), if_neg (by omega)]; exact w2.s
      · dsimp only
        rw [if_neg (by decide), if_pos rfl]; decide
      · dsimp only
        rw [if_pos rfl]; omega
    have cl : clV (putV2 v sq z) := fun k hk => by
      unfold putV2 upV
      rw [if_neg (by omega), if_neg (by omega), if_neg (by omega)]; exact w3 k hk
    have br : brd F R (putV2 v sq z) := fun k k0 k1 => by
      unfold putV2 upV
      rw [if_neg (by omega), if_neg (by omega), if_neg (by omega)]; exact w4 k k0 k1
    have ep : epS F R (putV2 v sq z) := .inl (by unfold putV2 upV; rw [if_pos rfl])
    obtain ⟨hf1, sm⟩ := lay_ok hf hD.2.2.2.2 ⟨ok, cl, br, ep⟩ (ok.rg hn.2)
    have m0 : m 50 11 = 0 := by omega
    have g0 : gv m 0 = v := by
      have := ev
      unfold pv at this
      rw [m0] at this; exact this
    have g0' : ∀ j, 0 ≤ j → j < 67 → m 8 j = v j := fun j j0 j1 => by
      have := congrFun g0 j
      unfold gv vec at this
      rw [if_pos ⟨j0, j1⟩] at this
      rw [← this]; congr 1; omega
    refine store_ok hD hf1 (fun S5 h5 e5 => ?_)
    obtain ⟨h1, h2, h3⟩ := hvv _ h5.2.1.1
    refine ⟨h1, ?_⟩
    rw [h2, h3, h5.1.2.1.2]
    refine q_put h5.1.2.1.1 hG hs hz (fun k => by rw [y] at k; exact nomatch k) (fun _ k => by rw [y2] at k; exact nomatch k) (fun _ _ k => absurd m0 k) (fun _ _ _ => ?_)
    have row : ∀ r : Nat, r ≠ 8 → r ≠ 50 → putM m sq z r = m r := fun r h1 h2 => by
      unfold putM
      rw [up_r _ _ _ (by simpa using h1), up_r _ _ _ (by simpa using h1), up_r _ _ _ (by simpa using h1), up_r _ _ _ (by simpa using h2)]
    have o50 : ∀ j : Int, j ≠ 0 → putM m sq z 50 j = m 50 j := fun j hj => by
      unfold putM
      rw [up_f _ _ _ _ rfl, up_f _ _ _ _ rfl, up_f _ _ _ _ rfl, up_ne _ (Or.inr hj)]
    have g8 : gv (putM m sq z) 0 = putV2 v sq z := by
      funext j
      unfold gv vec
      by_cases c : 0 ≤ j ∧ j < 67
      · rw [if_pos c, show 67 * (0 : Int) + j = j by omega]
        unfold putM putV2 upV
        by_cases j66 : j = 66
        · rw [j66, up_at, if_pos rfl]
        · rw [up_ne _ (Or.inr j66), if_neg j66]
          by_cases j65 : j = 65
          · rw [j65, up_at, if_pos rfl]
          · rw [up_ne _ (Or.inr j65), if_neg j65]
            by_cases js : j = sq
            · rw [js, up_at, if_pos rfl]
            · rw [up_ne _ (Or.inr js), if_neg js, up_f _ _ _ _ rfl]
              exact g0' j c.1 c.2
      · rw [if_neg c, cl j c]
    refine cmp_ok (by rw [x_i0]; unfold putM; rw [up_f _ _ _ _ rfl, up_f _ _ _ _ rfl, up_f _ _ _ _ rfl]; rfl) (lay_ref hD h5 lk sm row o50 m0 g8 hP) (fun _ => ⟨(ans_ref h5 _).2, ?_⟩)
    rw [(ans_ref h5 _).1, e5, g0' sq i1.1 (by omega)]
end
