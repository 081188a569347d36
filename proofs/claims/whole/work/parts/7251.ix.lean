section
variable {D : wD} {S U : wS} {o : Nat → Nat} {c c' : cM} {x : Nat} {A : Nat → Nat} {m m' : xM} {F R F' R' : Int} {v v' : Int → Int} {n n' : Int} {w w' : Int → Int → Int} {mv mv' : Int → Mv} {L W : List Int} {yb : Nat → Nat} {yl : Int → Nat} {d : Int → SDt} {ye lw : List Nat} {q q' : Int} {b Ln : Nat} {xs : Nat → Int32} {a3 a4 : Nat} {P Q : wS → Prop} {ε : Bool}
theorem bfr_of (hf : HFo D S o x A lw c m F R v n w mv L W yb yl d ye q F' R') : BFR F R := by
  have := hf.2.2.2.1.1.1.1.2.1
  exact ⟨⟨this.1, this.2.1⟩, this.2.2.1, this.2.2.2⟩
/-- the first position is proper if and only if the present one is -/
theorem prop_eq (hf : HFo D S o x A lw c m F R v n w mv L W yb yl d ye q F R) (lk : LKo m c F R n w mv L W d ye ε) : properB F R (gv m 0) = properB F R v := by
  have bb := bfr_of hf
  have hn := FR_r bb.1.1 bb.1.2 bb.2.1 bb.2.2
  obtain ⟨-, pg, wn, gm⟩ := hf.2.2.2.1.1
  have n0 := pg.2.1.1
  rw [lk.2.1.2.1 0 (Int.le_refl _) n0]
  by_cases c : n = 0
  · rw [← wn, c]
  · have h0 := (gm.1 0 (Int.le_refl _) (by omega)).1
    obtain ⟨h1, h2, h3⟩ := gm.1 (n - 1) (by omega) (by omega)
    rw [show n - 1 + 1 = n by omega, wn] at h3
    have h4 : PV F R v := by rw [h3]; exact PV_mk bb.1.1 bb.1.2 bb.2.1 bb.2.2 h1 h2
    rw [h0.2.2.2.2, h4.2.2.2.2]
theorem SIM.ls (h : SIM m m') (L : List Mv) (w : Int → Int) : SIM m (lsM m' 0 L w) := fun r j k => by
  have e : lsM m' 0 L w r = m' r := funext fun i => lsM_f _ _ _ _ i (by
    unfold kpB at k
    rcases (show r = 3 ∨ r = 4 ∨ r = 5 ∨ r = 6 ∨ r = 7 ∨ ¬ (r = 3 ∨ r = 4 ∨ r = 5 ∨ r = 6 ∨ r = 7) by omega) with rfl | rfl | rfl | rfl | rfl | z
    · exact nomatch k
    · exact nomatch k
    · exact nomatch k
    · exact nomatch k
    · exact nomatch k
    · simp; omega)
  rw [e]; exact h r j k
theorem call_moveCount (hD : wDok D b Ln xs) (hR : RELo D S o x A [a3, a4] q ε) (hP : ∀ S', RELo D S' o x A [a3, a4] (q + 1) ε → P S') :
    wp_L_moveCount D (fun r1 S2 => wp_X12_moveCount D (fun r3 S4 => CMPo D x a3 P Q r1 r3 S4) S2 x) S (o 0) a3 := by
  refine REL.elim hR fun c m F R v n w mv L W yb yl d ye hf lk ev => ?_
  unfold wp_L_moveCount wp_L_moveCount_0
  have e1 := hf.1.1.2
  obtain ⟨w1, w2, w3, w4, w5, w6, w7⟩ := hf.2.2.2.1.1.1
  have pe := prop_eq hf lk
  have hK : properB F R (gv m 0) = true → mvOK F R (pv m) := fun z => by
    rw [pe] at z; rw [ev]
    exact (hf.2.2.2.1.1.1.pv z).mv (bfr_of hf)
  rw [e1]
  refine q_moveCountC hf.1.1.1 w1 w2 w3 w4 w5 w6 w7 (fun z => ⟨rfl, ?_⟩) (fun z => ?_)
  · rw [← e1]
    show wp_X12_moveCount D _ S x
    rw [hf.1.2.1.2]
    exact q_moveCount hf.1.2.1.1 hf.2.2.2.2.1 hK (fun _ => err_ok hD hf lk (.inl rfl) ((SIM.rf m).ldm.up0 1) rfl hP) (fun y => by rw [pe, z] at y; exact nomatch y)
  · have sm : cSim [10] c (lookM c F R v) := fun k hk => ⟨lookM_1 c F R v (by simpa using hk), lookM_2 c F R v (by simpa using hk)⟩
    have hf' := hf.query hD.2.2.2.2 sm (by decide)
    have lk' := lk.csim sm (by decide)
    refine store_ok hD hf' (fun S5 h5 e5 => ?_)
    show wp_X12_moveCount D _ S5 x
    rw [h5.1.2.1.2]
    refine q_moveCount h5.1.2.1.1 h5.2.2.2.2.1 hK (fun y => by rw [pe, z] at y; exact nomatch y) (fun _ w0 _ => end_ok hD h5 lk' (((SIM.rf m).ldm.up0 0).ls _ _) ?_ hP ?_)
    · rw [lsM_f _ _ _ _ _ rfl]; rfl
    · rw [e5, ev]
theorem call_checkers (hD : wDok D b Ln xs) (hR : RELo D S o x A [a3, a4] q ε) (hP : ∀ S', RELo D S' o x A [a3, a4] (q + 1) ε → P S') :
    wp_L_checkers D (fun r1 S2 => wp_X12_checkers D (fun r3 S4 => CMPo D x a3 P Q r1 r3 S4) S2 x) S (o 0) a3 := by
  refine REL.elim hR fun c m F R v n w mv L W yb yl d ye hf lk ev => ?_
  unfold wp_L_checkers wp_L_checkers_0
  have e1 := hf.1.1.2
  obtain ⟨w1, w2, w3, w4, w5, w6, w7⟩ := hf.2.2.2.1.1.1
  have pe := prop_eq hf lk
  have hK : properB F R (gv m 0) = true → kingB F R (pv m) (pv m 64) < F * R := fun z => by
    rw [pe] at z; rw [ev]
    exact (hf.2.2.2.1.1.1.pv z).kg (bfr_of hf) (by have := w2.s; omega)
  rw [e1]
  refine q_checkersC hf.1.1.1 w1 w2 w4 w6 w7 (fun z => ⟨rfl, ?_⟩) (fun z => ?_)
  · rw [← e1]
    show wp_X12_checkers D _ S x
    rw [hf.1.2.1.2]
    exact q_checkers hf.1.2.1.1 hf.2.2.2.2.1 hK (fun _ => err_ok hD hf lk (.inl rfl) ((SIM.rf m).ldm.up0 1) rfl hP) (fun y => by rw [pe, z] at y; exact nomatch y)
  · rw [← e1]
    refine store_ok hD hf (fun S5 h5 e5 => ?_)
    show wp_X12_checkers D _ S5 x
    rw [h5.1.2.1.2]
    refine q_checkers h5.1.2.1.1 h5.2.2.2.2.1 hK (fun y => by rw [pe, z] at y; exact nomatch y) (fun _ => end_ok hD h5 lk ((SIM.rf m).ldm.up0 0) rfl hP ?_)
    rw [e5, ev]
end
