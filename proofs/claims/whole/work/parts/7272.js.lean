section
variable {D : wD} {S U : wS} {o : Nat → Nat} {c c' : cM} {x : Nat} {A : Nat → Nat} {m m' m1 : xM} {F R F' R' : Int} {v v' u : Int → Int} {n n' : Int} {w w' : Int → Int → Int} {mv mv' : Int → Mv} {L W : List Int} {yb : Nat → Nat} {yl : Int → Nat} {d : Int → SDt} {ye lw : List Nat} {q q' : Int} {b Ln : Nat} {xs : Nat → Int32} {a3 a4 : Nat} {P Q : wS → Prop} {ε : Bool}
/-- the reference's text is taken away, the rest kept -/
theorem rp_rel (xr : XRo m F R) (lk : LKo m c F R n w mv L W d ye ε) (sm : SIM (up m 50 13 0) m') : XRo m' F R ∧ LKo m' c F R n w mv [] W d ye ε := by
  have s1 : KTx m (up m 50 13 0) := ⟨fun r hr => up_r _ _ _ (by simp; omega), fun j hj => up_ne _ (Or.inr (by omega))⟩
  have s0 : KTx m m' := s1.trans (KTx.sim sm)
  have r12 : m' 12 = m 12 := by rw [sm.row (r := 12) rfl, up_r _ _ _ rfl]
  have r14 : m' 14 = m 14 := by rw [sm.row (r := 14) rfl, up_r _ _ _ rfl]
  exact ⟨xr.txt s0 (fun k k0 k1 => by rw [r12]; exact xr.2.2.2.1 k k0 k1) (fun k k0 k1 => by rw [r14]; exact xr.2.2.2.2.2.2.2.2.1 k k0 k1),
    lk.txt s0 ⟨(sm.o rfl).trans (up_at _ _ _ _), fun k k0 k1 => absurd k1 (by simp; omega)⟩ ⟨(sm.o rfl).trans ((up_ne _ (Or.inr (by decide))).trans lk.2.2.2.1.1), fun k k0 k1 => by rw [r14]; exact lk.2.2.2.1.2 k k0 k1⟩⟩
theorem lay_ref2 (hD : wDok D b Ln xs) (h5 : HFo D U o x A lw c' m F R u 0 (fun _ => u) mv L W yb yl d ye q F R) (xr1 : XRo m1 F R) (lk : LKo m1 c F R n w mv L W d ye ε) (sm : cSim [11, 13, 14] c c') (row : ∀ r : Nat, r ≠ 8 → r ≠ 50 → m' r = m1 r) (o50 : ∀ j : Int, j ≠ 0 → m' 50 j = m1 50 j) (e11 : m1 50 11 = 0) (g8 : gv m' 0 = u) (hP : ∀ S', RELo D S' o x A lw (q + 1) ε → P S') : P (xS U x A m') := by
  have kg : KGo m1 m' := ⟨fun r hr => row r (by omega) (by omega), fun j hj => o50 j (by omega)⟩
  have g11 : m' 50 11 = 0 := by rw [o50 11 (by decide)]; exact e11
  have w2 := h5.2.2.2.1.1.1.2.1
  have xr := xr1.game (KGo.gx kg) ⟨by rw [g11]; decide, fun k k0 k1 => by
    have : k = 0 := by omega
    rw [this, g8]; exact w2⟩ (fun k k0 k1 => by rw [row 10 (by decide) (by decide), row 9 (by decide) (by decide)]; exact xr1.2.2.2.2.2.2.2.1 k k0 k1)
  have lk1 := lk.game (c' := c') (n' := 0) (w' := fun _ => u) (mv' := mv) kg (sm 0 (by decide)).1 (sm 51 (by decide)).1 (sm 46 (by decide)).1 ⟨g11, fun k k0 k1 => by
    have : k = 0 := by omega
    rw [this]; exact g8, fun k k0 k1 => by omega, fun k k0 k1 => by omega⟩
  exact hP _ (REL.mk ((h5.ref hD.2.2.1.1 hD.2.2.2.2 xr).succ (by omega)) lk1)
theorem papB_rd (h : papB F R m = some u) : rdP F R (txB m) (m 50 13) = some u ∧ pasB F R u = true := by
  unfold papB at h
  cases e : rdP F R (txB m) (m 50 13) with
  | none => rw [e] at h; exact nomatch h
  | some u1 =>
    rw [e] at h
    dsimp only at h
    by_cases z : (asWr m (paperP F R u1) && properB F R u1 && pasB F R u1) = true
    · rw [if_pos z] at h
      rw [Bool.and_eq_true] at z
      rw [← Option.some.inj h]
      exact ⟨rfl, z.2⟩
    · rw [if_neg z] at h; exact nomatch h
/-- behind the reading of a paper: the builder of papers, then the text -/
theorem HFo.rp (hD : wDok D b Ln xs) (hf : HFo D S o x A lw c m F R v n w mv L W yb yl d ye q F' R') {a : Int} {c1 : cM} {U1 U' : wS} {z' : Nat} {Z : List Int} (ec : c1 = pR c u a) (hbl : BL D (cS S o c1) U1 (o 29) (yb 29) z' Z) (he : EX D U1 U' [o 49]) (hs : SB U' (o 49) (yb 49) []) (hz : 16 ≤ sN U1 z' ∧ sN U1 z' ≤ 1002) : HFo D U' o x A lw c1 m F R v n w mv [] W (upY (upY yb 29 z') 49 (yb 49)) yl d ye q F' R' := by
  obtain ⟨⟨t1, t2, t3⟩, ⟨t4, t5, t6, t7⟩, t8⟩ := hf.2.2.2.1.2.1
  have hf' := hf.query (c' := c1) hD.2.2.2.2 (by rw [ec]; exact pR_sim c u a) (by decide)
  have hf1 := hf'.txt (r := 29) (y' := z') (L' := L) (W' := W) (.inl rfl) hD.2.2.1.1 hD.2.2.2.2 hbl.1 hbl.2.1 hbl.2.2 hz ⟨fun z => absurd z (by decide), fun _ => rfl⟩ ⟨fun z => absurd z (by decide), fun _ => rfl⟩ ⟨t4, t5, t6, t7⟩
  have tt := hf1.2.2.2.1.2.1
  have t49 := tt.1.1
  have s49 := tt.2.2 49 (.inr (.inl rfl))
  have e49 : upY yb 29 z' 49 = yb 49 := if_neg (by decide)
  rw [e49] at t49 s49
  have he2 : EX D U1 U' [o 49, upY yb 29 z' 49] := he.mono fun a _ ha => by rw [List.mem_singleton.mp ha]; simp
  exact hf1.txt (r := 49) (y' := yb 49) (L' := []) (W' := W) (.inr (.inl rfl)) hD.2.2.1.1 hD.2.2.2.2 he2 (.inl e49.symm) hs (by rw [he.n (Or.inl t49.2.1.2.1)]; exact s49) ⟨fun _ => rfl, fun z => absurd rfl z⟩ ⟨fun z => absurd z (by decide), fun _ => rfl⟩ ⟨by simp, t5, by simp, t7⟩
/-- CALL: readPaper -/
theorem call_readPaper (hD : wDok D b Ln xs) (hR : RELo D S o x A [a3, a4] q ε) {bc bs : Nat} (hb : 1010 ≤ bc ∧ 12000 ≤ bs) (hP : ∀ S', RELo D S' o x A [a3, a4] (q + 1) ε → P S') :
    wp_L_readPaper D (fun r1 S2 => wp_X12_readPaper D (fun r3 S4 => CMPo D x a3 P Q r1 r3 S4) S2 x) bc bs S (o 0) a3 := by
  refine REL.elim hR fun c m F R v n w mv L W yb yl d ye hf lk ev => ?_
  unfold wp_L_readPaper wp_L_readPaper_0
  refine ⟨10 + 1, 11994 + 6, by omega, by omega, ?_⟩
  have e1 := hf.1.1.2
  obtain ⟨w1, w2, w3, w4, w5, w6, w7⟩ := hf.2.2.2.1.1.1
  have pg := hf.2.2.2.1.1.2.1
  have bb := bfr_of hf
  have hn := FR_r bb.1.1 bb.1.2 bb.2.1 bb.2.2
  have hG := hf.2.2.2.2.1
  obtain ⟨⟨t1, t2, Z, t3⟩, ⟨t4, t5, t6, t7⟩, t8⟩ := hf.2.2.2.1.2.1
  have s49 := t8 49 (.inr (.inl rfl))
  have s29 := t8 29 (.inl rfl)
  have h13 := lk.2.2.1.1
  have h15 := lk.2.2.2.1.1
  have n0 := pg.2.1.1
  have hl : 0 ≤ m 50 13 ∧ m 50 13 ≤ 500 := by omega
  have hw : 0 ≤ m 50 15 ∧ m 50 15 ≤ 128 := by omega
  have ht := hf.2.2.2.2.2.2.2.1
  have pE : papB F R m = if okB F R L = true then some (rcB F R (tx L)) else none := pap_eq2 w1 hG.1 h13 lk.2.2.1.2
  have al := CST.all hD (csts hf hD)
  have ne : yb 49 ≠ yb 29 := by
    have h6 : D.2.2.1 106 ∉ [o 29, yb 29] := fun z => own_no hf (.inl rfl) _ z hD.2.2.1.1
    have := (txt_off (r := 29) (.inl rfl) hf.1.1.1 (clsL_nd hf.2.2.1) h6).2.2.2 49 (.inr (.inl rfl)) (by decide)
    exact fun z => this (by rw [z]; simp)
  have t1' := t1
  have t3' := t3
  rw [e1] at t1' t3'
  rw [e1]
  refine q_readPaperC hf.1.1.1 w1 pg al.2.1 al.2.2.1 t1' (by show sN S (yb 49) < 1000000; omega) t3' (fun c => KS.of hD (csts hf hD c) (own_no hf (.inl rfl))) ne (M := 1002) (by decide) ?_ s29.1 (fun z a c1 U1 U' z' ec hbl he hs hz => .inl ⟨rfl, ?_⟩) (fun z z2 a c1 U1 U' z' ec hbl he hs hz => .inr ⟨rfl, ?_⟩) (fun z z2 a c1 U1 U' z' ec hbl he hs hz cc eU => ?_)
  · show sN S (yb 29) ≤ 1002 ∧ 1002 + 2 ≤ (sN S (yb 29) + 2) * 2 ^ 10 ∧ 2 * (1002 - sN S (yb 29)) ≤ 11994 + 2
    omega
  · have hf2 := hf.rp hD ec hbl he hs hz
    have lk' := lk.csim (c' := c1) (by rw [ec]; exact pR_sim c _ a) (by decide)
    have pn : papB F R m = none := by rw [pE, if_neg (by rw [z]; decide)]
    show wp_X12_readPaper D _ U' x
    rw [hf2.1.2.1.2]
    refine q_readPaper hf2.1.2.1.1 hG hl ht hw (fun _ m' sm h5 => ?_) (fun u k => by rw [pn] at k; exact nomatch k) (fun u k => by rw [pn] at k; exact nomatch k)
    have rr := rp_rel hf.2.2.2.2 lk' sm
    exact cmp_ok (by rw [x_e0, h5]; rfl) (hP _ (REL.mk ((hf2.ref hD.2.2.1.1 hD.2.2.2.2 rr.1).succ (by omega)) rr.2)) (fun y => absurd y (by decide))
  · have hf2 := hf.rp hD ec hbl he hs hz
    have lk' := lk.csim (c' := c1) (by rw [ec]; exact pR_sim c _ a) (by decide)
    have pn : papB F R m = some (rcB F R (tx L)) := by rw [pE, if_pos z]
    show wp_X12_readPaper D _ U' x
    rw [hf2.1.2.1.2]
    refine q_readPaper hf2.1.2.1.1 hG hl ht hw (fun k => by rw [pn] at k; exact nomatch k) (fun u _ _ m' sm h5 => ?_) (fun u _ _ _ _ k => absurd k (by rw [lk.2.1.1]; omega))
    have rr := rp_rel hf.2.2.2.2 lk' sm
    exact cmp_ok (by rw [x_e0, h5]; rfl) (hP _ (REL.mk ((hf2.ref hD.2.2.1.1 hD.2.2.2.2 rr.1).succ (by omega)) rr.2)) (fun y => absurd y (by decide))
  · have hf2 := hf.rp hD ec hbl he hs hz
    have lk' := lk.csim (c' := c1) (by rw [ec]; exact pR_sim c _ a) (by decide)
    have pn : papB F R m = some (rcB F R (tx L)) := by rw [pE, if_pos z]
    obtain ⟨rd, ps⟩ := papB_rd pn
    have ok := rdP_ok bb rd
    have br := rdP_brd bb.1.1 (by omega) rd
    have ep := pas_epS bb ok.1 ps
    generalize rcB F R (tx L) = u at *
    obtain ⟨hf3, sm3⟩ := lay_ok hf2 hD.2.2.2.2 ⟨ok.1, ok.2, br, ep⟩ (ok.1.rg hn.2)
    refine store_ok hD hf3 (fun S5 h5 e5 => ?_)
    show wp_X12_readPaper D _ S5 x
    rw [h5.1.2.1.2]
    refine q_readPaper h5.1.2.1.1 hG hl ht hw (fun k => by rw [pn] at k; exact nomatch k) (fun u _ k => absurd (by rw [lk.2.1.1]; exact z2) k) (fun u2 k2 _ _ _ m11 m' sm g8 h0 => ?_)
    rw [pn] at k2
    have eu := Option.some.inj k2
    subst eu
    have rr := rp_rel hf.2.2.2.2 lk' sm
    have row : ∀ r : Nat, r ≠ 8 → r ≠ 50 → m' r = (fun r j => if r = 8 ∧ 0 ≤ j ∧ j < 67 then m 8 j else m' r j : xM) r := fun r h1 h2 => by
      funext j
      show m' r j = if r = 8 ∧ 0 ≤ j ∧ j < 67 then m 8 j else m' r j
      rw [if_neg (fun y => h1 y.1)]
    have o50 : ∀ j : Int, j ≠ 0 → m' 50 j = (fun r j => if r = 8 ∧ 0 ≤ j ∧ j < 67 then m 8 j else m' r j : xM) 50 j := fun j hj => by
      show m' 50 j = if (50 : Nat) = 8 ∧ 0 ≤ j ∧ j < 67 then m 8 j else m' 50 j
      rw [if_neg (fun y => absurd y.1 (by decide))]
    have gg : gv m' 0 = u := by
      funext j
      unfold gv vec
      by_cases y : 0 ≤ j ∧ j < 67
      · rw [if_pos y, show 67 * (0 : Int) + j = j by omega]; exact g8 j y.1 y.2
      · rw [if_neg y, ok.2 j y]
    refine cmp_ok (by rw [x_e0, h0]; rfl) (lay_ref2 hD h5 rr.1 rr.2 sm3 row o50 ((sm.o (j := 11) rfl).trans ((up_ne _ (Or.inr (by decide))).trans m11)) gg hP) (fun _ => ⟨(ans_ref h5 _).2, ?_⟩)
    rw [(ans_ref h5 _).1, e5]
end
