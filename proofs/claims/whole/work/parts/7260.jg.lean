section
variable {D : wD} {S U : wS} {o : Nat → Nat} {c c' : cM} {x : Nat} {A : Nat → Nat} {m m' : xM} {F R F' R' : Int} {v v' : Int → Int} {n n' : Int} {w w' : Int → Int → Int} {mv mv' : Int → Mv} {L W : List Int} {yb : Nat → Nat} {yl : Int → Nat} {d : Int → SDt} {ye lw : List Nat} {q q' : Int} {b Ln : Nat} {xs : Nat → Int32} {a3 a4 : Nat} {P Q : wS → Prop} {ε : Bool}
theorem NOW.csim2 {K : List Nat} (h : NOW c F R v) (s : cSim K c c') (hK : ∀ k ∈ [0, 1, 2, 3, 4, 5, 6, 7, 8, 9, 11, 13], k ∉ K) : NOW c' F R v := by
  obtain ⟨h1, h2, h3, h4, h5, h6, h7⟩ := h
  have k10 : ∀ k, k < 10 → k ∈ [0, 1, 2, 3, 4, 5, 6, 7, 8, 9, 11, 13] := by decide
  refine ⟨BG_of (fun k hk => (s k (hK k (k10 k hk))).1) (fun k hk => (s k (hK k (k10 k hk))).2) h1, h2, h3, h4, h5, ?_, ?_⟩
  · unfold PAt at h6 ⊢
    rw [(s 11 (hK 11 (by decide))).1, (s 11 (hK 11 (by decide))).2]
    exact h6
  · unfold GL at h7 ⊢
    rw [(s 13 (hK 13 (by decide))).1]
    exact h7
/-- CALL: ask -/
theorem call_ask (hD : wDok D b Ln xs) (hR : RELo D S o x A [a3, a4] q ε) {sq z : Int} (hs : i32 sq) (hz : i32 z) {r r' : wS → Int32} {hv : wS → Prop} (hvv : ∀ S', CST D S' → hv S' ∧ r S' = iI sq ∧ r' S' = iI z) (hP : ∀ S', RELo D S' o x A [a3, a4] (q + 1) ε → P S') :
    wp_L_ask D (fun r1 S2 => hv S2 ∧ wp_X12_ask D (fun r3 S4 => CMPo D x a3 P Q r1 r3 S4) S2 x (r S2) (r' S2)) S (o 0) (iI sq) (iI z) a3 := by
  refine REL.elim hR fun c m F R v n w mv L W yb yl d ye hf lk ev => ?_
  unfold wp_L_ask wp_L_ask_0
  have e1 := hf.1.1.2
  obtain ⟨p1, p2, p3⟩ := hf.2.2.2.1.2.2.2.1
  have hB := hf.2.2.2.2.1.1
  have bb := bfr_of hf
  have hn := FR_r bb.1.1 bb.1.2 bb.2.1 bb.2.2
  rw [e1]
  refine q_askC hf.1.1.1 hf.2.2.2.1.1.1.1 hs hz p1 (fun y => .inl ⟨rfl, ?_⟩) (fun y y2 => .inr ⟨rfl, ?_⟩) (fun y y2 => ?_)
  · rw [← e1]
    obtain ⟨h1, h2, h3⟩ := hvv _ hf.2.1.1
    refine ⟨h1, ?_⟩
    rw [h2, h3, hf.1.2.1.2]
    exact q_ask hf.1.2.1.1 hB hs hz (fun _ => err_ok hD hf lk (.inl rfl) ((SIM.rf m).up0 1) rfl hP) (fun k => by rw [y] at k; exact nomatch k) (fun k => by rw [y] at k; exact nomatch k)
  · rw [← e1]
    obtain ⟨h1, h2, h3⟩ := hvv _ hf.2.1.1
    refine ⟨h1, ?_⟩
    rw [h2, h3, hf.1.2.1.2]
    exact q_ask hf.1.2.1.1 hB hs hz (fun k => by rw [y] at k; exact nomatch k) (fun _ _ => err_ok hD hf lk (.inr (.inl rfl)) ((SIM.rf m).up0 2) rfl hP) (fun _ k => by rw [y2] at k; exact nomatch k)
  · have i1 := inB_iff.mp y
    have i2 := inB_iff.mp y2
    have sm : cSim [51] c (cI c 51 sq z) := cI_sim c 51 sq z
    have cl := hf.2.2.2.1
    have c51 : ∀ k, (cI c 51 sq z).1 51 k = if k = sq then z else c.1 51 k := fun k => by
      rw [cI_1]
      by_cases h : k = sq
      · rw [if_pos h, h, up_at]
      · rw [if_neg h, up_ne _ (Or.inr h)]
    have hf1 := hf.cls hD.2.2.2.2 (cl.book hf.1.1.1 e1 (clsL_nd hf.2.2.1) (c' := cI c 51 sq z) ⟨cl.1.1.csim2 sm (by decide), PG.sim sm (by decide) (by decide) (by decide) cl.1.2.1, cl.1.2.2⟩ (sm 46 (by decide)).1 (sm 47 (by decide)).1 (sm 48 (by decide)).1 ⟨fun k k0 k1 => by rw [c51]; split; omega; exact p1 k k0 k1, by rw [(sm 0 (by decide)).1]; exact ⟨p2, p3⟩⟩)
    refine store_ok hD hf1 (fun S5 h5 e5 => ?_)
    obtain ⟨h1, h2, h3⟩ := hvv _ h5.2.1.1
    refine ⟨h1, ?_⟩
    rw [h2, h3, h5.1.2.1.2]
    refine q_ask h5.1.2.1.1 hB hs hz (fun k => by rw [y] at k; exact nomatch k) (fun _ k => by rw [y2] at k; exact nomatch k) (fun _ _ => ?_)
    have row : ∀ r : Nat, r ≠ 40 → r ≠ 50 → (up (up m 50 0 0) 40 sq z) r = m r := fun r h1 h2 => by rw [up_r _ _ _ (by simpa using h1), up_r _ _ _ (by simpa using h2)]
    have o50 : ∀ j : Int, j ≠ 0 → (up (up m 50 0 0) 40 sq z) 50 j = m 50 j := fun j hj => by rw [up_f _ _ _ _ rfl, up_ne _ (Or.inr hj)]
    have gvk : ∀ k, gv (up (up m 50 0 0) 40 sq z) k = gv m k := fun k => by unfold gv; rw [vec_row (row 8 (by decide) (by decide))]
    have xr := hf.2.2.2.2.game (m' := up (up m 50 0 0) 40 sq z) ⟨fun r hr => row r (by omega) (by omega), fun j hj => o50 j (by omega)⟩ ⟨by rw [o50 11 (by decide)]; exact hf.2.2.2.2.1.2.1, fun k k0 k1 => by rw [o50 11 (by decide)] at k1; rw [gvk]; exact hf.2.2.2.2.1.2.2 k k0 k1⟩ (fun k k0 k1 => by rw [row 10 (by decide) (by decide), row 9 (by decide) (by decide)]; exact hf.2.2.2.2.2.2.2.2.2.2.2.1 k k0 k1)
    have lk1 : LKo (up (up m 50 0 0) 40 sq z) (cI c 51 sq z) F R n w mv L W d ye ε := by
      obtain ⟨⟨a1, a2, a9⟩, ⟨b1, b2, b3, b4⟩, ⟨t1, t2⟩, ⟨d1, d2⟩, ⟨f1, f2, f3⟩, ⟨s1, s2⟩, g1, g2⟩ := lk
      have sh : ∀ r : Nat, 30 ≤ r → r ≤ 38 → (up (up m 50 0 0) 40 sq z) r = m r := fun r h1 h2 => row r (by omega) (by omega)
      refine ⟨⟨by rw [o50 1 (by decide)]; exact a1, by rw [o50 2 (by decide)]; exact a2, a9⟩, ⟨by rw [o50 11 (by decide)]; exact b1, fun k k0 k1 => by rw [gvk]; exact b2 k k0 k1, fun k k0 k1 => by rw [row 9 (by decide) (by decide)]; exact b3 k k0 k1, fun k k0 k1 => by rw [row 10 (by decide) (by decide)]; exact b4 k k0 k1⟩, ⟨by rw [o50 13 (by decide)]; exact t1, fun k k0 k1 => by rw [row 12 (by decide) (by decide)]; exact t2 k k0 k1⟩, ⟨by rw [o50 15 (by decide)]; exact d1, fun k k0 k1 => by rw [row 14 (by decide) (by decide)]; exact d2 k k0 k1⟩, ⟨by rw [o50 16 (by decide), (sm 0 (by decide)).1]; exact f1, by rw [o50 39 (by decide), (sm 0 (by decide)).1]; exact f2, fun k k0 k1 => ?_⟩, ⟨s1.row sh, s2.row sh⟩, fun kd k0 k1 => by rw [row 42 (by decide) (by decide), (sm 46 (by decide)).1]; exact g1 kd k0 k1, fun kd k0 k1 k2 i i0 i1 => ?_⟩
      · rw [c51]
        by_cases h : k = sq
        · rw [if_pos h, h, up_at]
        · rw [if_neg h, up_ne _ (Or.inr h), up_f _ _ _ _ rfl]; exact f3 k k0 k1
      · rw [row 42 (by decide) (by decide)] at k2
        rw [row 41 (by decide) (by decide)]; exact g2 kd k0 k1 k2 i i0 i1
    refine cmp_ok (by rw [x_i0]; rfl) (hP _ (REL.mk ((h5.ref hD.2.2.1.1 hD.2.2.2.2 xr).succ (by omega)) lk1)) (fun _ => ⟨(ans_ref h5 _).2, ?_⟩)
    rw [(ans_ref h5 _).1, e5, lk.2.2.2.2.1.2.2 sq i1.1 (by omega)]
end
