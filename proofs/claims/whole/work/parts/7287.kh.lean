section
variable {D : wD} {S U U1 : wS} {o : Nat → Nat} {c c' : cM} {x : Nat} {A : Nat → Nat} {m m' m1 : xM} {F R F' R' kd : Int} {v v' u : Int → Int} {n n' : Int} {w w' : Int → Int → Int} {mv mv' : Int → Mv} {L W : List Int} {yb : Nat → Nat} {yl yl' : Int → Nat} {d d' : Int → SDt} {ye ye' lw K : List Nat} {q q' : Int} {b Ln : Nat} {xs : Nat → Int32} {a3 a4 y' : Nat} {Q : wS → Prop} {ε ε' : Bool}
theorem en_no {y : Nat → Nat} (h : ENo D S o) (hE : EC D S o y) : False := by
  obtain ⟨z, z1, -, -, z4⟩ := h
  have e := (hE.1 0 (by decide)).2.1
  rw [show 4 + 0 = 4 from rfl, z1] at e
  have n0 := (hE.1 0 (by decide)).1.2.2
  rw [← Option.some.inj e, z4] at n0
  exact absurd n0 (by decide)
/-- the endings' rows are made -/
theorem HFo.made (hD : wDok D b Ln xs) (hf : HFo D S o x A lw c m F R v n w mv L W yb yl d [] q F' R') (hq : 0 ≤ q) (h0 : ∀ k : Int, 2 ≤ k → k ≤ 5 → c.1 46 k = 0) {y : Nat → Nat} (cc : CC D U o) (eU : U = cS U o c) (he : EX D S U [o 45]) (hE : EC D U o y) (hfr : ∀ k, k < 3 → ¬ wM D S (y k)) (hz : ∀ k (a : Int), k < 3 → e0S U y k a = 0) :
    HFo D U o x A lw c m F R v n w mv L W yb yl d [y 0, y 1, y 2] q F' R' := by
  have hS := hf.2.2.2.1.2.2.2.2.1
  have hp := hf.2.2.1
  refine hf.ends hD he (fun a ha => .inl (by rw [List.mem_singleton.mp ha]; exact List.mem_map.mpr ⟨45, by decide, rfl⟩)) cc eU (cSim.refl _ _) (Int.le_refl _) ⟨hS, .inr ⟨y, rfl, hE, ⟨by show (0 : Int) ≤ 0 ∧ (0 : Int) ≤ 31250; decide, fun i i0 i1 => ?_, fun i i0 i1 => ?_⟩, fun k k0 k1 k2 => ?_⟩⟩ ?_
  · show -2 ≤ e0S U y 0 i ∧ e0S U y 0 i ≤ 40000
    rw [hz 0 i (by decide)]; decide
  · show -(800000 * q) ≤ e0S U y 2 i ∧ e0S U y 2 i ≤ 100
    rw [hz 2 i (by decide)]; omega
  · rw [h0 k k0 k1] at k2; exact absurd k2 (by decide)
  · have old : ∀ a, ¬ wM D S a → (ownL D o x A yb yl d [] lw).count a = 0 := fun a ha => List.count_eq_zero.mpr fun z => ha (Or.inl (hp.2 a z).1)
    have ndN : [y 0, y 1, y 2].Nodup := by
      simp only [List.nodup_cons, List.mem_cons, List.not_mem_nil, or_false, not_or, not_false_eq_true, and_true, List.nodup_nil]
      exact ⟨⟨hE.2.1, hE.2.2.1⟩, hE.2.2.2⟩
    have new : ∀ a ∈ [y 0, y 1, y 2], ¬ wM D S a ∧ a ∈ sL U := fun a ha => by
      simp only [List.mem_cons, List.not_mem_nil, or_false] at ha
      rcases ha with rfl | rfl | rfl
      · exact ⟨hfr 0 (by decide), (hE.1 0 (by decide)).1.1⟩
      · exact ⟨hfr 1 (by decide), (hE.1 1 (by decide)).1.1⟩
      · exact ⟨hfr 2 (by decide), (hE.1 2 (by decide)).1.1⟩
    have nd := List.nodup_iff_count.mp hp.1
    refine hp.mk' he (List.nodup_iff_count.mpr fun a => ?_) (fun a ha => ?_)
    · have h1 := nd a
      have h2 := List.nodup_iff_count.mp ndN a
      rw [own_count] at h1 ⊢
      rw [List.count_nil] at h1
      by_cases z : a ∈ [y 0, y 1, y 2]
      · have := old a (new a z).1
        rw [own_count] at this
        omega
      · have := List.count_eq_zero.mpr z
        omega
    · by_cases z : a ∈ [y 0, y 1, y 2]
      · exact .inr ⟨(new a z).2, (new a z).1⟩
      · left
        have z0 := List.count_eq_zero.mpr z
        have ha := List.count_pos_iff.mpr ha
        rw [own_count] at ha
        refine List.count_pos_iff.mp ?_
        rw [own_count]
        omega
/-- CALL: solve -/
theorem call_solve (hD : wDok D b Ln xs) (hR : RELo D S o x A [a3, a4] q ε) (hq : 0 ≤ q ∧ q ≤ 600) (hk : i32 kd) {r : wS → Int32} {hv : wS → Prop} (hvv : ∀ S', CST D S' → hv S' ∧ r S' = iI kd) {bc bs : Nat} (hb : 1010 ≤ bc ∧ 12000 ≤ bs) (hb2 : ε = false → 183881 ≤ bs) {P : Nat → Nat → wS → Prop} (hP : ∀ S', RELo D S' o x A [a3, a4] (q + 1) ε → P 1010 12000 S') (hP2 : ε = false → ∀ S', RELo D S' o x A [a3, a4] (q + 1) true → P 1010 183881 S') :
    ∃ mm zz : Nat, mm ≤ bc ∧ zz ≤ bs ∧ wp_L_solve D (fun r1 S2 => hv S2 ∧ wp_X12_solve D (fun r3 S4 => CMPo D x a3 (P mm zz) Q r1 r3 S4) S2 x (r S2)) mm zz S (o 0) (iI kd) a3 := by
  refine REL.elim hR fun c m F R v n w mv L W yb yl d ye hf lk ev => ?_
  have e1 := hf.1.1.2
  have bb := bfr_of hf
  have hn := FR_r bb.1.1 bb.1.2 bb.2.1 bb.2.2
  have xr := hf.2.2.2.2
  have er := hf.2.2.2.1.2.2.2.2
  have w1 := hf.2.2.2.1.1.1.1
  have eo := xr.2.2.2.2.2.1
  by_cases al : ye = [] ∧ inB kd 2 5 = true ∧ F * R ≤ 25
  · obtain ⟨al1, al2, al3⟩ := al
    have hε : ε = false := by
      cases ε with
      | false => rfl
      | true => exact absurd al1 (lk.1.2.2 rfl)
    have hk2 := inB_iff.mp al2
    subst al1
    obtain ⟨hno, h00⟩ : ENo D S o ∧ ∀ k : Int, 2 ≤ k → k ≤ 5 → c.1 46 k = 0 := by
      rcases er.2 with ⟨-, g1, g2⟩ | ⟨y, y1, -⟩
      · exact ⟨g1, g2⟩
      · exact absurd y1 (by simp)
    refine ⟨1010, 183881, hb.1, hb2 hε, ?_⟩
    unfold wp_L_solve wp_L_solve_0
    refine ⟨1010, 183881, Nat.le_refl _, Nat.le_refl _, ?_⟩
    rw [e1]
    refine q_solveC2 (W0 := 0) (by decide) hf.1.1.1 w1 er.1 hk (by decide) (fun _ _ _ => .inr ⟨hno, by decide, by decide⟩) (fun z => by rw [al2] at z; exact nomatch z) (fun _ z => by omega) (fun _ _ z => by rw [h00 kd hk2.1 hk2.2] at z; exact absurd z (by decide)) (fun _ _ _ y hE => (en_no hno hE).elim) (fun _ _ z _ U y cc eU he hE _ hfr hz => ?_)
    rw [← e1, ← eU] at he
    have hf1 := hf.made hD hq.1 h00 cc eU he hE hfr hz
    have eb0 : EB (e0S U y, 0) 40000 (800000 * q) := ⟨by show (0 : Int) ≤ 0 ∧ (0 : Int) ≤ 31250; decide, fun i _ _ => by dsimp only; rw [hz 0 i (by decide)]; decide, fun i _ _ => by dsimp only; rw [hz 2 i (by decide)]; omega⟩
    have se := sol_eq bb al3 hk2 (e0S U y) (m 41)
    have hf2 := hf1.solved hD hq hk2 bb al3 rfl hE eb0 (fun k k0 k1 k2 => by rw [h00 k k0 k1] at k2; exact absurd k2 (by decide))
    generalize solveE F R kd (e0S U y) = tt at se hf2 ⊢
    refine store_ok hD hf2 (fun S5 h5 e5 => ?_)
    obtain ⟨h1, h2⟩ := hvv _ h5.2.1.1
    refine ⟨h1, ?_⟩
    rw [h2, h5.1.2.1.2]
    refine q_solve h5.1.2.1.1 xr.1 eo hk (fun z => by rw [al2] at z; exact nomatch z) (fun _ z => by omega) (fun _ _ eo2 m' sm h0 => ?_)
    have sm2 := wrkM_sim (kd := kd) c tt
    have rr := sol_rel (c' := wrkM c kd tt) (ye' := [y 0, y 1, y 2]) (ε' := true) hk2 bb al3 xr lk eo2 sm (sm2 0 (by decide)).1 (sm2 51 (by decide)).1 (fun k k0 k1 => by
      by_cases z : k = kd
      · rw [z, wrkM_46, if_pos rfl]
      · rw [wrkM_46n _ _ z, if_neg z]) (fun _ => by simp)
    refine cmp_ok (by rw [x_e0, h0]; rfl) (hP2 hε _ (REL.mk (h5.ref hD.2.2.1.1 hD.2.2.2.2 rr.1) rr.2)) (fun _ => ⟨(ans_ref h5 _).2, ?_⟩)
    rw [(ans_ref h5 _).1, e5, se.2.1]
  · refine ⟨1010, 12000, hb.1, hb.2, ?_⟩
    unfold wp_L_solve wp_L_solve_0
    refine ⟨1010, 12000, Nat.le_refl _, Nat.le_refl _, ?_⟩
    rw [e1]
    refine q_solveC2 (W0 := 800000 * q) (by omega) hf.1.1.1 w1 er.1 hk (by decide) (fun z z2 z3 => ?_) (fun z => .inl ⟨rfl, ?_⟩) (fun z z2 => .inr ⟨rfl, ?_⟩) (fun z z2 z3 => ?_) (fun z z2 z3 y hE => ?_) (fun z z2 z3 hN => ?_)
    · rcases er.2 with ⟨g1, -⟩ | ⟨y, -, g2, g3, -⟩
      · exact absurd ⟨g1, z, z2⟩ al
      · exact .inl ⟨y, g2, g3⟩
    · rw [← e1]
      obtain ⟨h1, h2⟩ := hvv _ hf.2.1.1
      refine ⟨h1, ?_⟩
      rw [h2, hf.1.2.1.2]
      exact q_solve hf.1.2.1.1 xr.1 eo hk (fun _ m' s h5 => err_ok hD hf lk (.inl rfl) s h5 hP) (fun y => by rw [z] at y; exact nomatch y) (fun y => by rw [z] at y; exact nomatch y)
    · rw [← e1]
      obtain ⟨h1, h2⟩ := hvv _ hf.2.1.1
      refine ⟨h1, ?_⟩
      rw [h2, hf.1.2.1.2]
      exact q_solve hf.1.2.1.1 xr.1 eo hk (fun y => by rw [z] at y; exact nomatch y) (fun _ _ m' s h5 => err_ok hD hf lk (.inr (.inl rfl)) s h5 hP) (fun _ y => by omega)
    · rw [← e1]
      have hk2 := inB_iff.mp z
      refine store_ok hD hf (fun S5 h5 e5 => ?_)
      obtain ⟨h1, h2⟩ := hvv _ h5.2.1.1
      refine ⟨h1, ?_⟩
      rw [h2, h5.1.2.1.2]
      refine q_solve h5.1.2.1.1 xr.1 eo hk (fun y => by rw [z] at y; exact nomatch y) (fun _ y => by omega) (fun _ _ eo2 m' sm h0 => ?_)
      have rr := sol_rel (c' := c) (ye' := ye) (ε' := ε) hk2 bb z2 xr lk eo2 sm rfl rfl (fun k k0 k1 => by
        by_cases y : k = kd
        · rw [y, if_pos rfl]; exact z3
        · rw [if_neg y]) lk.1.2.2
      refine cmp_ok (by rw [x_e0, h0]; rfl) (hP _ (REL.mk ((h5.ref hD.2.2.1.1 hD.2.2.2.2 rr.1).succ (by omega)) rr.2)) (fun _ => ⟨(ans_ref h5 _).2, ?_⟩)
      rw [(ans_ref h5 _).1, e5]
      rcases er.2 with ⟨g1, -, g⟩ | ⟨y, -, -, -, g⟩
      · have := g kd hk2.1 hk2.2; omega
      · rw [(g kd hk2.1 hk2.2 z3).2.2.1, won_cong (E := tabE F (F * R) kd (m 41)) (E' := T0 F (F * R) kd) (fun i i0 i1 => tab_same ⟨by omega, z2⟩ _ _ ⟨i0, i1⟩)]
    · have hk2 := inB_iff.mp z
      rcases er.2 with ⟨-, g1, -⟩ | ⟨y2, g1, g2, g3, g4⟩
      · exact (en_no g1 hE).elim
      · have ey : ∀ k, k < 3 → y2 k = y k := fun k hk => by
          have a1 := (g2.1 k hk).2.1
          rw [(hE.1 k hk).2.1] at a1
          exact (Option.some.inj a1).symm
        have hye : ye = [y 0, y 1, y 2] := by rw [g1, ey 0 (by decide), ey 1 (by decide), ey 2 (by decide)]
        have e0 : ∀ k, k < 3 → ∀ j : Int, e0S S y k j = e0S S y2 k j := fun k hk j => by unfold e0S; rw [ey k hk]
        have eb0 : EB (e0S S y, 0) 40000 (800000 * q) := ⟨g3.1, fun i i0 i1 => by show -2 ≤ e0S S y 0 i ∧ e0S S y 0 i ≤ 40000; rw [e0 0 (by decide)]; exact g3.2.1 i i0 i1, fun i i0 i1 => by show -(800000 * q) ≤ e0S S y 2 i ∧ e0S S y 2 i ≤ 100; rw [e0 2 (by decide)]; exact g3.2.2 i i0 i1⟩
        have se := sol_eq bb z2 hk2 (e0S S y) (m 41)
        have hf2 := hf.solved hD hq hk2 bb z2 hye hE eb0 (fun k k0 k1 k2 => by
          obtain ⟨-, v1, v2⟩ := g4 k k0 k1 k2
          refine ⟨fun i hi => ?_, v2⟩
          rw [← v1 i hi]
          exact e0 0 (by decide) _)
        generalize solveE F R kd (e0S S y) = tt at se hf2 ⊢
        refine store_ok hD hf2 (fun S5 h5 e5 => ?_)
        obtain ⟨h1, h2⟩ := hvv _ h5.2.1.1
        refine ⟨h1, ?_⟩
        rw [h2, h5.1.2.1.2]
        refine q_solve h5.1.2.1.1 xr.1 eo hk (fun y => by rw [z] at y; exact nomatch y) (fun _ y => by omega) (fun _ _ eo2 m' sm h0 => ?_)
        have sm2 := wrkM_sim (kd := kd) c tt
        have rr := sol_rel (c' := wrkM c kd tt) (ye' := ye) (ε' := ε) hk2 bb z2 xr lk eo2 sm (sm2 0 (by decide)).1 (sm2 51 (by decide)).1 (fun k k0 k1 => by
          by_cases y : k = kd
          · rw [y, wrkM_46, if_pos rfl]
          · rw [wrkM_46n _ _ y, if_neg y]) lk.1.2.2
        refine cmp_ok (by rw [x_e0, h0]; rfl) (hP _ (REL.mk (h5.ref hD.2.2.1.1 hD.2.2.2.2 rr.1) rr.2)) (fun _ => ⟨(ans_ref h5 _).2, ?_⟩)
        rw [(ans_ref h5 _).1, e5, se.2.1]
    · rcases er.2 with ⟨g1, -⟩ | ⟨y2, -, g2, -⟩
      · exact absurd ⟨g1, z, z2⟩ al
      · exact (en_no hN g2).elim
end
