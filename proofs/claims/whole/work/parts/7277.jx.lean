section
variable {D : wD} {S U U' : wS} {o : Nat → Nat} {c c' : cM} {x : Nat} {A : Nat → Nat} {m m' m1 : xM} {F R F' R' f g : Int} {v v' u : Int → Int} {n n' : Int} {w w' : Int → Int → Int} {mv mv' : Int → Mv} {L W : List Int} {yb : Nat → Nat} {yl : Int → Nat} {d : Int → SDt} {ye lw K : List Nat} {q q' : Int} {b Ln : Nat} {xs : Nat → Int32} {a3 a4 : Nat} {P Q : wS → Prop} {ε : Bool}
/-- empty shelves -/
abbrev d0o (d : Int → SDt) : Int → SDt := fun s => ([], (d s).2)
theorem emptyV_ok (h4 : 4 ≤ f) (r4 : 4 ≤ g) (hn : 0 < f * g) : okV f g emptyV ∧ clV emptyV ∧ brd f g emptyV ∧ epS f g emptyV := by
  refine ⟨⟨fun k k0 k1 => ?_, ?_, ?_, ?_⟩, fun k hk => ?_, fun k k0 k1 => ?_, .inl rfl⟩
  · unfold emptyV; rw [if_neg (by omega), if_neg (by omega)]; decide
  · unfold emptyV; rw [if_pos rfl]; decide
  · unfold emptyV; rw [if_neg (by decide), if_neg (by decide)]; decide
  · unfold emptyV; rw [if_neg (by decide), if_pos rfl]; omega
  · unfold emptyV; rw [if_neg (by omega), if_neg (by omega)]
  · unfold emptyV; rw [if_neg (by omega), if_neg (by omega)]
/-- the row of a shelf that holds games is a cell of its own -/
theorem yl_own (hD : wDok D b Ln xs) (h : CST D U) {a y : Nat} {l : List Nat} (hA : AL D U a y l) (hl : l.length ≠ 0) : y ≠ D.2.2.1 106 := fun e => by
  have n0 : sN U (D.2.2.1 106) = 0 := by rw [h.n (Or.inr hD.2.2.1.1)]; exact hD.2.2.1.2.2
  have := hA.2.1.2.2.2.1
  rw [e, n0] at this
  omega
/-- a new board -/
theorem HFo.board (hD : wDok D b Ln xs) (hf : HFo D S o x A lw c m F R v n w mv L W yb yl d ye q F' R') (hfg : (4 ≤ f ∧ f ≤ 8) ∧ 4 ≤ g ∧ g ≤ 8) {c1 : cM} (s1 : cSim [1, 2, 3, 4, 5, 6, 7, 8, 9] c c1) (hB : BG c1 f g) (cc : CC D U o) (hr : ∀ k, cOk k = true → sR U (o k) = sR S (o k))
    (he : EX D S (cS U o (newM c1)) (cLs.map o ++ (clK (o 31) (yl 0) (d 0).1 ++ clK (o 33) (yl 1) (d 1).1))) (h31 : AL D (cS U o (newM c1)) (o 31) (yl 0) []) (h33 : AL D (cS U o (newM c1)) (o 33) (yl 1) []) :
    HFo D (cS U o (newM c1)) o x A lw (newM c1) m f g emptyV 0 (fun _ => emptyV) mv L W yb yl (d0o d) ye q F' R' := by
  obtain ⟨bf, ⟨cs1, cs2⟩, hp, cl, xr⟩ := hf
  have cc0 := bf.1.1
  have ap := hp.apart
  have nd := clsL_nd hp
  have hn := FR_r hfg.1.1 hfg.1.2 hfg.2.1 hfg.2.2
  have f0 : 0 < f * g := Int.mul_pos (by omega) (by omega)
  have om : ∀ k, k < 52 → o k ∈ clsL D o yb yl d ye := fun k hk => by unfold clsL; rw [List.mem_append]; exact .inl (List.mem_map.mpr ⟨k, List.mem_range.mpr hk, rfl⟩)
  have ylm : ∀ s : Int, (s = 0 ∨ s = 1) → yl s ≠ D.2.2.1 106 → yl s ∈ ylC D yl := fun s hs z => by
    unfold ylC
    rw [List.mem_append]
    rcases hs with rfl | rfl
    · left; rw [if_neg z]; exact List.mem_singleton.mpr rfl
    · right; rw [if_neg z]; exact List.mem_singleton.mpr rfl
  have K1 : ∀ a ∈ cLs.map o ++ (clK (o 31) (yl 0) (d 0).1 ++ clK (o 33) (yl 1) (d 1).1), a ∈ (List.range 52).map o ∨ a ∈ ylC D yl := fun a ha => by
    have on : ∀ k, k < 52 → o k ∈ (List.range 52).map o := fun k hk => List.mem_map.mpr ⟨k, List.mem_range.mpr hk, rfl⟩
    rcases List.mem_append.mp ha with z | z
    · exact .inl (cLs_sub _ z)
    · rcases List.mem_append.mp z with z | z
      · rcases clK_mem z with e | ⟨e2, e⟩
        · rw [e]; exact .inl (on 31 (by decide))
        · rw [e]; exact .inr (ylm 0 (.inl rfl) (yl_own hD cs1 (cl.2.2.1 0 (.inl rfl)).1.1 e2))
      · rcases clK_mem z with e | ⟨e2, e⟩
        · rw [e]; exact .inl (on 33 (by decide))
        · rw [e]; exact .inr (ylm 1 (.inr rfl) (yl_own hD cs1 (cl.2.2.1 1 (.inr rfl)).1.1 e2))
  have Kc : ∀ a ∈ cLs.map o ++ (clK (o 31) (yl 0) (d 0).1 ++ clK (o 33) (yl 1) (d 1).1), a ∈ clsL D o yb yl d ye := fun a ha => by
    unfold clsL
    rw [List.mem_append, List.mem_append, List.mem_append]
    rcases K1 a ha with z | z
    · exact .inl z
    · exact .inr (.inr (.inl z))
  have Kd : ∀ a ∈ cLs.map o ++ (clK (o 31) (yl 0) (d 0).1 ++ clK (o 33) (yl 1) (d 1).1), a ∉ D.2.1 := fun a ha => (hp.2 a (own_mem.mpr (.inl (Kc a ha)))).2
  have eU : cS U o (newM c1) = cS (cS U o (newM c1)) o (newM c1) := (ex_c cc (EX.rf (K := [])) (fun n _ => List.not_mem_nil)).2
  have ccU : CC D (cS U o (newM c1)) o := ⟨cc.1, cc.2.1, cc.2.2⟩
  have bx := he
  rw [bf.2.1.2] at bx
  have exx := ex_x bf.2.1.1 bx (fun a ha z => (ap.1 a (Kc a z)).1 ha)
  -- none of the builders', none of the endings' rows
  unfold clsL at nd
  have n1 := nd_app nd
  have d1 := (List.nodup_append.mp nd).2.1
  have n2 := nd_app d1
  have d2 := (List.nodup_append.mp d1).2.1
  have n3 := nd_app d2
  have noK : ∀ a, a ∈ [yb 29, yb 49, yb 50] ∨ a ∈ ye → a ∉ cLs.map o ++ (clK (o 31) (yl 0) (d 0).1 ++ clK (o 33) (yl 1) (d 1).1) := fun a ha z => by
    rcases K1 a z with y | y
    · refine n1 a y ?_
      rcases ha with k | k
      · exact List.mem_append.mpr (.inl k)
      · simp only [List.mem_append]; exact .inr (.inr (.inr (.inr k)))
    · rcases ha with k | k
      · exact n2 a k (List.mem_append.mpr (.inl y))
      · exact n3 a y (by simp only [List.mem_append]; exact .inr (.inr k))
  have oK : ∀ k, k < 52 → cOk k = false → k ≠ 31 → k ≠ 33 → o k ∉ cLs.map o ++ (clK (o 31) (yl 0) (d 0).1 ++ clK (o 33) (yl 1) (d 1).1) := fun k hk hc h1 h2 z => by
    have inj := cc0.2.1
    have ony : o k ∉ ylC D yl := fun y => n1 _ (List.mem_map.mpr ⟨k, List.mem_range.mpr hk, rfl⟩) (by simp only [List.mem_append]; exact .inr (.inl y))
    rcases List.mem_append.mp z with z | z
    · exact o_ne cc0 hk hc _ (by obtain ⟨j, hj, e⟩ := List.mem_map.mp z; have := inj j (cOk_lt (by simpa [cOk] using hj)) k hk e; rw [← this]; simpa [cOk] using hj) rfl
    · rcases List.mem_append.mp z with z | z
      · rcases clK_mem z with e | ⟨e2, e⟩
        · exact h1 (inj k hk 31 (by decide) e)
        · exact ony (by rw [e]; exact ylm 0 (.inl rfl) (yl_own hD cs1 (cl.2.2.1 0 (.inl rfl)).1.1 e2))
      · rcases clK_mem z with e | ⟨e2, e⟩
        · exact h2 (inj k hk 33 (by decide) e)
        · exact ony (by rw [e]; exact ylm 1 (.inr rfl) (yl_own hD cs1 (cl.2.2.1 1 (.inr rfl)).1.1 e2))
  have sim : cSim [0, 11, 13, 14, 46, 47, 48, 51] c1 (newM c1) := by
    unfold newM
    exact (((((putP_sim c1 11 _).mono (by decide)).trans ((cI_sim _ 13 _ _).mono (by decide))).trans ((putS_sim _ 14 _ _).mono (by decide))).trans ((cI_sim _ 0 _ _).mono (by decide))).trans (((forgM_sim _).mono (by decide)).trans ((filR_sim _ 51 _ _).mono (by decide)))
  have sim2 : cSim [0, 46, 47, 48, 51] (putS (cI (putP c1 11 emptyV) 13 3 0) 14 0 emptyV) (newM c1) := by
    unfold newM
    exact ((cI_sim _ 0 _ _).mono (by decide)).trans (((forgM_sim _).mono (by decide)).trans ((filR_sim _ 51 _ _).mono (by decide)))
  have ev := emptyV_ok hfg.1.1 hfg.2.1 f0
  have c13 : (newM c1).1 13 3 = 0 := by rw [(sim2 13 (by decide)).1, putS_i, cI_1, up_at]
  have pa : PAt (newM c1) 11 emptyV := by
    have p := putP_at c1 11 emptyV
    have s2 : cSim [13, 14] (putP c1 11 emptyV) (putS (cI (putP c1 11 emptyV) 13 3 0) 14 0 emptyV) := ((cI_sim _ 13 3 0).mono (by decide)).trans ((putS_sim _ 14 0 emptyV).mono (by decide))
    exact sim2.P (by decide) (s2.P (by decide) p)
  have pg : PG (newM c1) 0 (fun _ => emptyV) mv := PG.sim sim2 (by decide) (by decide) (by decide) (PG.begin emptyV_rg mv)
  have nw : NOW (newM c1) f g emptyV := ⟨BG_of1 (fun k k0 k1 => (sim k (by simp; omega)).1) (fun k k0 k1 => (sim k (by simp; omega)).2) hB, ev.1, ev.2.1, ev.2.2.1, ev.2.2.2, pa, ⟨by rw [c13]; decide, fun z => by rw [c13] at z; omega⟩⟩
  have c46 : ∀ k : Int, 0 ≤ k → k < 6 → (newM c1).1 46 k = 0 := fun k k0 k1 => by
    unfold newM
    rw [((filR_sim _ 51 64 15) 46 (by decide)).1]
    unfold forgM
    exact filR_at _ 46 6 0 k0 k1
  have c51 : ∀ k : Int, 0 ≤ k → k < 64 → (newM c1).1 51 k = 15 := fun k k0 k1 => by
    unfold newM
    exact filR_at _ 51 64 15 k0 k1
  have c0 : (newM c1).1 0 16 = c.1 0 16 ∧ (newM c1).1 0 17 = 0 := by
    unfold newM
    rw [((filR_sim _ 51 64 15) 0 (by decide)).1, ((forgM_sim _) 0 (by decide)).1]
    refine ⟨?_, by rw [cI_1, up_at]⟩
    rw [cI_1, up_ne _ (Or.inr (by decide)), putS_i, cI_1, up_ne _ (Or.inl (by decide)), (putP_sim c1 11 emptyV 0 (by decide)).1, (s1 0 (by decide)).1]
  obtain ⟨g1, tx, sh, ⟨p1, p2, p3, p4⟩, e1, e2⟩ := cl
  refine ⟨⟨⟨ccU, eU⟩, exx, bf.2.2⟩, ⟨cs1.of he Kd hD.2.2.2.2, cs2.ex he⟩, ?_, ⟨⟨nw, pg, rfl, fun k k0 k1 => by omega, fun k k0 k1 => ⟨ev.2.1, ev.1⟩⟩, ?_, fun s hs => ?_, ⟨fun k k0 k1 => by rw [c51 k k0 k1]; decide, by rw [c0.1]; exact p2, by rw [c0.2]; omega⟩, ?_⟩, xr⟩
  · -- the cells
    have sub : List.Sublist (ownL D o x A yb yl (d0o d) ye lw) (ownL D o x A yb yl d ye lw) := by
      unfold ownL
      refine List.Sublist.append (List.Sublist.refl _) (List.Sublist.append (List.Sublist.refl _) (List.Sublist.append (List.Sublist.refl _) (List.Sublist.append (List.Sublist.refl _) ?_)))
      refine List.Sublist.append (show List.Sublist (gmC (d0o d 0)) (gmC (d 0)) from List.nil_sublist _) (List.Sublist.append (show List.Sublist (gmC (d0o d 1)) (gmC (d 1)) from List.nil_sublist _) (List.Sublist.refl _))
    exact hp.mk' he (hp.1.sublist sub) (fun a ha => .inl (sub.subset ha))
  · exact tx.ex he ⟨oK 29 (by decide) (by decide) (by decide) (by decide), oK 49 (by decide) (by decide) (by decide) (by decide), oK 50 (by decide) (by decide) (by decide) (by decide)⟩ ⟨noK _ (.inl (by simp)), noK _ (.inl (by simp)), noK _ (.inl (by simp))⟩
  · have hs90 : ∀ s : Int, (s = 0 ∨ s = 1) → sN (cS U o (newM c1)) (yl s) < 90 := fun s hs => by
      have := (sh s hs).1
      rw [he.n this.1.2.1.2.1]; exact this.2.1.2
    refine ⟨⟨?_, ⟨by simp [d0o], hs90 s hs⟩, fun k k0 k1 => absurd k1 (by simp [d0o]; omega)⟩, ⟨fun k k0 k1 => absurd k1 (by simp [d0o]; omega), fun k k0 k1 => absurd k1 (by simp [d0o]; omega)⟩, fun k k0 k1 => absurd k1 (by simp [d0o]; omega)⟩
    rcases hs with rfl | rfl
    · exact h31
    · exact h33
  · refine ⟨fun k k0 k1 => .inl (c46 k k0 k1), ?_⟩
    rcases e2 with ⟨b1, ⟨z, z1, z2, z3, z4⟩, b3⟩ | ⟨y, y1, y2, y3, y4⟩
    · exact .inl ⟨b1, ⟨z, by show sR U (o 45) 4 = some z; rw [hr 45 (by decide)]; exact z1, he.M z2, by rw [he.k z2]; exact z3, by rw [he.n z2]; exact z4⟩, fun k k0 k1 => c46 k (by omega) (by omega)⟩
    · right
      have nk : ∀ k, k < 3 → y k ∉ cLs.map o ++ (clK (o 31) (yl 0) (d 0).1 ++ clK (o 33) (yl 1) (d 1).1) := fun k hk => noK _ (.inr (by rw [y1]; rcases (show k = 0 ∨ k = 1 ∨ k = 2 by omega) with rfl | rfl | rfl <;> simp))
      have my : ∀ k, k < 3 → wM D S (y k) := fun k hk => Or.inl (y2.1 k hk).1.1
      have e0 : ∀ k, k < 3 → ∀ j, e0S (cS U o (newM c1)) y k j = e0S S y k j := fun k hk j => by
        show (sI (cS U o (newM c1)) (y k) j.toNat).toInt = (sI S (y k) j.toNat).toInt
        rw [he.i (my k hk) (nk k hk)]
      refine ⟨y, y1, ⟨fun k hk => ⟨⟨he.L (y2.1 k hk).1.1, by rw [he.k (my k hk)]; exact (y2.1 k hk).1.2.1, by rw [he.n (my k hk)]; exact (y2.1 k hk).1.2.2⟩, by show sR U (o 45) (4 + k) = _; rw [hr 45 (by decide)]; exact (y2.1 k hk).2.1, (y2.1 k hk).2.2⟩, y2.2⟩, ⟨y3.1, fun i i0 i1 => ?_, fun i i0 i1 => ?_⟩, fun kd k0 k1 k2 => ?_⟩
      · show -2 ≤ e0S (cS U o (newM c1)) y 0 i ∧ e0S (cS U o (newM c1)) y 0 i ≤ 40000
        rw [e0 0 (by decide)]; exact y3.2.1 i i0 i1
      · show -(800000 * q) ≤ e0S (cS U o (newM c1)) y 2 i ∧ e0S (cS U o (newM c1)) y 2 i ≤ 100
        rw [e0 2 (by decide)]; exact y3.2.2 i i0 i1
      · rw [c46 kd (by omega) (by omega)] at k2
        exact absurd k2 (by decide)
/-- CALL: newBoard -/
theorem call_newBoard (hD : wDok D b Ln xs) (hR : RELo D S o x A [a3, a4] q ε) (hif : i32 f) (hig : i32 g) {r r' : wS → Int32} {hv : wS → Prop} (hvv : ∀ S', CST D S' → hv S' ∧ r S' = iI f ∧ r' S' = iI g) (hP : ∀ S', RELo D S' o x A [a3, a4] (q + 1) ε → P S') :
    wp_L_newBoard D (fun r1 S2 => hv S2 ∧ wp_X12_newBoard D (fun r3 S4 => CMPo D x a3 P Q r1 r3 S4) S2 x (r S2) (r' S2)) S (o 0) (iI f) (iI g) a3 := by
  refine REL.elim hR fun c m F R v n w mv L W yb yl d ye hf lk ev => ?_
  unfold wp_L_newBoard wp_L_newBoard_0
  have e1 := hf.1.1.2
  have sh := hf.2.2.2.1.2.2.1
  have cs1 := hf.2.1.1
  have nd := clsL_nd hf.2.2.1
  have al := CST.all hD (csts hf hD)
  have A0 : AL D S (o 31) (yl 0) (d 0).1 := (sh 0 (.inl rfl)).1.1
  have A1 : AL D S (o 33) (yl 1) (d 1).1 := (sh 1 (.inr rfl)).1.1
  have hn90 : sN S (yl 0) < 100000 ∧ sN S (yl 1) < 100000 := by
    have h1 := (sh 0 (.inl rfl)).1.2.1.2
    have h2 := (sh 1 (.inr rfl)).1.2.1.2
    omega
  have hy : ((d 0).1.length ≠ 0 ∨ (d 1).1.length ≠ 0) → yl 0 ≠ yl 1 := fun z e => by
    have y0 : yl 0 ≠ D.2.2.1 106 := by
      rcases z with z | z
      · exact yl_own hD cs1 A0 z
      · rw [e]; exact yl_own hD cs1 A1 z
    have y1 : yl 1 ≠ D.2.2.1 106 := by rw [← e]; exact y0
    unfold clsL at nd
    have dd := (List.nodup_append.mp (List.nodup_append.mp (List.nodup_append.mp nd).2.1).2.1).1
    unfold ylC at dd
    rw [if_neg y0, if_neg y1] at dd
    exact nd_app dd _ (List.mem_singleton.mpr rfl) (List.mem_singleton.mpr e)
  have A0' := A0
  have A1' := A1
  rw [e1] at A0' A1'
  rw [e1]
  refine q_newBoardC2 hf.1.1.1 al.2.2.2.2.2.2.1 A0' A1' hn90 hy hif hig (fun z => ⟨rfl, ?_⟩) (fun z c1 U s1 hB cc hrr he h31 h33 => ?_)
  · rw [← e1]
    obtain ⟨h1, h2, h3⟩ := hvv _ hf.2.1.1
    refine ⟨h1, ?_⟩
    rw [h2, h3, hf.1.2.1.2]
    exact q_newBoard hf.1.2.1.1 hif hig (fun _ => err_ok hD hf lk (.inl rfl) ((SIM.rf m).up0 1) rfl hP) (fun y => by rw [z] at y; exact nomatch y)
  · rw [← e1] at he
    rw [Bool.and_eq_true] at z
    have z1 := inB_iff.mp z.1
    have z2 := inB_iff.mp z.2
    have hf1 := hf.board hD ⟨z1, z2⟩ s1 hB cc hrr he h31 h33
    refine store_ok hD hf1 (fun S5 h5 e5 => ?_)
    obtain ⟨h1, h2, h3⟩ := hvv _ h5.2.1.1
    refine ⟨h1, ?_⟩
    rw [h2, h3, h5.1.2.1.2]
    refine q_newBoard h5.1.2.1.1 hif hig (fun y => by rw [z.1, z.2] at y; exact nomatch y) (fun _ => ?_)
    obtain ⟨x1, ⟨y1, y2, y3⟩, ⟨u1, u2, u3, u4⟩, t1, t2, t3, t4, t5, t6, t7⟩ := hf.2.2.2.2
    have hn := FR_r z1.1 z1.2 z2.1 z2.2
    have f0 : 0 < f * g := Int.mul_pos (by omega) (by omega)
    have evo := emptyV_ok z1.1 z2.1 f0
    have b30 : ∀ s : Int, 0 ≤ s → s ≤ 1 → boardM m f g 30 s = 0 := fun s s0 s1 => boardM_30 (by omega)
    have row : ∀ k : Nat, (k ≠ 8 ∧ k ≠ 30 ∧ k ≠ 40 ∧ k ≠ 42 ∧ k ≠ 50) → boardM m f g k = m k := fun k hk => boardM_r hk
    have xr : XRo (boardM m f g) f g := ⟨⟨⟨boardM_1, boardM_2, z1.1, z1.2, z2.1, z2.2⟩, by rw [boardM_11]; decide, fun k k0 k1 => by
        rw [boardM_11] at k1
        have : k = 0 := by omega
        rw [this, boardM_gv]; exact evo.1⟩, ⟨fun i i0 i1 => by rw [b30 i i0 i1]; decide, fun k k0 k1 => by rw [row 33 (by decide), row 34 (by decide), row 35 (by decide)]; exact y2 k k0 k1, fun i k j i0 i1 k0 k1 => by rw [b30 i i0 i1] at k1; omega⟩,
      ⟨fun i i0 i1 => by rw [b30 i i0 i1]; decide, fun k k0 k1 => by rw [row 33 (by decide)]; exact u2 k k0 k1, fun j j0 j1 => by rw [row 32 (by decide)]; exact u3 j j0 j1, fun i k i0 i1 k0 k1 => by rw [b30 i i0 i1] at k1; omega⟩, fun k k0 k1 => by rw [row 12 (by decide)]; exact t1 k k0 k1, fun k k0 k1 => by rw [row 36 (by decide), row 37 (by decide), row 38 (by decide)]; exact t2 k k0 k1, by rw [row 41 (by decide)]; exact t3, fun k k0 k1 => by rw [boardM_42 k0 k1]; exact .inl rfl, fun k k0 k1 => by rw [row 10 (by decide), row 9 (by decide)]; exact t5 k k0 k1, fun k k0 k1 => by rw [row 14 (by decide)]; exact t6 k k0 k1, boardM_42 (by decide) (by decide), boardM_42 (by decide) (by decide)⟩
    have c0 : (newM c1).1 0 16 = c.1 0 16 ∧ (newM c1).1 0 17 = 0 := by
      unfold newM
      rw [((filR_sim _ 51 64 15) 0 (by decide)).1, ((forgM_sim _) 0 (by decide)).1]
      refine ⟨?_, by rw [cI_1, up_at]⟩
      rw [cI_1, up_ne _ (Or.inr (by decide)), putS_i, cI_1, up_ne _ (Or.inl (by decide)), (putP_sim c1 11 emptyV 0 (by decide)).1, (s1 0 (by decide)).1]
    have c46 : ∀ k : Int, 0 ≤ k → k < 6 → (newM c1).1 46 k = 0 := fun k k0 k1 => by
      unfold newM
      rw [((filR_sim _ 51 64 15) 46 (by decide)).1]
      unfold forgM
      exact filR_at _ 46 6 0 k0 k1
    have lk1 : LKo (boardM m f g) (newM c1) f g 0 (fun _ => emptyV) mv L W (d0o d) ye ε := by
      refine ⟨⟨boardM_1, boardM_2, lk.1.2.2⟩, ⟨boardM_11, fun k k0 k1 => ?_, fun k k0 k1 => by omega, fun k k0 k1 => by omega⟩, ⟨by rw [boardM_o (by decide)]; exact lk.2.2.1.1, fun k k0 k1 => by rw [row 12 (by decide)]; exact lk.2.2.1.2 k k0 k1⟩, ⟨by rw [boardM_o (by decide)]; exact lk.2.2.2.1.1, fun k k0 k1 => by rw [row 14 (by decide)]; exact lk.2.2.2.1.2 k k0 k1⟩, ⟨by rw [boardM_o (by decide), c0.1]; exact lk.2.2.2.2.1.1, by rw [boardM_39, c0.2], fun k k0 k1 => by rw [boardM_40 k0 k1]; unfold newM; exact (filR_at _ 51 64 15 k0 k1).symm⟩, ⟨⟨b30 0 (by decide) (by decide), fun k k0 k1 => absurd k1 (by simp [d0o]; omega)⟩, ⟨b30 1 (by decide) (by decide), fun k k0 k1 => absurd k1 (by simp [d0o]; omega)⟩⟩, fun kd k0 k1 => by rw [boardM_42 (by omega) (by omega), c46 kd (by omega) (by omega)], fun kd k0 k1 k2 => by rw [boardM_42 (by omega) (by omega)] at k2; exact absurd k2 (by decide)⟩
      have : k = 0 := by omega
      rw [this, boardM_gv]
    refine cmp_ok (by rw [x_e0, boardM_0]; rfl) (hP _ (REL.mk ((h5.ref hD.2.2.1.1 hD.2.2.2.2 xr).succ (by omega)) lk1)) (fun _ => ⟨(ans_ref h5 _).2, ?_⟩)
    rw [(ans_ref h5 _).1, e5]
end
