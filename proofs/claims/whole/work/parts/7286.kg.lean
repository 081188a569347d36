section
variable {D : wD} {S U U1 : wS} {o : Nat → Nat} {c c' : cM} {x : Nat} {A : Nat → Nat} {m m' m1 : xM} {F R F' R' kd : Int} {v v' u : Int → Int} {n n' : Int} {w w' : Int → Int → Int} {mv mv' : Int → Mv} {L W : List Int} {yb : Nat → Nat} {yl yl' : Int → Nat} {d d' : Int → SDt} {ye ye' lw K : List Nat} {q q' : Int} {b Ln : Nat} {xs : Nat → Int32} {a3 a4 y' : Nat} {Q : wS → Prop} {ε ε' : Bool}
theorem won_cong {E E' : Int → Int} (h : ∀ i, 31250 * (kd - 2) ≤ i → i < 31250 * (kd - 2) + 31250 → E i = E' i) : wonN kd E = wonN kd E' := by
  unfold wonN
  exact sumL_congr _ _ fun j j0 j1 => by
    have j1 : j < 31250 := by omega
    rw [h (31250 * (kd - 2) + j) (by omega) (by omega)]
/-- behind a change of the endings' rows -/
theorem HFo.ends (hD : wDok D b Ln xs) (hf : HFo D S o x A lw c m F R v n w mv L W yb yl d ye q F' R') (he : EX D S U1 K) (hK : ∀ a ∈ K, a ∈ cLs.map o ∨ a ∈ ye) (cc : CC D U1 o) (eU : U1 = cS U1 o c') (sm : cSim [45, 46, 47, 48] c c') (hq : q ≤ q') (er : ERo D U1 o c' F R ye' q') (hp' : HPo D U1 (ownL D o x A yb yl d ye' lw)) :
    HFo D U1 o x A lw c' m F R v n w mv L W yb yl d ye' q' F' R' := by
  have hfq := hf.succ hq
  obtain ⟨bf, ⟨cs1, cs2⟩, hp, cl, xr⟩ := hfq
  have cc0 := bf.1.1
  have ap := hp.apart
  have nd := clsL_nd hp
  have om : ∀ k, k < 52 → o k ∈ (List.range 52).map o := fun k hk => List.mem_map.mpr ⟨k, List.mem_range.mpr hk, rfl⟩
  have Kc : ∀ a ∈ K, a ∈ clsL D o yb yl d ye := fun a ha => by
    unfold clsL
    simp only [List.mem_append]
    rcases hK a ha with z | z
    · exact .inl (cLs_sub _ z)
    · exact .inr (.inr (.inr (.inr (.inr z))))
  have Kd : ∀ a ∈ K, a ∉ D.2.1 := fun a ha => (hp.2 a (own_mem.mpr (.inl (Kc a ha)))).2
  unfold clsL at nd
  have n1 := nd_app nd
  have d1 := (List.nodup_append.mp nd).2.1
  have n2 := nd_app d1
  have d2 := (List.nodup_append.mp d1).2.1
  have n3 := nd_app d2
  have d3 := (List.nodup_append.mp d2).2.1
  have n4 := nd_app d3
  have d4 := (List.nodup_append.mp d3).2.1
  have n5 := nd_app d4
  have oK : ∀ k, k < 52 → cOk k = false → o k ∉ K := fun k hk hc z => by
    rcases hK _ z with y | y
    · exact noK cc0 hk hc y
    · exact n1 _ (om k hk) (by simp only [List.mem_append]; exact .inr (.inr (.inr (.inr y))))
  have rest : ∀ a, a ∈ [yb 29, yb 49, yb 50] ∨ a ∈ ylC D yl ∨ a ∈ gmC (d 0) ∨ a ∈ gmC (d 1) → a ∉ K := fun a ha z => by
    rcases hK _ z with y | y
    · refine n1 a (cLs_sub _ y) ?_
      simp only [List.mem_append]
      rcases ha with k | k | k | k
      · exact .inl k
      · exact .inr (.inl k)
      · exact .inr (.inr (.inl k))
      · exact .inr (.inr (.inr (.inl k)))
    · rcases ha with k | k | k | k
      · exact n2 a k (by simp only [List.mem_append]; exact .inr (.inr (.inr y)))
      · exact n3 a k (by simp only [List.mem_append]; exact .inr (.inr y))
      · exact n4 a k (by simp only [List.mem_append]; exact .inr y)
      · exact n5 a k y
  have bx := he
  rw [bf.2.1.2] at bx
  obtain ⟨⟨⟨w1, w2, w3, w4, w5, w6, w7⟩, pg, wn, gm⟩, tx, sh, ⟨p1, p2, p3, p4⟩, -⟩ := cl
  have nw : NOW c' F R v := NOW.csim2 ⟨w1, w2, w3, w4, w5, w6, w7⟩ sm (by decide)
  refine ⟨⟨⟨cc, eU⟩, ex_x bf.2.1.1 bx (fun a ha z => (ap.1 a (Kc a z)).1 ha), bf.2.2⟩, ⟨cs1.of he Kd hD.2.2.2.2, cs2.ex he⟩, hp', ⟨⟨nw, PG.sim sm (by decide) (by decide) (by decide) pg, wn, gm⟩, tx.ex he ⟨oK 29 (by decide) (by decide), oK 49 (by decide) (by decide), oK 50 (by decide) (by decide)⟩ ⟨rest _ (.inl (by simp)), rest _ (.inl (by simp)), rest _ (.inl (by simp))⟩, fun i hi => ⟨?_, (sh i hi).2⟩, ⟨by rw [(sm 51 (by decide)).1]; exact p1, by rw [(sm 0 (by decide)).1]; exact p2, by rw [(sm 0 (by decide)).1]; exact p3, by rw [(sm 0 (by decide)).1]; exact p4⟩, er⟩, xr⟩
  refine SHC.ex he ?_ ?_ (fun g g0 g1 => ?_) (sh i hi).1
  · rcases hi with rfl | rfl
    · exact oK 31 (by decide) (by decide)
    · exact oK 33 (by decide) (by decide)
  · by_cases c6 : yl i = D.2.2.1 106
    · rw [c6]; exact fun z => Kd _ z hD.2.2.1.1
    · refine rest _ (.inr (.inl ?_))
      unfold ylC
      rw [List.mem_append]
      rcases hi with rfl | rfl
      · left; rw [if_neg c6]; exact List.mem_singleton.mpr rfl
      · right; rw [if_neg c6]; exact List.mem_singleton.mpr rfl
  · obtain ⟨k1, k2, k3, k4⟩ := gmC_mem (e := d i) ⟨g0, g1⟩
    have upw : ∀ a, a ∈ gmC (d i) → a ∉ K := fun a ha => rest a (by
      rcases hi with rfl | rfl
      · exact .inr (.inr (.inl ha))
      · exact .inr (.inr (.inr ha)))
    exact ⟨upw _ k1, upw _ k2, upw _ k3, upw _ k4⟩
/-- the reference's table of one ending laid anew -/
theorem sol_rel (hk : 2 ≤ kd ∧ kd ≤ 5) (bb : BFR F R) (h25 : F * R ≤ 25) (xr : XRo m F R) (lk : LKo m c F R n w mv L W d ye ε) (eo : EO (tabE F (F * R) kd (m 41))) (sm : SIM (up (put41 m (tabE F (F * R) kd (m 41))) 42 kd 1) m') (h0 : c'.1 0 = c.1 0) (h51 : c'.1 51 = c.1 51) (h46 : ∀ k : Int, 2 ≤ k → k ≤ 5 → c'.1 46 k = if k = kd then 1 else c.1 46 k) (hy : ε' = true → ye' ≠ []) :
    XRo m' F R ∧ LKo m' c' F R n w mv L W d ye' ε' := by
  have hn := FR_r bb.1.1 bb.1.2 bb.2.1 bb.2.2
  have row : ∀ r : Nat, r ≠ 41 → r ≠ 42 → (up (put41 m (tabE F (F * R) kd (m 41))) 42 kd 1) r = m r := fun r h1 h2 => by
    rw [up_r _ _ _ (by simpa using h2)]
    funext j
    unfold put41
    rw [if_neg h1]
  have r41 : (up (put41 m (tabE F (F * R) kd (m 41))) 42 kd 1) 41 = tabE F (F * R) kd (m 41) := by
    rw [up_r _ _ _ rfl]
    funext j
    unfold put41
    rw [if_pos rfl]
  have r42 : ∀ k, (up (put41 m (tabE F (F * R) kd (m 41))) 42 kd 1) 42 k = if k = kd then 1 else m 42 k := fun k => by
    by_cases z : k = kd
    · rw [z, up_at, if_pos rfl]
    · rw [up_ne _ (Or.inr z), if_neg z]
      unfold put41
      rw [if_neg (by decide)]
  have gvk : ∀ k, gv (up (put41 m (tabE F (F * R) kd (m 41))) 42 kd 1) k = gv m k := fun k => by unfold gv; rw [vec_row (row 8 (by decide) (by decide))]
  have sh : ∀ r : Nat, 30 ≤ r → r ≤ 38 → (up (put41 m (tabE F (F * R) kd (m 41))) 42 kd 1) r = m r := fun r h1 h2 => row r (by omega) (by omega)
  obtain ⟨⟨a1, a2, a3⟩, ⟨b1, b2, b3⟩, ⟨c1, c2, c3, c4⟩, t1, t2, t3, t4, t5, t6, t7⟩ := xr
  have xr1 : XRo (up (put41 m (tabE F (F * R) kd (m 41))) 42 kd 1) F R := by
    have r50 := row 50 (by decide) (by decide)
    have r30 := row 30 (by decide) (by decide)
    have r31 := row 31 (by decide) (by decide)
    have r32 := row 32 (by decide) (by decide)
    have r33 := row 33 (by decide) (by decide)
    have r34 := row 34 (by decide) (by decide)
    have r35 := row 35 (by decide) (by decide)
    have r36 := row 36 (by decide) (by decide)
    have r37 := row 37 (by decide) (by decide)
    have r38 := row 38 (by decide) (by decide)
    have r9 := row 9 (by decide) (by decide)
    have r10 := row 10 (by decide) (by decide)
    have r12 := row 12 (by decide) (by decide)
    have r14 := row 14 (by decide) (by decide)
    refine ⟨⟨by unfold XB; rw [r50]; exact a1, by rw [r50]; exact a2, fun k k0 k1 => by rw [r50] at k1; rw [gvk]; exact a3 k k0 k1⟩, ⟨fun i i0 i1 => by rw [r30]; exact b1 i i0 i1, fun k k0 k1 => by rw [r33, r34, r35]; exact b2 k k0 k1, fun i g k i0 i1 g0 g1 k0 k1 => ?_⟩, ⟨fun i i0 i1 => by rw [r30]; exact c1 i i0 i1, fun k k0 k1 => by rw [r33]; exact c2 k k0 k1, fun j j0 j1 => by rw [r32]; exact c3 j j0 j1, fun i g i0 i1 g0 g1 j j0 j1 => ?_⟩, fun k k0 k1 => by rw [r12]; exact t1 k k0 k1, fun k k0 k1 => by rw [r36, r37, r38]; exact t2 k k0 k1, by rw [r41]; exact eo, fun k k0 k1 => ?_, fun k k0 k1 => by rw [r10, r9]; exact t5 k k0 k1, fun k k0 k1 => by rw [r14]; exact t6 k k0 k1, by rw [r42, r42, if_neg (by omega), if_neg (by omega)]; exact t7⟩
    · rw [r30] at g1
      rw [r33] at k1
      rw [sv_vec, vec_row r31]; exact b3 i g k i0 i1 g0 g1 k0 k1
    · rw [r30] at g1
      rw [vec_row r31]; exact c4 i g i0 i1 g0 g1 j j0 j1
    · rw [r42]
      split
      · exact .inr rfl
      · exact t4 k k0 k1
  have lk1 : LKo (up (put41 m (tabE F (F * R) kd (m 41))) 42 kd 1) c' F R n w mv L W d ye' ε' := by
    obtain ⟨⟨e1, e2, e9⟩, ⟨f1, f2, f3, f4⟩, ⟨g1, g2⟩, ⟨i1, i2⟩, ⟨j1, j2, j3⟩, ⟨s1, s2⟩, k1, k2⟩ := lk
    have r50 := row 50 (by decide) (by decide)
    refine ⟨⟨by rw [r50]; exact e1, by rw [r50]; exact e2, hy⟩, ⟨by rw [r50]; exact f1, fun k k0 k1 => by rw [gvk]; exact f2 k k0 k1, fun k k0 k1 => by rw [row 9 (by decide) (by decide)]; exact f3 k k0 k1, fun k k0 k1 => by rw [row 10 (by decide) (by decide)]; exact f4 k k0 k1⟩, ⟨by rw [r50]; exact g1, fun k k0 k1 => by rw [row 12 (by decide) (by decide)]; exact g2 k k0 k1⟩, ⟨by rw [r50]; exact i1, fun k k0 k1 => by rw [row 14 (by decide) (by decide)]; exact i2 k k0 k1⟩, ⟨by rw [r50, h0]; exact j1, by rw [r50, h0]; exact j2, fun k k0 k1 => by rw [row 40 (by decide) (by decide), h51]; exact j3 k k0 k1⟩, ⟨s1.row sh, s2.row sh⟩, fun k k0 k3 => ?_, fun k k0 k3 k4 i i0 i1 => ?_⟩
    · rw [r42, h46 k k0 k3]
      split
      · rfl
      · exact k1 k k0 k3
    · rw [r42] at k4
      rw [r41]
      by_cases z : k = kd
      · subst z
        exact tab_same ⟨by omega, h25⟩ _ _ ⟨i0, i1⟩
      · rw [if_neg z] at k4
        rw [tab_out ⟨by omega, h25⟩ _ (fun its w b p hi hq e => by
          have := vl_blk (kd := kd) (N := F * R) h25 hi hq
          omega), if_neg (by omega)]
        exact k2 k k0 k3 k4 i i0 i1
  exact ⟨xr1.sim sm, lk1.sim sm⟩
/-- an ending solved in the rows that lie there -/
theorem HFo.solved (hD : wDok D b Ln xs) (hf : HFo D S o x A lw c m F R v n w mv L W yb yl d ye q F' R') (hq : 0 ≤ q ∧ q ≤ 600) (hk : 2 ≤ kd ∧ kd ≤ 5) (bb : BFR F R) (h25 : F * R ≤ 25) {y : Nat → Nat} (hy : ye = [y 0, y 1, y 2]) (hE : EC D S o y) (hEB : EB (e0S S y, 0) 40000 (800000 * q)) (hv : ∀ k : Int, 2 ≤ k → k ≤ 5 → c.1 46 k = 1 → (∀ i, VIx (F * R) i → valE k (e0S S y) i = T0 F (F * R) k (31250 * (k - 2) + swI i)) ∧ c.1 47 k = wonN k (T0 F (F * R) k) ∧ c.1 48 k = lngL k (T0 F (F * R) k) (-1) 0 31250) :
    HFo D (cS (eS S y (solveE F R kd (e0S S y)).1) o (wrkM c kd (solveE F R kd (e0S S y)))) o x A lw (wrkM c kd (solveE F R kd (e0S S y))) m F R v n w mv L W yb yl d ye (q + 1) F' R' := by
  have hn := FR_r bb.1.1 bb.1.2 bb.2.1 bb.2.2
  have cc := hf.1.1.1
  have e1 := hf.1.1.2
  have hS := hf.2.2.2.1.2.2.2.2.1
  have hp := hf.2.2.1
  have eb := solve_EB (F := F) (R := R) (kd := kd) hn.1 h25 hk (show 0 ≤ 800000 * q by omega) hEB
  have se := sol_eq bb h25 hk (e0S S y) (fun _ => 0)
  have sv : ∀ k i : Int, k ≠ kd → (0 ≤ i ∧ i < 31250) → valE k (solveE F R kd (e0S S y)).1 i = valE k (e0S S y) i := fun k i h1 h2 => solve_val bb h25 hk (e0S S y) h1 h2
  generalize ht : solveE F R kd (e0S S y) = t at eb se sv ⊢
  have sm := wrkM_sim (kd := kd) c t
  have cc1 : CC D (cS (eS S y t.1) o (wrkM c kd t)) o := ⟨cc.1, cc.2.1, cc.2.2⟩
  have eU : cS (eS S y t.1) o (wrkM c kd t) = cS (cS (eS S y t.1) o (wrkM c kd t)) o (wrkM c kd t) := (ex_c (ccE cc y t.1) (EX.rf (K := [])) (fun n _ => List.not_mem_nil)).2
  have he : EX D S (cS (eS S y t.1) o (wrkM c kd t)) (cLs.map o ++ [y 0, y 1, y 2]) := by
    have h1 : EX D S (eS S y t.1) [y 0, y 1, y 2] := ⟨⟨fun _ z => z, fun _ _ => ⟨rfl, rfl⟩⟩, fun a ha nk => by
      simp only [List.mem_cons, List.not_mem_nil, or_false, not_or] at nk
      refine ⟨funext fun j => ?_, rfl, rfl⟩
      show (if a = y 0 then _ else if a = y 1 then _ else if a = y 2 then _ else S.2.2.2.1 a j) = S.2.2.2.1 a j
      rw [if_neg nk.1, if_neg nk.2.1, if_neg nk.2.2]⟩
    have h0 : eS S y t.1 = cS (eS S y t.1) o c := by
      have x2 := h1
      rw [e1] at x2
      have := (ex_c cc x2 (fun n hn z => by
        simp only [List.mem_cons, List.not_mem_nil, or_false] at z
        rcases z with z | z | z
        · exact (hE.1 0 (by decide)).2.2 n hn z
        · exact (hE.1 1 (by decide)).2.2 n hn z
        · exact (hE.1 2 (by decide)).2.2 n hn z)).2
      rw [← e1] at this
      exact this
    have h2 : EX D (eS S y t.1) (cS (eS S y t.1) o (wrkM c kd t)) (cLs.map o) := bookX h0 _
    exact h1.trans h2 (fun _ _ z => List.mem_append_right _ z) (fun _ _ z => List.mem_append_left _ z)
  have e0 : ∀ k, k < 3 → ∀ j : Int, 0 ≤ j → (-2147483648 ≤ t.1 k j ∧ t.1 k j < 2147483648) → e0S (cS (eS S y t.1) o (wrkM c kd t)) y k j = t.1 k j := fun k hk j j0 hr => by
    show (sI (cS (eS S y t.1) o (wrkM c kd t)) (y k) j.toNat).toInt = t.1 k j
    rw [e_i0 hE hk, show ((j.toNat : Nat) : Int) = j by omega, iI_toInt hr.1 hr.2]
  refine hf.ends hD he (fun a ha => ?_) cc1 eU sm (by omega) ⟨hS.wrk t, .inr ⟨y, hy, ⟨fun k hk => ⟨⟨(hE.1 k hk).1.1, (hE.1 k hk).1.2⟩, (hE.1 k hk).2.1, (hE.1 k hk).2.2⟩, hE.2⟩, ⟨by show (0 : Int) ≤ 0 ∧ (0 : Int) ≤ 31250; decide, fun i i0 i1 => ?_, fun i i0 i1 => ?_⟩, fun k k0 k1 k2 => ?_⟩⟩ (hp.ex he)
  · rcases List.mem_append.mp ha with z | z
    · exact .inl z
    · exact .inr (by rw [hy]; exact z)
  · have := eb.2.1 i i0 i1
    show -2 ≤ e0S (cS (eS S y t.1) o (wrkM c kd t)) y 0 i ∧ e0S (cS (eS S y t.1) o (wrkM c kd t)) y 0 i ≤ 40000
    rw [e0 0 (by decide) i i0 (by omega)]; exact this
  · have := eb.2.2 i i0 i1
    show -(800000 * (q + 1)) ≤ e0S (cS (eS S y t.1) o (wrkM c kd t)) y 2 i ∧ e0S (cS (eS S y t.1) o (wrkM c kd t)) y 2 i ≤ 100
    rw [e0 2 (by decide) i i0 (by omega)]; omega
  · have v0 : ∀ i, VIx (F * R) i → valE k (e0S (cS (eS S y t.1) o (wrkM c kd t)) y) i = valE k t.1 i := fun i hi => by
      unfold valE
      have r := eb.2.1 ((k - 2) * 31250 + i) (by have := hi.1; omega) (by have := hi.1; omega)
      exact e0 0 (by decide) _ (by have := hi.1; omega) (by omega)
    refine ⟨h25, ?_⟩
    by_cases z : k = kd
    · subst z
      exact ⟨fun i hi => (v0 i hi).trans (se.1.1 i hi), by rw [wrkM_47]; exact se.2.1, by rw [wrkM_48]; exact se.2.2⟩
    · rw [wrkM_46n _ _ z] at k2
      obtain ⟨g1, g2, g3⟩ := hv k k0 k1 k2
      exact ⟨fun i hi => (v0 i hi).trans ((sv k i z hi.1).trans (g1 i hi)), by rw [wrkM_47n _ _ z]; exact g2, by rw [wrkM_48n _ _ z]; exact g3⟩
end
