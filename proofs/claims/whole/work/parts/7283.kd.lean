section
variable {D : wD} {S U U' : wS} {o : Nat → Nat} {c c' : cM} {x : Nat} {A : Nat → Nat} {m m' m1 : xM} {F R F' R' : Int} {v v' u : Int → Int} {n n' : Int} {w w' : Int → Int → Int} {mv mv' : Int → Mv} {L W : List Int} {yb : Nat → Nat} {yl yl' : Int → Nat} {d d' : Int → SDt} {ye lw K : List Nat} {q q' : Int} {b Ln : Nat} {xs : Nat → Int32} {a3 a4 y' : Nat} {P Q : wS → Prop} {ε : Bool} {s t : Int}
theorem addM_r {r y z : Int} {f : Nat} (h : ¬ (30 ≤ f ∧ f ≤ 38)) : addM m s r y z f = m f := funext fun j => by
  unfold addM
  rw [up_ne _ (Or.inl (by omega)), up_ne _ (Or.inl (by omega)), up_ne _ (Or.inl (by omega)), up_ne _ (Or.inl (by omega)), up_ne _ (Or.inl (by omega)), up_ne _ (Or.inl (by omega)), cpy_ne _ (by simp; omega), cpy_ne _ (by simp; omega), up_ne _ (Or.inl (by omega))]
/-- the class's row of a shelf that an addition writes to -/
abbrev kYo (S : wS) (o : Nat → Nat) (yl : Int → Nat) (d : Int → SDt) (s : Int) : List Nat := if (d s).1.length < sN S (yl s) then [o (slO s), yl s] else [o (slO s)]
theorem kYo_mem {a : Nat} (h : a ∈ kYo S o yl d s) : a = o (slO s) ∨ (a = yl s ∧ (d s).1.length < sN S (yl s)) := by
  unfold kYo at h
  split at h
  · rename_i z
    rcases List.mem_cons.mp h with y | y
    · exact .inl y
    · exact .inr ⟨List.mem_singleton.mp y, z⟩
  · exact .inl (List.mem_singleton.mp h)
theorem yl_106 (hD : wDok D b Ln xs) (h : CST D U) {y : Nat} (hy : 0 < sN U y) : y ≠ D.2.2.1 106 := fun e => by
  rw [e, h.n (Or.inr hD.2.2.1.1), hD.2.2.1.2.2] at hy
  omega
/-- the reference's new game -/
theorem add_ref (xr : XRo m F R) (sm : SIM m m1) (hs : s = 0 ∨ s = 1) (h40 : m 30 s < 40) {x1 x2 x3 : Int} (hx : (0 ≤ x1 ∧ x1 ≤ 2) ∧ (1800 ≤ x2 ∧ x2 ≤ 2100) ∧ 0 ≤ x3 ∧ x3 ≤ 3500) : XRo (addM m1 s x1 x2 x3) F R := by
  have xr1 := xr.sim sm
  have e30 : m1 30 s = m 30 s := by rw [sm.row (r := 30) rfl]
  have g30 := xr1.2.1.1 s (by omega) (by omega)
  have h11 := xr1.1.2.1
  have sl : 0 ≤ slotB s (m1 30 s) ∧ slotB s (m1 30 s) < 80 := by unfold slotB; omega
  have in4 : ∀ f : Nat, infN x1 x2 x3 4 = x1 ∧ infN x1 x2 x3 5 = x2 ∧ infN x1 x2 x3 6 = x3 ∧ infN x1 x2 x3 7 = 0 ∧ infN x1 x2 x3 8 = 0 := fun _ => ⟨rfl, rfl, rfl, rfl, rfl⟩
  refine xr1.shelf (fun r hr => addM_r (by omega)) (fun j hj => by rw [addM_r (by omega)]) (fun i i0 i1 => ?_) (fun k k0 k1 => ?_) (fun j j0 j1 => ?_) (fun i g k i0 i1 g0 g1 k0 k1 => ?_)
  · rw [addM_30]
    split
    · omega
    · exact xr1.2.1.1 i i0 i1
  · have h2 := xr1.2.1.2.1 k k0 k1
    have h3 := xr1.2.2.2.2.1 k k0 k1
    rw [addM_i _ _ _ _ _ _ (by omega), addM_i _ _ _ _ _ _ (by omega), addM_i _ _ _ _ _ _ (by omega), addM_i _ _ _ _ _ _ (by omega), addM_i _ _ _ _ _ _ (by omega), addM_i _ _ _ _ _ _ (by omega)]
    by_cases y : k = slotB s (m1 30 s)
    · rw [if_pos y, if_pos y, if_pos y, if_pos y, if_pos y, if_pos y, if_pos rfl, if_neg (by decide), if_neg (by decide), if_neg (by decide), if_neg (by decide), if_neg (by decide)]
      show (0 ≤ m1 50 11 ∧ m1 50 11 ≤ 80) ∧ (i32 x1 ∧ i32 x2) ∧ (0 ≤ x3 ∧ x3 ≤ 3500) ∧ (0 ≤ (0 : Int) ∧ (0 : Int) ≤ 4) ∧ i32 (0 : Int)
      unfold i32
      omega
    · rw [if_neg y, if_neg y, if_neg y, if_neg y, if_neg y, if_neg y]
      exact ⟨h2.1, h2.2, h3⟩
  · rw [addM_32]
    split
    · exact (xr1.2.2.2.2.2.2.2.1 _ (by omega) (by omega)).2
    · exact xr1.2.2.1.2.2.1 j j0 j1
  · rw [addM_30] at g1
    rw [addM_i _ _ _ _ _ _ (by omega)] at k1
    by_cases y : slotB i g = slotB s (m1 30 s)
    · have y' : i = s ∧ g = m1 30 s := by
        unfold slotB at y
        by_cases e : i = s
        · rw [e] at y; exact ⟨e, by omega⟩
        · rw [if_neg e] at g1
          have := xr1.2.1.1 i i0 i1
          omega
      rw [if_pos y, if_pos rfl] at k1
      have : sv (addM m1 s x1 x2 x3) i g k = gv m1 k := by
        rw [sv_vec, y]
        funext j
        unfold gv vec
        by_cases e : 0 ≤ j ∧ j < 67
        · rw [if_pos e, if_pos e, addM_31, if_pos (by omega)]
          congr 1; omega
        · rw [if_neg e, if_neg e]
      rw [this]
      exact xr1.1.2.2 k k0 k1
    · rw [if_neg y] at k1
      have g1' : g < m1 30 i := by
        split at g1
        · rename_i e
          rw [e] at y
          have : g ≠ m1 30 s := fun z => y (by rw [z])
          rw [e]; omega
        · exact g1
      have b33 := xr1.2.1.2.1 (slotB i g) (by unfold slotB; omega) (by have := xr1.2.1.1 i i0 i1; unfold slotB; omega)
      rw [sv_vec, (addM_same (m := m1) y h11).2.1 k k0 (by omega)]
      exact xr1.2.1.2.2 i g k i0 i1 g0 g1' k0 k1
/-- CALL: addGame -/
theorem call_addGame (hD : wDok D b Ln xs) (hR : RELo D S o x A [a3, a4] q ε) (hq : 0 ≤ q) {x1 x2 x3 : Int} (hs : i32 s) (h1 : i32 x1) (h2 : i32 x2) (h3 : i32 x3) {r r1 r2 r3 : wS → Int32} {hv : wS → Prop} (hvv : ∀ S', CST D S' → hv S' ∧ r S' = iI s ∧ r1 S' = iI x1 ∧ r2 S' = iI x2 ∧ r3 S' = iI x3) {bc bs : Nat} (hb : 1010 ≤ bc ∧ 12000 ≤ bs) (hP : ∀ S', RELo D S' o x A [a3, a4] (q + 1) ε → P S') :
    wp_L_addGame D (fun r1' S2 => hv S2 ∧ wp_X12_addGame D (fun r3' S4 => CMPo D x a3 P Q r1' r3' S4) S2 x (r S2) (r1 S2) (r2 S2) (r3 S2)) bc bs S (o 0) (iI s) (iI x1) (iI x2) (iI x3) a3 := by
  refine REL.elim hR fun c m F R v n w mv L W yb yl d ye hf lk ev => ?_
  unfold wp_L_addGame wp_L_addGame_0
  refine ⟨1010, 12000, hb.1, hb.2, ?_⟩
  have e1 := hf.1.1.2
  have hSH := shl_of hf
  have pe := prop_eq hf lk
  have bb := bfr_of hf
  obtain ⟨⟨w1, w2, w3, w4, w5, w6, w7⟩, pg, wn, gm⟩ := hf.2.2.2.1.1
  have cl := hf.2.2.2.1
  have xr := hf.2.2.2.2
  have cs1 := hf.2.1.1
  have ref : ∀ (S2 : wS) (Z : Int32 → wS → Prop) (hh : HFo D S2 o x A [a3, a4] c m F R v n w mv L W yb yl d ye q F R), (inB s 0 1 = false → Z (iI 0) (xS S2 x A (up m 50 0 1))) → (inB s 0 1 = true → (inB x1 0 2 && inB x2 1800 2100 && inB x3 0 3500) = false → Z (iI 0) (xS S2 x A (up m 50 0 2))) → (inB s 0 1 = true → (inB x1 0 2 && inB x2 1800 2100 && inB x3 0 3500) = true → (properB F R v && decide (m 30 s < 40)) = false → Z (iI 0) (xS S2 x A (up (ldm (up m 50 0 0)) 50 0 3))) → (inB s 0 1 = true → (inB x1 0 2 && inB x2 1800 2100 && inB x3 0 3500) = true → (properB F R v && decide (m 30 s < 40)) = true → Z (iI (m 30 s)) (xS S2 x A (addM (up (ldm (up m 50 0 0)) 50 0 0) s x1 x2 x3))) → hv S2 ∧ wp_X12_addGame D Z S2 x (r S2) (r1 S2) (r2 S2) (r3 S2) := fun S2 Z hh k0 k1 k2 k3 => by
    obtain ⟨v0, v1, v2, v3, v4⟩ := hvv _ hh.2.1.1
    refine ⟨v0, ?_⟩
    rw [v1, v2, v3, v4, hh.1.2.1.2]
    rw [← pe] at k2 k3
    exact q_addGame hh.1.2.1.1 xr.1 xr.2.1.1 hs h1 h2 h3 k0 k1 k2 k3
  have hsl := clsL_nd hf.2.2.1
  rw [e1]
  have fin : ∀ (S2 : wS) (hh : HFo D S2 o x A [a3, a4] c m F R v n w mv L W yb yl d ye q F R), inB s 0 1 = true → (inB x1 0 2 && inB x2 1800 2100 && inB x3 0 3500) = true → (properB F R v && decide (m 30 s < 40)) = false → hv S2 ∧ wp_X12_addGame D (fun r3' S4 => CMPo D x a3 P Q (3 : Int32) r3' S4) S2 x (r S2) (r1 S2) (r2 S2) (r3 S2) := fun S2 hh z z2 z3 =>
    ref S2 _ hh (fun y => by rw [z] at y; exact nomatch y) (fun _ y => by rw [z2] at y; exact nomatch y) (fun _ _ _ => err_ok hD hh lk (.inr (.inr rfl)) (((SIM.rf m).up0 0).ldm.up0 3) rfl hP) (fun _ _ y => by rw [z3] at y; exact nomatch y)
  refine q_addGameC2 hf.1.1.1 w1 w2 w4 w6 w7 pg hSH hs h1 h2 h3 (by decide) (K0 := kYo S o yl d s) (fun a ha => by rcases kYo_mem ha with y | y; exact .inl y; exact .inr y.1) (by unfold kYo; split <;> simp) (fun z => by unfold kYo; rw [if_pos z]; simp) (fun z => .inl ⟨rfl, ?_⟩) (fun z z2 => .inr (.inl ⟨rfl, ?_⟩)) (fun z z2 z3 => .inr (.inr ⟨rfl, ?_⟩)) (fun z z2 z3 U' he hl => .inr (.inr ⟨rfl, ?_⟩)) (fun z z2 z3 hl U' y1 g z0 zz1 zz2 he hy hfr hS => ?_)
  · rw [← e1]
    exact ref S _ hf (fun _ => err_ok hD hf lk (.inl rfl) ((SIM.rf m).up0 1) rfl hP) (fun y => by rw [z] at y; exact nomatch y) (fun y => by rw [z] at y; exact nomatch y) (fun y => by rw [z] at y; exact nomatch y)
  · rw [← e1]
    exact ref S _ hf (fun y => by rw [z] at y; exact nomatch y) (fun _ _ => err_ok hD hf lk (.inr (.inl rfl)) ((SIM.rf m).up0 2) rfl hP) (fun _ y => by rw [z2] at y; exact nomatch y) (fun _ y => by rw [z2] at y; exact nomatch y)
  · rw [← e1]
    exact fin S hf z z2 (by rw [z3]; rfl)
  · rw [← e1] at he
    have e30 : m 30 s = (d s).1.length := (shm_of lk (in01.mp z)).1
    have hl : (d s).1.length = 40 := hl
    exact fin U' (hf.law hD.2.2.1.1 hD.2.2.2.2 he (fun a ha => absurd ha List.not_mem_nil)) z z2 (by rw [decide_eq_false (by omega)]; simp)
  · rw [← e1] at he hfr
    have hs01 := in01.mp z
    have hl : (d s).1.length < 40 := hl
    have e30 : m 30 s = (d s).1.length := (shm_of lk hs01).1
    rw [Bool.and_eq_true, Bool.and_eq_true] at z2
    have i1 := inB_iff.mp z2.1.1
    have i2 := inB_iff.mp z2.1.2
    have i3 := inB_iff.mp z2.2
    have hv0 : PV F R v := ⟨w2, w3, w4, w5, z3⟩
    generalize he0 : (((d s).1 ++ [g], upN (d s).2.1 (d s).1.length n, upN (d s).2.2.1 (d s).1.length w, upN (d s).2.2.2.1 (d s).1.length mv, upN (d s).2.2.2.2.1 (d s).1.length (fun i => !knownC (d s).2.1 (d s).2.2.1 (d s).1.length w i), upN (d s).2.2.2.2.2.1 (d s).1.length (infN x1 x2 x3), upN (d s).2.2.2.2.2.2 (d s).1.length (z0, zz1, zz2)) : SDt) = e0
    have hS0 : SHD D U' (o (slO s)) y1 e0 := by rw [← he0]; exact hS
    have hgm : gmC e0 = gmC (d s) ++ [g, z0, zz1, zz2] := by rw [← he0]; exact gmC_snoc (d s) g z0 zz1 zz2
    have le0 : e0.1.length = (d s).1.length + 1 := by rw [← he0]; simp
    -- the new cells
    have gl := hS.2.2 ((d s).1.length : Int) (by omega) (by rw [List.length_append, List.length_singleton]; omega)
    rw [upN_at] at gl
    have eg : ((d s).1 ++ [g]).getD (((d s).1.length : Int)).toNat 0 = g := by simp [List.getD_eq_getElem?_getD]
    rw [eg] at gl
    have kg : g ∈ sL U' ∧ sK U' g = 8 := hS.1.2.2.2.2 g (by simp)
    have k0 : wM D U' z0 ∧ sK U' z0 = 22 := ⟨gl.1.1.2.1, gl.1.1.2.2.1⟩
    have k1 : wM D U' zz1 ∧ sK U' zz1 = 21 := ⟨gl.1.2.1.2.1, gl.1.2.1.2.2.1⟩
    have k2 : wM D U' zz2 ∧ sK U' zz2 = 23 := ⟨gl.2.1.1.2.1, gl.2.1.1.2.2.1⟩
    have kY : sK U' y1 = 24 := hS.1.2.1.2.2.1
    have upw : ∀ a, wM D U' a → ¬ wM D S a → a ∈ sL U' := fun a ha hn => by
      rcases ha with y | y
      · exact y
      · exact absurd (Or.inr y) hn
    have ne : ∀ {a b : Nat} {i j : Nat}, sK U' a = i → sK U' b = j → i ≠ j → a ≠ b := fun ha hb hij e => hij (by rw [← ha, ← hb, e])
    have hN : [g, z0, zz1, zz2].Nodup := by
      simp only [List.nodup_cons, List.mem_cons, List.not_mem_nil, or_false, not_or, not_false_eq_true, and_true, List.nodup_nil]
      exact ⟨⟨ne kg.2 k0.2 (by decide), ne kg.2 k1.2 (by decide), ne kg.2 k2.2 (by decide)⟩, ⟨ne k0.2 k1.2 (by decide), ne k0.2 k2.2 (by decide)⟩, ne k1.2 k2.2 (by decide)⟩
    have hNf : ∀ a ∈ [g, z0, zz1, zz2], ¬ wM D S a ∧ a ∈ sL U' := fun a ha => by
      simp only [List.mem_cons, List.not_mem_nil, or_false] at ha
      rcases ha with rfl | rfl | rfl | rfl
      · exact ⟨hfr.1, kg.1⟩
      · exact ⟨hfr.2.1, upw _ k0.1 hfr.2.1⟩
      · exact ⟨hfr.2.2.1, upw _ k1.1 hfr.2.2.1⟩
      · exact ⟨hfr.2.2.2, upw _ k2.1 hfr.2.2.2⟩
    have yN : y1 ∉ [g, z0, zz1, zz2] := fun ha => by
      simp only [List.mem_cons, List.not_mem_nil, or_false] at ha
      rcases ha with y | y | y | y
      · exact ne kY kg.2 (by decide) y
      · exact ne kY k0.2 (by decide) y
      · exact ne kY k1.2 (by decide) y
      · exact ne kY k2.2 (by decide) y
    have hy' : y1 = yl s ∨ (¬ wM D S y1 ∧ y1 ∉ [g, z0, zz1, zz2] ∧ y1 ∈ sL U') := by
      rcases hy with y | y
      · exact .inl y
      · exact .inr ⟨y, yN, upw _ hS.1.2.1.2.1 y⟩
    have ds : upD d s e0 s = e0 := upD_at _ _ _
    have dn : ∀ k : Int, k ≠ s → upD d s e0 k = d k := fun k hk => upD_ne _ _ hk
    have hc : ∀ a, (gmC (upD d s e0 0)).count a + (gmC (upD d s e0 1)).count a ≤ (gmC (d 0)).count a + (gmC (d 1)).count a + [g, z0, zz1, zz2].count a := fun a => by
      rcases hs01 with rfl | rfl
      · rw [ds, dn 1 (by decide), hgm, List.count_append]; omega
      · rw [ds, dn 0 (by decide), hgm, List.count_append]; omega
    have hp' := HPo.new (d' := upD d s e0) hs01 hf.2.2.1 he [g, z0, zz1, zz2] hN hNf hy' hc
    have kK : ∀ a ∈ kYo S o yl d s, a = o (slO s) ∨ (a = yl s ∧ yl s ≠ D.2.2.1 106) ∨ a ∈ gmC (d s) := fun a ha => by
      rcases kYo_mem ha with y | ⟨y, y2⟩
      · exact .inl y
      · exact .inr (.inl ⟨y, yl_106 hD cs1 (by omega)⟩)
    have kK2 : ∀ a ∈ kYo S o yl d s, a = o 31 ∨ a = o 33 ∨ a ∈ ylC D yl ∨ a ∈ gmC (d 0) ∨ a ∈ gmC (d 1) := fun a ha => by
      rcases kK a ha with y | ⟨y, y2⟩ | y
      · rcases hs01 with rfl | rfl
        · exact .inl y
        · exact .inr (.inl y)
      · refine .inr (.inr (.inl ?_))
        rw [y]
        unfold ylC
        rw [List.mem_append]
        rcases hs01 with rfl | rfl
        · left; rw [if_neg y2]; exact List.mem_singleton.mpr rfl
        · right; rw [if_neg y2]; exact List.mem_singleton.mpr rfl
      · rcases hs01 with rfl | rfl
        · exact .inr (.inr (.inr (.inl y)))
        · exact .inr (.inr (.inr (.inr y)))
    have gd0 : gdD F R e0 := by
      rw [← he0]
      have h := (cl.2.2.1 s hs01).2.1
      show frR ((d s).1 ++ [g]).length _ _ _ ∧ RUL F R ((d s).1 ++ [g]).length _ _ _
      rw [List.length_append, List.length_singleton]
      exact ⟨h.1.snoc, h.2.snoc (fun k k0 k1 => gm.1 k k0 k1)⟩
    have in0 : INo e0 q := fun k k0 k1 => by
      rw [le0] at k1
      have e6 : e0.2.2.2.2.2.1 = upN (d s).2.2.2.2.2.1 (d s).1.length (infN x1 x2 x3) := by rw [← he0]
      rw [e6]
      by_cases y : k = ((d s).1.length : Int)
      · rw [y, upN_at]
        show (0 ≤ x1 ∧ x1 ≤ 2) ∧ (1800 ≤ x2 ∧ x2 ≤ 2100) ∧ (0 ≤ x3 ∧ x3 ≤ 3500) ∧ (0 ≤ (0 : Int) ∧ (0 : Int) ≤ 4) ∧ 0 ≤ (0 : Int) ∧ (0 : Int) ≤ q + 20
        omega
      · rw [upN_ne _ _ _ (show k < ((d s).1.length : Int) by omega)]
        exact (cl.2.2.1 s hs01).2.2 k k0 (by omega)
    have hfs := hf.shelf hD he (yl' := upL yl s y1) (d' := upD d s e0) kK2 hp' (fun i hi => by
      by_cases y : i = s
      · subst y
        rw [ds]
        exact ⟨by rw [show upL yl i y1 i = y1 from if_pos rfl]; exact hS0, gd0, in0⟩
      · rw [dn i y, show upL yl s y1 i = yl i from if_neg y]
        exact ⟨sh_other (s := s) (t := i) hD hf he (by omega) kK, (cl.2.2.1 i hi).2⟩)
    refine store_ok hD hfs (fun S5 h5 e5 => ?_)
    obtain ⟨v0, v1, v2, v3, v4⟩ := hvv _ h5.2.1.1
    refine ⟨v0, ?_⟩
    rw [v1, v2, v3, v4, h5.1.2.1.2]
    have pq : (properB F R (gv m 0) && decide (m 30 s < 40)) = true := by rw [pe, z3, decide_eq_true (by omega)]; rfl
    refine q_addGame h5.1.2.1.1 xr.1 xr.2.1.1 hs h1 h2 h3 (fun y => by rw [z] at y; exact nomatch y) (fun _ y => by rw [z2.1.1, z2.1.2, z2.2] at y; exact nomatch y) (fun _ _ y => by rw [pq] at y; exact nomatch y) (fun _ _ _ => ?_)
    have sm0 : SIM m (up (ldm (up m 50 0 0)) 50 0 0) := ((SIM.rf m).up0 0).ldm.up0 0
    have lk0 := lk.sim sm0
    have xr2 := add_ref xr sm0 hs01 (by omega) ⟨i1, i2, i3⟩
    have h11 := hf.2.2.2.2.1.2.1
    have a1 := (shm_of lk0 hs01).add (r := x1) (y := x2) (z := x3) (pn := n) (pw := w) (pm := mv) ⟨lk0.2.1.1, pg.2.1⟩ lk0.2.1.2.1 lk0.2.1.2.2.1
    have s1 : shD (addM (up (ldm (up m 50 0 0)) 50 0 0) s x1 x2 x3) s e0 := by
      show shR _ _ e0.1.length _ _ _ _
      rw [le0, ← he0]
      exact a1
    have so : ∀ t : Int, ((t = 0 ∧ s = 1) ∨ (t = 1 ∧ s = 0)) → shD (addM (up (ldm (up m 50 0 0)) 50 0 0) s x1 x2 x3) t (d t) := fun t ht => (shm_of lk0 (s := t) (by omega)).other (hSH t (by omega)).2.1.1 ht (by rw [sm0.row (r := 30) rfl]; omega) (by rw [sm0.o (j := 11) rfl]; exact h11)
    have lk1 := lk0.shelf (m' := addM (up (ldm (up m 50 0 0)) 50 0 0) s x1 x2 x3) (d' := upD d s e0) (fun r hr => addM_r (by omega)) (fun j hj => by rw [addM_r (by omega)]) (by
      rcases hs01 with rfl | rfl
      · rw [ds]; exact s1
      · rw [dn 0 (by decide)]; exact so 0 (.inl ⟨rfl, rfl⟩)) (by
      rcases hs01 with rfl | rfl
      · rw [dn 1 (by decide)]; exact so 1 (.inr ⟨rfl, rfl⟩)
      · rw [ds]; exact s1)
    refine cmp_ok (by rw [x_e0, addM_r (by omega), up_at]; rfl) (hP _ (REL.mk ((h5.ref hD.2.2.1.1 hD.2.2.2.2 xr2).succ (by omega)) lk1)) (fun _ => ⟨(ans_ref h5 _).2, ?_⟩)
    rw [(ans_ref h5 _).1, e5, e30]
end
