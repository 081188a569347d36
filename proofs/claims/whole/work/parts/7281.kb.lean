section
variable {D : wD} {S U U' : wS} {o : Nat → Nat} {c c' : cM} {x : Nat} {A : Nat → Nat} {m m' m1 : xM} {F R F' R' : Int} {v v' u : Int → Int} {n n' : Int} {w w' : Int → Int → Int} {mv mv' : Int → Mv} {L W : List Int} {yb : Nat → Nat} {yl yl' : Int → Nat} {d d' : Int → SDt} {ye lw K : List Nat} {q q' : Int} {b Ln : Nat} {xs : Nat → Int32} {a3 a4 y' : Nat} {P Q : wS → Prop} {ε : Bool} {s : Int}
/-- one shelf's row is another -/
abbrev upL (yl : Int → Nat) (s : Int) (y' : Nat) : Int → Nat := fun k => if k = s then y' else yl k
/-- one shelf is another -/
def upD (d : Int → SDt) (s : Int) (e : SDt) : Int → SDt := fun k => if k = s then e else d k
theorem upD_at (d : Int → SDt) (s : Int) (e : SDt) : upD d s e s = e := if_pos rfl
theorem upD_ne (d : Int → SDt) {s k : Int} (e : SDt) (h : k ≠ s) : upD d s e k = d k := if_neg h
theorem gmC_snoc (e : SDt) (g z0 z1 z2 : Nat) {a1 : Int → Int} {a2 : Int → Int → Int → Int} {a3 : Int → Int → Mv} {a4 : Int → Int → Bool} {a5 : Int → Nat → Int} : gmC (e.1 ++ [g], a1, a2, a3, a4, a5, upN e.2.2.2.2.2.2 e.1.length (z0, z1, z2)) = gmC e ++ [g, z0, z1, z2] := by
  unfold gmC
  show (List.range (e.1 ++ [g]).length).flatMap _ = _
  rw [List.length_append, List.length_singleton, List.range_succ, List.flatMap_append]
  congr 1
  · rw [List.flatMap_def, List.flatMap_def]
    congr 1
    refine List.map_congr_left fun k hk => ?_
    have hk := List.mem_range.mp hk
    dsimp only
    rw [upN_ne _ _ _ (show (k : Int) < (e.1.length : Int) by omega), List.getD_eq_getElem?_getD, List.getElem?_append_left hk, ← List.getD_eq_getElem?_getD]
  · have e1 : (e.1 ++ [g]).getD e.1.length 0 = g := by simp [List.getD_eq_getElem?_getD]
    simp only [List.flatMap_cons, List.flatMap_nil, List.append_nil, upN_at, e1]
theorem own_count (a : Nat) : (ownL D o x A yb yl d ye lw).count a = ((List.range 52).map o).count a + (xCs x A).count a + [yb 29, yb 49, yb 50].count a + ((if yl 0 = D.2.2.1 106 then [] else [yl 0]).count a + (if yl 1 = D.2.2.1 106 then [] else [yl 1]).count a) + (gmC (d 0)).count a + (gmC (d 1)).count a + ye.count a + lw.count a := by
  unfold ownL ylC
  simp only [List.count_append]
  omega
theorem HPo.new (hs : s = 0 ∨ s = 1) (hp : HPo D U (ownL D o x A yb yl d ye lw)) (he : EX D U U' K) (N : List Nat) (hN : N.Nodup) (hf : ∀ a ∈ N, ¬ wM D U a ∧ a ∈ sL U') (hy : y' = yl s ∨ (¬ wM D U y' ∧ y' ∉ N ∧ y' ∈ sL U'))
    (hc : ∀ a, (gmC (d' 0)).count a + (gmC (d' 1)).count a ≤ (gmC (d 0)).count a + (gmC (d 1)).count a + N.count a) : HPo D U' (ownL D o x A yb (upL yl s y') d' ye lw) := by
  have old : ∀ a, ¬ wM D U a → (ownL D o x A yb yl d ye lw).count a = 0 := fun a ha => List.count_eq_zero.mpr fun z => ha (Or.inl (hp.2 a z).1)
  have nd := List.nodup_iff_count.mp hp.1
  have ndN := List.nodup_iff_count.mp hN
  -- the shelves' rows
  have yc : ∀ a, ((if upL yl s y' 0 = D.2.2.1 106 then [] else [upL yl s y' 0]).count a + (if upL yl s y' 1 = D.2.2.1 106 then [] else [upL yl s y' 1]).count a ≤ ((if yl 0 = D.2.2.1 106 then [] else [yl 0]).count a + (if yl 1 = D.2.2.1 106 then [] else [yl 1]).count a)) ∨ (a = y' ∧ (¬ wM D U y' ∧ y' ∉ N ∧ y' ∈ sL U') ∧ (if upL yl s y' 0 = D.2.2.1 106 then [] else [upL yl s y' 0]).count a + (if upL yl s y' 1 = D.2.2.1 106 then [] else [upL yl s y' 1]).count a ≤ ((if yl 0 = D.2.2.1 106 then [] else [yl 0]).count a + (if yl 1 = D.2.2.1 106 then [] else [yl 1]).count a) + 1) := fun a => by
    have one : ∀ y : Nat, (if y = D.2.2.1 106 then [] else [y]).count a ≤ 1 ∧ (a ≠ y → (if y = D.2.2.1 106 then [] else [y]).count a = 0) := fun y => by
      split
      · simp
      · rw [List.count_singleton]
        split <;> simp_all
    rcases hy with hy | hy
    · left
      have e : ∀ k, upL yl s y' k = yl k := fun k => by
        unfold upL
        split
        · rename_i z; rw [hy, z]
        · rfl
      rw [e 0, e 1]
      exact Nat.le_refl _
    · have o1 := one y'
      rcases hs with rfl | rfl
      · have e0 : upL yl 0 y' 0 = y' := if_pos rfl
        have e1 : upL yl 0 y' 1 = yl 1 := if_neg (by decide)
        rw [e0, e1]
        by_cases z : a = y'
        · right; exact ⟨z, hy, by omega⟩
        · left; have := o1.2 z; omega
      · have e0 : upL yl 1 y' 0 = yl 0 := if_neg (by decide)
        have e1 : upL yl 1 y' 1 = y' := if_pos rfl
        rw [e0, e1]
        by_cases z : a = y'
        · right; exact ⟨z, hy, by omega⟩
        · left; have := o1.2 z; omega
  refine hp.mk' he (List.nodup_iff_count.mpr fun a => ?_) (fun a ha => ?_)
  · have h0 := nd a
    have hc := hc a
    have yc := yc a
    have hN1 := ndN a
    rw [own_count] at h0 ⊢
    by_cases z : a ∈ N
    · have := old a (hf a z).1
      rw [own_count] at this
      rcases yc with yc | ⟨e, ⟨-, k, -⟩, -⟩
      · omega
      · rw [e] at z; exact absurd z k
    · have z0 := List.count_eq_zero.mpr z
      rcases yc with yc | ⟨e, ⟨k, -, -⟩, yc⟩
      · omega
      · have := old a (by rw [e]; exact k)
        rw [own_count] at this
        omega
  · have hc := hc a
    have yc := yc a
    have ha := List.count_pos_iff.mpr ha
    rw [own_count] at ha
    by_cases z : a ∈ N
    · exact .inr ⟨(hf a z).2, (hf a z).1⟩
    · have z0 := List.count_eq_zero.mpr z
      rcases yc with yc | ⟨e, ⟨k, -, k2⟩, yc⟩
      · left
        refine List.count_pos_iff.mp ?_
        rw [own_count]
        omega
      · rw [e]; exact .inr ⟨k2, k⟩
/-- behind a change of the shelves -/
theorem HFo.shelf (hD : wDok D b Ln xs) (hf : HFo D U o x A lw c m F R v n w mv L W yb yl d ye q F' R') (he : EX D U U' K) (hK : ∀ a ∈ K, a = o 31 ∨ a = o 33 ∨ a ∈ ylC D yl ∨ a ∈ gmC (d 0) ∨ a ∈ gmC (d 1)) (hp' : HPo D U' (ownL D o x A yb yl' d' ye lw)) (hs : ∀ s : Int, (s = 0 ∨ s = 1) → SHD D U' (o (slO s)) (yl' s) (d' s) ∧ gdD F R (d' s) ∧ INo (d' s) q) :
    HFo D U' o x A lw c m F R v n w mv L W yb yl' d' ye q F' R' := by
  obtain ⟨bf, ⟨cs1, cs2⟩, hp, cl, xr⟩ := hf
  have cc := bf.1.1
  have ap := hp.apart
  have nd := clsL_nd hp
  have om : ∀ k, k < 52 → o k ∈ (List.range 52).map o := fun k hk => List.mem_map.mpr ⟨k, List.mem_range.mpr hk, rfl⟩
  have Kc : ∀ a ∈ K, a ∈ clsL D o yb yl d ye := fun a ha => by
    unfold clsL
    simp only [List.mem_append]
    rcases hK a ha with z | z | z | z | z
    · rw [z]; exact .inl (om 31 (by decide))
    · rw [z]; exact .inl (om 33 (by decide))
    · exact .inr (.inr (.inl z))
    · exact .inr (.inr (.inr (.inl z)))
    · exact .inr (.inr (.inr (.inr (.inl z))))
  have Kd : ∀ a ∈ K, a ∉ D.2.1 := fun a ha => (hp.2 a (own_mem.mpr (.inl (Kc a ha)))).2
  unfold clsL at nd
  have n1 := nd_app nd
  have d1 := (List.nodup_append.mp nd).2.1
  have n2 := nd_app d1
  have d2 := (List.nodup_append.mp d1).2.1
  have n3 := nd_app d2
  have d3 := (List.nodup_append.mp d2).2.1
  have n4 := nd_app d3
  have d4 := (List.nodup_append.mp d3).2.1
  have n5 := nd_app d4
  have oK : ∀ k, k < 52 → k ≠ 31 → k ≠ 33 → o k ∉ K := fun k hk h1 h2 z => by
    rcases hK _ z with y | y | y | y | y
    · exact h1 (cc.2.1 k hk 31 (by decide) y)
    · exact h2 (cc.2.1 k hk 33 (by decide) y)
    · exact n1 _ (om k hk) (by simp only [List.mem_append]; exact .inr (.inl y))
    · exact n1 _ (om k hk) (by simp only [List.mem_append]; exact .inr (.inr (.inl y)))
    · exact n1 _ (om k hk) (by simp only [List.mem_append]; exact .inr (.inr (.inr (.inl y))))
  have bK : ∀ a, a ∈ [yb 29, yb 49, yb 50] → a ∉ K := fun a ha z => by
    rcases hK _ z with y | y | y | y | y
    · exact n1 _ (om 31 (by decide)) (by rw [← y]; exact List.mem_append.mpr (.inl ha))
    · exact n1 _ (om 33 (by decide)) (by rw [← y]; exact List.mem_append.mpr (.inl ha))
    · exact n2 _ ha (List.mem_append.mpr (.inl y))
    · exact n2 _ ha (by simp only [List.mem_append]; exact .inr (.inl y))
    · exact n2 _ ha (by simp only [List.mem_append]; exact .inr (.inr (.inl y)))
  have eK : ∀ a ∈ ye, a ∉ K := fun a ha z => by
    rcases hK _ z with y | y | y | y | y
    · exact n1 _ (om 31 (by decide)) (by rw [← y]; simp only [List.mem_append]; exact .inr (.inr (.inr (.inr ha))))
    · exact n1 _ (om 33 (by decide)) (by rw [← y]; simp only [List.mem_append]; exact .inr (.inr (.inr (.inr ha))))
    · exact n3 _ y (by simp only [List.mem_append]; exact .inr (.inr ha))
    · exact n4 _ y (by simp only [List.mem_append]; exact .inr ha)
    · exact n5 _ y ha
  obtain ⟨g, tx, sh, p, e⟩ := cl
  exact ⟨bf.ex2 he (fun k hk => oK k (cOk_lt hk) (fun z => by rw [z] at hk; exact absurd hk (by decide)) (fun z => by rw [z] at hk; exact absurd hk (by decide))) (fun a ha z => (ap.1 a (Kc a z)).1 ha), ⟨cs1.of he Kd hD.2.2.2.2, cs2.ex he⟩, hp',
    ⟨g, tx.ex he ⟨oK 29 (by decide) (by decide) (by decide), oK 49 (by decide) (by decide) (by decide), oK 50 (by decide) (by decide) (by decide)⟩ ⟨bK _ (by simp), bK _ (by simp), bK _ (by simp)⟩, hs, p, e.ex (Or.inl (cc.1 45 (by decide)).1) he (oK 45 (by decide) (by decide) (by decide)) eK⟩, xr⟩
/-- the other shelf stays -/
theorem sh_other (hD : wDok D b Ln xs) (hf : HFo D U o x A lw c m F R v n w mv L W yb yl d ye q F' R') (he : EX D U U' K) {t : Int} (hst : (s = 0 ∧ t = 1) ∨ (s = 1 ∧ t = 0)) (hK : ∀ a ∈ K, a = o (slO s) ∨ (a = yl s ∧ yl s ≠ D.2.2.1 106) ∨ a ∈ gmC (d s)) : SHD D U' (o (slO t)) (yl t) (d t) := by
  obtain ⟨bf, ⟨cs1, cs2⟩, hp, cl, xr⟩ := hf
  have cc := bf.1.1
  have nd := clsL_nd hp
  have om : ∀ k, k < 52 → o k ∈ (List.range 52).map o := fun k hk => List.mem_map.mpr ⟨k, List.mem_range.mpr hk, rfl⟩
  unfold clsL at nd
  have n1 := nd_app nd
  have d1 := (List.nodup_append.mp nd).2.1
  have d2 := (List.nodup_append.mp d1).2.1
  have n3 := nd_app d2
  have dy := (List.nodup_append.mp d2).1
  have d3 := (List.nodup_append.mp d2).2.1
  have n4 := nd_app d3
  have ylm : ∀ i : Int, (i = 0 ∨ i = 1) → yl i ≠ D.2.2.1 106 → yl i ∈ ylC D yl := fun i hi z => by
    unfold ylC
    rw [List.mem_append]
    rcases hi with rfl | rfl
    · left; rw [if_neg z]; exact List.mem_singleton.mpr rfl
    · right; rw [if_neg z]; exact List.mem_singleton.mpr rfl
  have y01 : yl 0 ≠ D.2.2.1 106 → yl 1 ≠ D.2.2.1 106 → yl 0 ≠ yl 1 := fun h0 h1 e => by
    unfold ylC at dy
    rw [if_neg h0, if_neg h1] at dy
    exact nd_app dy _ (List.mem_singleton.mpr rfl) (List.mem_singleton.mpr e)
  have gm01 : ∀ a, a ∈ gmC (d 0) → a ∉ gmC (d 1) := fun a h0 h1 => n4 a h0 (List.mem_append.mpr (.inl h1))
  have s01 : s = 0 ∨ s = 1 := by omega
  have t01 : t = 0 ∨ t = 1 := by omega
  have so : slO s < 52 ∧ slO t < 52 ∧ slO t ≠ slO s := by rcases hst with ⟨rfl, rfl⟩ | ⟨rfl, rfl⟩ <;> decide
  have gy : ∀ i : Int, (i = 0 ∨ i = 1) → ∀ a, a ∈ gmC (d i) → a ∉ ylC D yl ∧ ∀ k, k < 52 → a ≠ o k := fun i hi a ha => by
    have ha' : a ∈ gmC (d 0) ++ (gmC (d 1) ++ ye) := by
      simp only [List.mem_append]
      rcases hi with rfl | rfl
      · exact .inl ha
      · exact .inr (.inl ha)
    exact ⟨fun z => n3 a z ha', fun k hk e => n1 _ (om k hk) (by rw [← e]; simp only [List.mem_append] at ha' ⊢; exact .inr (.inr ha'))⟩
  have oy : ∀ k, k < 52 → o k ∉ ylC D yl := fun k hk z => n1 _ (om k hk) (by simp only [List.mem_append]; exact .inr (.inl z))
  have h106 : ∀ k, k < 52 → o k ≠ D.2.2.1 106 := fun k hk e => (hp.2 (o k) (own_mem.mpr (.inl (by unfold clsL; rw [List.mem_append]; exact .inl (om k hk))))).2 (by rw [e]; exact hD.2.2.1.1)
  have g106 : ∀ i : Int, (i = 0 ∨ i = 1) → ∀ a, a ∈ gmC (d i) → a ≠ D.2.2.1 106 := fun i hi a ha e => (hp.2 a (own_mem.mpr (.inl (by
    unfold clsL
    simp only [List.mem_append]
    rcases hi with rfl | rfl
    · exact .inr (.inr (.inr (.inl ha)))
    · exact .inr (.inr (.inr (.inr (.inl ha)))))))).2 (by rw [e]; exact hD.2.2.1.1)
  refine SHC.ex he (fun z => ?_) (fun z => ?_) (fun g g0 g1 => ?_) (cl.2.2.1 t t01).1
  · rcases hK _ z with y | ⟨y, y6⟩ | y
    · exact so.2.2 (cc.2.1 _ so.2.1 _ so.1 y)
    · exact oy _ so.2.1 (by rw [y]; exact ylm s s01 y6)
    · exact (gy s s01 _ y).2 _ so.2.1 rfl
  · by_cases t6 : yl t = D.2.2.1 106
    · rcases hK _ z with y | ⟨y, y6⟩ | y
      · exact h106 _ so.1 (by rw [← y, t6])
      · exact y6 (by rw [← y, t6])
      · exact g106 s s01 _ y t6
    · rcases hK _ z with y | ⟨y, y6⟩ | y
      · exact oy _ so.1 (by rw [← y]; exact ylm t t01 t6)
      · rcases hst with ⟨rfl, rfl⟩ | ⟨rfl, rfl⟩
        · exact y01 y6 t6 y.symm
        · exact y01 t6 y6 y
      · exact (gy s s01 _ y).1 (ylm t t01 t6)
  · obtain ⟨k1, k2, k3, k4⟩ := gmC_mem (e := d t) ⟨g0, g1⟩
    have up : ∀ a, a ∈ gmC (d t) → a ∉ K := fun a ha z => by
      rcases hK _ z with y | ⟨y, y6⟩ | y
      · exact (gy t t01 a ha).2 _ so.1 y
      · exact (gy t t01 a ha).1 (by rw [y]; exact ylm s s01 y6)
      · rcases hst with ⟨rfl, rfl⟩ | ⟨rfl, rfl⟩
        · exact gm01 a y ha
        · exact gm01 a ha y
    exact ⟨up _ k1, up _ k2, up _ k3, up _ k4⟩
theorem XRo.shelf (h : XRo m F R) (row : ∀ r : Nat, (r = 8 ∨ r = 9 ∨ r = 10 ∨ r = 12 ∨ r = 14 ∨ r = 41 ∨ r = 42) → m' r = m r) (o50 : ∀ j : Int, (j = 1 ∨ j = 2 ∨ j = 11) → m' 50 j = m 50 j) (r30 : ∀ s : Int, 0 ≤ s → s ≤ 1 → 0 ≤ m' 30 s ∧ m' 30 s ≤ 40)
    (r33 : ∀ k : Int, 0 ≤ k → k < 80 → (0 ≤ m' 33 k ∧ m' 33 k ≤ 80) ∧ (i32 (m' 34 k) ∧ i32 (m' 35 k)) ∧ (0 ≤ m' 36 k ∧ m' 36 k ≤ 3500) ∧ (0 ≤ m' 37 k ∧ m' 37 k ≤ 4) ∧ i32 (m' 38 k)) (r32 : ∀ j : Int, 0 ≤ j → j < 6400 → i32 (m' 32 j))
    (rsv : ∀ s g k : Int, 0 ≤ s → s ≤ 1 → 0 ≤ g → g < m' 30 s → 0 ≤ k → k ≤ m' 33 (slotB s g) → okV F R (sv m' s g k)) : XRo m' F R := by
  obtain ⟨⟨a1, a2, a3⟩, -, -, t1, t2, t3, t4, t5, t6, t7⟩ := h
  have o11 := o50 11 (by omega)
  have b := a1.2.2
  have hn := FR_r b.1 b.2.1 b.2.2.1 b.2.2.2
  refine ⟨⟨⟨(o50 1 (by omega)).trans a1.1, (o50 2 (by omega)).trans a1.2.1, a1.2.2⟩, by rw [o11]; exact a2, fun k k0 k1 => ?_⟩, ⟨r30, fun k k0 k1 => ⟨(r33 k k0 k1).1, (r33 k k0 k1).2.1⟩, rsv⟩, ⟨r30, fun k k0 k1 => (r33 k k0 k1).1, r32, fun i g i0 i1 g0 g1 j j0 j1 => ?_⟩, fun k k0 k1 => by rw [row 12 (by omega)]; exact t1 k k0 k1, fun k k0 k1 => (r33 k k0 k1).2.2, by rw [row 41 (by omega)]; exact t3, fun k k0 k1 => by rw [row 42 (by omega)]; exact t4 k k0 k1, fun k k0 k1 => by rw [row 10 (by omega), row 9 (by omega)]; exact t5 k k0 k1, fun k k0 k1 => by rw [row 14 (by omega)]; exact t6 k k0 k1, by rw [row 42 (by omega)]; exact t7⟩
  · rw [o11] at k1
    have : gv m' k = gv m k := by unfold gv; rw [vec_row (row 8 (by omega))]
    rw [this]; exact a3 k k0 k1
  · have r30 := r30 i i0 i1
    have sl : 0 ≤ slotB i g ∧ slotB i g < 80 := by unfold slotB; omega
    have ok := rsv i g 0 i0 i1 g0 g1 (Int.le_refl _) (r33 _ sl.1 sl.2).1.1
    rw [sv_vec, show 5427 * slotB i g + 67 * (0 : Int) = 5427 * slotB i g by omega] at ok
    generalize vec m' 31 (5427 * slotB i g) = uu at ok
    have e := ok.e
    unfold i32
    rcases (show j < 64 ∨ j = 64 ∨ j = 65 ∨ j = 66 by omega) with z | z | z | z
    · have := ok.p j j0 z; omega
    · rw [z]; have := ok.s; omega
    · rw [z]; have := ok.r; omega
    · rw [z]; omega
theorem LKo.shelf (h : LKo m c F R n w mv L W d ye ε) (row : ∀ r : Nat, (r = 8 ∨ r = 9 ∨ r = 10 ∨ r = 12 ∨ r = 14 ∨ r = 40 ∨ r = 41 ∨ r = 42) → m' r = m r) (o50 : ∀ j : Int, (j = 1 ∨ j = 2 ∨ j = 11 ∨ j = 13 ∨ j = 15 ∨ j = 16 ∨ j = 39) → m' 50 j = m 50 j) (s0 : shD m' 0 (d' 0)) (s1 : shD m' 1 (d' 1)) : LKo m' c F R n w mv L W d' ye ε := by
  obtain ⟨⟨a1, a2, a9⟩, ⟨b1, b2, b3, b4⟩, ⟨c1, c2⟩, ⟨d1, d2⟩, ⟨e1, e2, e3⟩, -, g1, g2⟩ := h
  refine ⟨⟨(o50 1 (by omega)).trans a1, (o50 2 (by omega)).trans a2, a9⟩, ⟨(o50 11 (by omega)).trans b1, fun k k0 k1 => by unfold gv; rw [vec_row (row 8 (by omega))]; exact b2 k k0 k1, fun k k0 k1 => by rw [row 9 (by omega)]; exact b3 k k0 k1, fun k k0 k1 => by rw [row 10 (by omega)]; exact b4 k k0 k1⟩, ⟨(o50 13 (by omega)).trans c1, fun k k0 k1 => by rw [row 12 (by omega)]; exact c2 k k0 k1⟩, ⟨(o50 15 (by omega)).trans d1, fun k k0 k1 => by rw [row 14 (by omega)]; exact d2 k k0 k1⟩, ⟨(o50 16 (by omega)).trans e1, (o50 39 (by omega)).trans e2, fun k k0 k1 => by rw [row 40 (by omega)]; exact e3 k k0 k1⟩, ⟨s0, s1⟩, fun kd k0 k1 => by rw [row 42 (by omega)]; exact g1 kd k0 k1, fun kd k0 k1 k2 i i0 i1 => ?_⟩
  rw [row 42 (by omega)] at k2
  rw [row 41 (by omega)]; exact g2 kd k0 k1 k2 i i0 i1
end
