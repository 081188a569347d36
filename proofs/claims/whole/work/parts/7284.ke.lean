section
variable {D : wD} {S U U' : wS} {o : Nat → Nat} {c c' : cM} {x : Nat} {A : Nat → Nat} {m m' m1 : xM} {F R F' R' : Int} {v v' u : Int → Int} {n n' : Int} {w w' : Int → Int → Int} {mv mv' : Int → Mv} {L W : List Int} {yb : Nat → Nat} {yl yl' : Int → Nat} {d d' : Int → SDt} {ye lw K : List Nat} {q q' : Int} {b Ln : Nat} {xs : Nat → Int32} {a3 a4 y' : Nat} {P Q : wS → Prop} {ε : Bool} {s t : Int} {e : SDt}
/-- a game's cells -/
abbrev cl4 (e : SDt) (g : Int) : List Nat := [e.1.getD g.toNat 0, (e.2.2.2.2.2.2 g).1, (e.2.2.2.2.2.2 g).2.1, (e.2.2.2.2.2.2 g).2.2]
theorem gmC_cl4 (e : SDt) : gmC e = (List.range e.1.length).flatMap fun k : Nat => cl4 e (k : Int) := rfl
theorem mcS_gm (f : SDt) (g : Int) : ∃ X, gmC (mcS f e g) = gmC f ++ X ∧ (X = cl4 e g ∨ X = []) := by
  unfold mcS
  split
  · refine ⟨cl4 e g, ?_, .inl rfl⟩
    exact gmC_snoc f (e.1.getD g.toNat 0) (e.2.2.2.2.2.2 g).1 (e.2.2.2.2.2.2 g).2.1 (e.2.2.2.2.2.2 g).2.2
  · exact ⟨[], by simp, .inr rfl⟩
theorem mcL_gm : ∀ (k : Nat) (g : Int) (f : SDt), ∃ X, gmC (mcL f e g k) = gmC f ++ X ∧ List.Sublist X ((List.range k).flatMap fun i : Nat => cl4 e (g + (i : Int)))
  | 0, g, f => ⟨[], by unfold mcL; simp, List.nil_sublist _⟩
  | k + 1, g, f => by
    obtain ⟨X, h1, h2⟩ := mcS_gm (e := e) f g
    obtain ⟨Y, h3, h4⟩ := mcL_gm k (g + 1) (mcS f e g)
    refine ⟨X ++ Y, ?_, ?_⟩
    · unfold mcL
      rw [h3, h1, List.append_assoc]
    · rw [List.range_succ_eq_map, List.flatMap_cons, List.flatMap_map]
      refine List.Sublist.append ?_ ?_
      · rw [show g + ((0 : Nat) : Int) = g by simp]
        rcases h2 with h2 | h2
        · rw [h2]; exact List.Sublist.refl _
        · rw [h2]; exact List.nil_sublist _
      · have ee : (fun i : Nat => cl4 e (g + ((i + 1 : Nat) : Int))) = fun i : Nat => cl4 e (g + 1 + (i : Int)) := by
          funext i
          rw [show g + ((i + 1 : Nat) : Int) = g + 1 + (i : Int) by omega]
        show List.Sublist Y (List.flatMap (fun i : Nat => cl4 e (g + ((i + 1 : Nat) : Int))) (List.range k))
        rw [ee]
        exact h4
theorem mcS_in {f : SDt} {g : Int} (h : INo f q) (h2 : INo e q) (hq : 0 ≤ q) (hg : 0 ≤ g ∧ g < e.1.length) : INo (mcS f e g) q := by
  unfold mcS
  split
  · intro k k0 k1
    have k1 : k < ((f.1 ++ [e.1.getD g.toNat 0]).length : Int) := k1
    rw [List.length_append, List.length_singleton] at k1
    have h2 := h2 g hg.1 hg.2
    unfold mcC
    dsimp only
    by_cases y : k = (f.1.length : Int)
    · rw [y, upN_at]
      rw [if_neg (by decide), if_neg (by decide), if_neg (by decide), if_pos (by decide), if_pos (by decide)]
      omega
    · rw [upN_ne _ _ _ (show k < (f.1.length : Int) by omega)]
      exact h k k0 (by omega)
  · exact h
theorem mcL_in (h2 : INo e q) (hq : 0 ≤ q) : ∀ (k : Nat) (g : Int) (f : SDt), 0 ≤ g → g + k ≤ e.1.length → INo f q → INo (mcL f e g k) q
  | 0, _, _, _, _, h => h
  | k + 1, g, f, g0, g1, h => by
    unfold mcL
    exact mcL_in h2 hq k (g + 1) _ (by omega) (by omega) (mcS_in h h2 hq ⟨g0, by omega⟩)
/-- a shelf's positions are in range -/
abbrev OKd (F R : Int) (f : SDt) : Prop := ∀ g k : Int, 0 ≤ g → g < f.1.length → 0 ≤ k → k ≤ f.2.1 g → okV F R (f.2.2.1 g k)
theorem mcS_ok {f : SDt} {g : Int} (h : OKd F R f) (h2 : OKd F R e) (hg : 0 ≤ g ∧ g < e.1.length) : OKd F R (mcS f e g) := by
  unfold mcS
  split
  · intro i k i0 i1 k0 k1
    have i1 : i < ((f.1 ++ [e.1.getD g.toNat 0]).length : Int) := i1
    have k1 : k ≤ upN f.2.1 f.1.length (e.2.1 g) i := k1
    rw [List.length_append, List.length_singleton] at i1
    show okV F R (upN f.2.2.1 f.1.length (e.2.2.1 g) i k)
    by_cases y : i = (f.1.length : Int)
    · rw [y, upN_at] at k1 ⊢
      exact h2 g k hg.1 hg.2 k0 k1
    · rw [upN_ne _ _ _ (show i < (f.1.length : Int) by omega)] at k1 ⊢
      exact h i k i0 (by omega) k0 k1
  · exact h
theorem mcL_ok (h2 : OKd F R e) : ∀ (k : Nat) (g : Int) (f : SDt), 0 ≤ g → g + k ≤ e.1.length → OKd F R f → OKd F R (mcL f e g k)
  | 0, _, _, _, _, h => h
  | k + 1, g, f, g0, g1, h => by
    unfold mcL
    exact mcL_ok h2 k (g + 1) _ (by omega) (by omega) (mcS_ok h h2 ⟨g0, by omega⟩)
theorem mgC_r {g : Int} {f : Nat} (h : ¬ (30 ≤ f ∧ f ≤ 38)) : mgC m g f = m f := funext fun j => by
  unfold mgC
  rw [up_ne _ (Or.inl (by omega)), up_ne _ (Or.inl (by omega)), up_ne _ (Or.inl (by omega)), up_ne _ (Or.inl (by omega)), up_ne _ (Or.inl (by omega)), up_ne _ (Or.inl (by omega)), up_ne _ (Or.inl (by omega)), cpy_ne _ (by simp; omega), cpy_ne _ (by simp; omega)]
theorem mgL_r {f : Nat} (h : ¬ (30 ≤ f ∧ f ≤ 38)) : ∀ (k : Nat) (g : Int) (m : xM), mgL m g k f = m f
  | 0, _, _ => rfl
  | k + 1, g, m => by
    unfold mgL
    rw [mgL_r h k (g + 1) (mgS m g)]
    unfold mgS
    split
    · exact mgC_r h
    · rfl
/-- the ranges of the shelves' rows -/
abbrev RWo (m : xM) : Prop := (∀ k : Int, 0 ≤ k → k < 80 → (0 ≤ m 33 k ∧ m 33 k ≤ 80) ∧ (i32 (m 34 k) ∧ i32 (m 35 k)) ∧ (0 ≤ m 36 k ∧ m 36 k ≤ 3500) ∧ (0 ≤ m 37 k ∧ m 37 k ≤ 4) ∧ i32 (m 38 k)) ∧ (∀ j : Int, 0 ≤ j → j < 6400 → i32 (m 32 j)) ∧ 0 ≤ m 30 0 ∧ m 30 0 ≤ 40
theorem RWo.st {g : Int} (h : RWo m) (hg : 0 ≤ g ∧ g < 40) : RWo (mgS m g) := by
  unfold mgS
  split
  · rename_i z
    have z40 : m 30 0 < 40 := by
      unfold mgB at z
      rw [Bool.and_eq_true] at z
      exact of_decide_eq_true z.1
    refine ⟨fun k k0 k1 => ?_, fun j j0 j1 => ?_, by rw [mgC_30, if_pos rfl]; have := h.2.2; omega⟩
    · have a := h.1 k k0 k1
      have b := h.1 (40 + g) (by omega) (by omega)
      rw [mgC_i _ _ _ (by omega), mgC_i _ _ _ (by omega), mgC_i _ _ _ (by omega), mgC_i _ _ _ (by omega), mgC_i _ _ _ (by omega), mgC_i _ _ _ (by omega)]
      by_cases y : k = m 30 0
      · rw [if_pos y, if_pos y, if_pos y, if_pos y, if_pos y, if_pos y, if_neg (by decide), if_neg (by decide), if_neg (by decide), if_neg (by decide), if_pos (by decide), if_pos (by decide)]
        exact ⟨b.1, b.2.1, b.2.2.1, by decide, by decide⟩
      · rw [if_neg y, if_neg y, if_neg y, if_neg y, if_neg y, if_neg y]
        exact a
    · rw [mgC_32]
      split
      · exact h.2.1 _ (by omega) (by omega)
      · exact h.2.1 j j0 j1
  · exact h
theorem RWo.ml : ∀ (k : Nat) (g : Int) (m : xM), 0 ≤ g → g + k ≤ 40 → RWo m → RWo (mgL m g k)
  | 0, _, _, _, _, h => h
  | k + 1, g, m, g0, g1, h => by
    unfold mgL
    exact RWo.ml k (g + 1) _ (by omega) (by omega) (h.st ⟨g0, by omega⟩)
/-- CALL: merge -/
theorem call_merge (hD : wDok D b Ln xs) (hR : RELo D S o x A lw q ε) (hq : 0 ≤ q) (hP : ∀ S', RELo D S' o x A lw (q + 1) ε → P S') : wp_X11_merge D (fun r S2 => wp_X12_merge D (DIRo P Q r) S2 x) 40 4000 S (o 0) := by
  refine REL.elim hR fun c m F R v n w mv L W yb yl d ye hf lk ev => ?_
  have e1 := hf.1.1.2
  have hSH := shl_of hf
  have bb := bfr_of hf
  have hm := FR_r bb.1.1 bb.1.2 bb.2.1 bb.2.2
  have cl := hf.2.2.2.1
  have xr := hf.2.2.2.2
  have cs1 := hf.2.1.1
  have cc := hf.1.1.1
  have hp := hf.2.2.1
  have nd := clsL_nd hp
  have om : ∀ k, k < 52 → o k ∈ (List.range 52).map o := fun k hk => List.mem_map.mpr ⟨k, List.mem_range.mpr hk, rfl⟩
  unfold clsL at nd
  have n1 := nd_app nd
  have d1 := (List.nodup_append.mp nd).2.1
  have d2 := (List.nodup_append.mp d1).2.1
  have n3 := nd_app d2
  have dy := (List.nodup_append.mp d2).1
  have d3 := (List.nodup_append.mp d2).2.1
  have n4 := nd_app d3
  have ylm : ∀ i : Int, (i = 0 ∨ i = 1) → yl i ≠ D.2.2.1 106 → yl i ∈ ylC D yl := fun i hi z => by
    unfold ylC
    rw [List.mem_append]
    rcases hi with rfl | rfl
    · left; rw [if_neg z]; exact List.mem_singleton.mpr rfl
    · right; rw [if_neg z]; exact List.mem_singleton.mpr rfl
  have y01 : yl 0 ≠ D.2.2.1 106 → yl 1 ≠ D.2.2.1 106 → yl 0 ≠ yl 1 := fun h0 h1 e => by
    unfold ylC at dy
    rw [if_neg h0, if_neg h1] at dy
    exact nd_app dy _ (List.mem_singleton.mpr rfl) (List.mem_singleton.mpr e)
  have oy : ∀ k, k < 52 → o k ∉ ylC D yl := fun k hk z => n1 _ (om k hk) (by simp only [List.mem_append]; exact .inr (.inl z))
  have og : ∀ k, k < 52 → o k ∉ gmC (d 1) := fun k hk z => n1 _ (om k hk) (by simp only [List.mem_append]; exact .inr (.inr (.inr (.inl z))))
  have yg : ∀ a, a ∈ ylC D yl → a ∉ gmC (d 1) := fun a h1 h2 => n3 a h1 (by simp only [List.mem_append]; exact .inr (.inl h2))
  have own : ∀ a, a ∈ (List.range 52).map o ∨ a ∈ gmC (d 1) → a ∈ sL S ∧ a ∉ D.2.1 := fun a ha => hp.2 a (own_mem.mpr (.inl (by
    unfold clsL
    simp only [List.mem_append]
    rcases ha with y | y
    · exact .inl y
    · exact .inr (.inr (.inr (.inr (.inl y)))))))
  have h6 := hD.2.2.1.1
  have Km : ∀ a, a ∈ o 31 :: ((if 0 < sN S (yl 0) then [yl 0] else []) ++ gmC (d 1)) → a = o 31 ∨ (a = yl 0 ∧ yl 0 ≠ D.2.2.1 106) ∨ a ∈ gmC (d 1) := fun a ha => by
    rcases List.mem_cons.mp ha with y | y
    · exact .inl y
    · rcases List.mem_append.mp y with y | y
      · split at y
        · rename_i z
          exact .inr (.inl ⟨List.mem_singleton.mp y, yl_106 hD cs1 z⟩)
        · exact absurd y List.not_mem_nil
      · exact .inr (.inr y)
  have y1K : yl 1 ∉ o 31 :: ((if 0 < sN S (yl 0) then [yl 0] else []) ++ gmC (d 1)) := fun z => by
    by_cases t6 : yl 1 = D.2.2.1 106
    · rcases Km _ z with y | ⟨y, y6⟩ | y
      · exact (own (o 31) (.inl (om 31 (by decide)))).2 (by rw [← y, t6]; exact h6)
      · exact y6 (by rw [← y, t6])
      · exact (own _ (.inr y)).2 (by rw [t6]; exact h6)
    · rcases Km _ z with y | ⟨y, y6⟩ | y
      · exact oy 31 (by decide) (by rw [← y]; exact ylm 1 (.inr rfl) t6)
      · exact y01 y6 t6 y.symm
      · exact yg _ (ylm 1 (.inr rfl) t6) y
  have okK : ∀ k, k < 52 → k ≠ 31 → o k ∉ o 31 :: ((if 0 < sN S (yl 0) then [yl 0] else []) ++ gmC (d 1)) := fun k hk h31 z => by
    rcases Km _ z with y | ⟨y, y6⟩ | y
    · exact h31 (cc.2.1 k hk 31 (by decide) y)
    · exact oy k hk (by rw [y]; exact ylm 0 (.inl rfl) y6)
    · exact og k hk y
  rw [e1]
  refine q_mergeC2 hf.1.1.1 hSH (K := o 31 :: ((if 0 < sN S (yl 0) then [yl 0] else []) ++ gmC (d 1))) (fun k hk => okK k (cOk_lt hk) (fun e => by rw [e] at hk; exact absurd hk (by decide))) ⟨okK 33 (by decide) (by decide), y1K, List.mem_cons_self, fun z => List.mem_cons_of_mem _ (by rw [if_pos z]; simp)⟩ (fun g g0 g1 => by
      have k := gmC_mem (e := d 1) ⟨g0, g1⟩
      exact ⟨List.mem_cons_of_mem _ (List.mem_append_right _ k.1), List.mem_cons_of_mem _ (List.mem_append_right _ k.2.2.2)⟩) (gm_ow (e := d 1) (gm_nd hf (.inr rfl))) (fun g g0 g1 k k0 k1 => by
      have a := gmC_mem (e := d 0) ⟨k0, k1⟩
      have a2 := gmC_mem (e := d 1) ⟨g0, g1⟩
      exact ⟨fun e => n4 _ a.1 (List.mem_append.mpr (.inl (by rw [e]; exact a2.1))), fun e => n4 _ a.2.2.2 (List.mem_append.mpr (.inl (by rw [e]; exact a2.2.2.2)))⟩) (fun g g0 g1 => (own _ (.inr (gmC_mem (e := d 1) ⟨g0, g1⟩).2.2.2)).1) (by decide) (fun U' y1 he hS hy hA => ?_)
  rw [← e1] at he hy
  have hS : SHD D U' (o 31) y1 (mcL (d 0) (d 1) 0 (d 1).1.length) := hS
  show wp_X12_merge D (DIRo P Q (iI (mcN (d 0) (d 1) 0 (d 1).1.length))) U' x
  have l40 : (d 1).1.length ≤ 40 := (hSH 1 (.inr rfl)).2.1.1
  obtain ⟨X, hX1, hX2⟩ := mcL_gm (e := d 1) (d 1).1.length 0 (d 0)
  have hX2 : List.Sublist X (gmC (d 1)) := by
    rw [gmC_cl4]
    have ee : (fun i : Nat => cl4 (d 1) (0 + (i : Int))) = fun i : Nat => cl4 (d 1) (i : Int) := by funext i; rw [Int.zero_add]
    rw [ee] at hX2
    exact hX2
  have lk0 := lk.sim ((SIM.rf m).up0 0)
  have ml := mg_L hm.2 l40 (cl.2.2.1 1 (.inr rfl)).2.1 (d 1).1.length 0 (up m 50 0 0) (d 0) (Int.le_refl _) (by omega) lk0.2.2.2.2.2.1.1 lk0.2.2.2.2.2.1.2 (cl.2.2.1 0 (.inl rfl)).2.1
  have inn := mcL_in (q := q) (cl.2.2.1 1 (.inr rfl)).2.2 hq (d 1).1.length 0 (d 0) (Int.le_refl _) (by omega) (cl.2.2.1 0 (.inl rfl)).2.2
  have okd : ∀ i : Int, (i = 0 ∨ i = 1) → OKd F R (d i) := fun i hi g k g0 g1 k0 k1 => by
    have h := shm_of lk hi
    have hg := h.2 g g0 g1
    rw [← hg.2.1 k k0 k1]
    exact xr.2.1.2.2 i g k (by omega) (by omega) g0 (by rw [h.1]; exact g1) k0 (by rw [hg.1.1]; exact k1)
  have oke := mcL_ok (okd 1 (.inr rfl)) (d 1).1.length 0 (d 0) (Int.le_refl _) (by omega) (okd 0 (.inl rfl))
  generalize he0 : mcL (d 0) (d 1) 0 (d 1).1.length = e0 at *
  have d0 : upD (upD d 1 (([], (d 1).2) : SDt)) 0 e0 0 = e0 := upD_at _ _ _
  have dd1 : upD (upD d 1 (([], (d 1).2) : SDt)) 0 e0 1 = (([], (d 1).2) : SDt) := (upD_ne _ _ (by decide)).trans (upD_at _ _ _)
  have g1 : gmC (([], (d 1).2) : SDt) = [] := rfl
  have sh0 := (cl.2.2.1 1 (.inr rfl)).1
  have hp' := HPo.new (s := 0) (y' := y1) (d' := upD (upD d 1 (([], (d 1).2) : SDt)) 0 e0) (.inl rfl) hp he [] List.nodup_nil (fun a ha => absurd ha List.not_mem_nil) (by
    rcases hy with y | y
    · exact .inl y
    · refine .inr ⟨y, List.not_mem_nil, ?_⟩
      rcases hS.1.2.1.2.1 with z | z
      · exact z
      · exact absurd (Or.inr z) y) (fun a => by
    rw [d0, dd1, g1, hX1, List.count_append]
    have := hX2.count_le a
    simp only [List.count_nil]
    omega)
  have kK2 : ∀ a ∈ (if (d 1).1.length = 0 then [o 33] else [o 33, yl 1]) ++ (o 31 :: ((if 0 < sN S (yl 0) then [yl 0] else []) ++ gmC (d 1))), a = o 31 ∨ a = o 33 ∨ a ∈ ylC D yl ∨ a ∈ gmC (d 0) ∨ a ∈ gmC (d 1) := fun a ha => by
    rcases List.mem_append.mp ha with y | y
    · split at y
      · exact .inr (.inl (List.mem_singleton.mp y))
      · rename_i z
        rcases List.mem_cons.mp y with y | y
        · exact .inr (.inl y)
        · rw [List.mem_singleton.mp y]
          exact .inr (.inr (.inl (ylm 1 (.inr rfl) (yl_own hD cs1 sh0.1 z))))
    · rcases Km _ y with y | ⟨y, y6⟩ | y
      · exact .inl y
      · rw [y]; exact .inr (.inr (.inl (ylm 0 (.inl rfl) y6)))
      · exact .inr (.inr (.inr (.inr y)))
  have hfs := hf.shelf hD he (yl' := upL yl 0 y1) (d' := upD (upD d 1 (([], (d 1).2) : SDt)) 0 e0) kK2 hp' (fun i hi => by
    rcases hi with rfl | rfl
    · rw [d0, show upL yl 0 y1 0 = y1 from if_pos rfl]
      exact ⟨hS, ml.2.2.2, inn⟩
    · rw [dd1, show upL yl 0 y1 1 = yl 1 from if_neg (by decide)]
      refine ⟨⟨hA, ⟨by simp, by rw [he.n sh0.1.2.1.2.1]; exact sh0.2.1.2⟩, fun g g0 g1 => absurd g1 (by simp; omega)⟩, ⟨fun g g0 g1 => absurd g1 (by simp; omega), fun g g0 g1 => absurd g1 (by simp; omega)⟩, fun g g0 g1 => absurd g1 (by simp; omega)⟩)
  rw [hfs.1.2.1.2]
  refine q_merge hfs.1.2.1.1 xr.2.2.1 ?_
  have e31 : m 30 1 = (d 1).1.length := (shm_of lk (.inr (rfl : (1 : Int) = 1))).1
  rw [e31, show (((d 1).1.length : Int)).toNat = (d 1).1.length by omega]
  have row : ∀ r : Nat, ¬ (30 ≤ r ∧ r ≤ 38) → (up (mgL (up m 50 0 0) 0 (d 1).1.length) 30 1 0) r = (up m 50 0 0) r := fun r hr => by rw [up_r _ _ _ (by simp; omega), mgL_r hr]
  have row2 : ∀ r : Nat, r ≠ 30 → (up (mgL (up m 50 0 0) 0 (d 1).1.length) 30 1 0) r = (mgL (up m 50 0 0) 0 (d 1).1.length) r := fun r hr => up_r _ _ _ (by simpa using hr)
  have u0 : ∀ r : Nat, r ≠ 50 → (up m 50 0 0) r = m r := fun r hr => up_r _ _ _ (by simpa using hr)
  have rw0 : RWo (mgL (up m 50 0 0) 0 (d 1).1.length) := RWo.ml _ _ _ (Int.le_refl _) (by omega) ⟨fun k k0 k1 => by
    have a := xr.2.1.2.1 k k0 k1
    have a2 := xr.2.2.2.2.1 k k0 k1
    rw [u0 33 (by decide), u0 34 (by decide), u0 35 (by decide), u0 36 (by decide), u0 37 (by decide), u0 38 (by decide)]
    exact ⟨a.1, a.2, a2⟩, fun j j0 j1 => by rw [u0 32 (by decide)]; exact xr.2.2.1.2.2.1 j j0 j1, by rw [u0 30 (by decide)]; exact xr.2.1.1 0 (by decide) (by decide)⟩
  have r30 : ∀ i : Int, (i = 0 ∨ i = 1) → (up (mgL (up m 50 0 0) 0 (d 1).1.length) 30 1 0) 30 i = if i = 0 then (e0.1.length : Int) else 0 := fun i hi => by
    rcases hi with rfl | rfl
    · rw [up_ne _ (Or.inr (by decide)), if_pos rfl]; exact ml.2.1.1
    · rw [up_at]; rfl
  have s0 : shD (up (mgL (up m 50 0 0) 0 (d 1).1.length) 30 1 0) 0 e0 := ml.2.1.stay (up_ne _ (Or.inr (by decide))) (fun k k0 k1 => ⟨fun r h1 h2 => by rw [row2 r (by omega)], fun j j0 j1 => by rw [vec_row (row2 31 (by decide))], fun j j0 j1 => by rw [row2 32 (by decide)]⟩)
  have xr2 : XRo (up (mgL (up m 50 0 0) 0 (d 1).1.length) 30 1 0) F R := xr.shelf (fun r hr => by rw [row r (by omega), u0 r (by omega)]) (fun j hj => by rw [row 50 (by decide), up_ne _ (Or.inr (by omega))]) (fun i i0 i1 => by
      rw [r30 i (by omega)]
      have := hS.2.1.1
      split <;> omega) (fun k k0 k1 => by rw [row2 33 (by decide), row2 34 (by decide), row2 35 (by decide), row2 36 (by decide), row2 37 (by decide), row2 38 (by decide)]; exact rw0.1 k k0 k1) (fun j j0 j1 => by rw [row2 32 (by decide)]; exact rw0.2.1 j j0 j1) (fun i g k i0 i1 g0 g1 k0 k1 => by
      rw [r30 i (by omega)] at g1
      split at g1
      · rename_i z
        subst z
        have hg := s0.2 g g0 g1
        rw [hg.1.1] at k1
        rw [hg.2.1 k k0 k1]
        exact oke g k g0 g1 k0 k1
      · omega)
  have s1 : shD (up (mgL (up m 50 0 0) 0 (d 1).1.length) 30 1 0) 1 (([], (d 1).2) : SDt) := ⟨by rw [up_at]; rfl, fun g g0 g1 => absurd g1 (by simp; omega)⟩
  have lk1 := lk0.shelf (m' := up (mgL (up m 50 0 0) 0 (d 1).1.length) 30 1 0) (d' := upD (upD d 1 (([], (d 1).2) : SDt)) 0 e0) (fun r hr => row r (by omega)) (fun j hj => by rw [row 50 (by decide)]) (by rw [d0]; exact s0) (by rw [dd1]; exact s1)
  exact ⟨fun _ => hP _ (REL.mk ((hfs.ref hD.2.2.1.1 hD.2.2.2.2 xr2).succ (by omega)) lk1), fun z => absurd (by rw [ml.1]) z⟩
end
