section
variable {D : wD} {S U U' : wS} {o : Nat → Nat} {c c' : cM} {x : Nat} {A : Nat → Nat} {m m' : xM} {F R F' R' : Int} {v v' : Int → Int} {n n' : Int} {w w' : Int → Int → Int} {mv mv' : Int → Mv} {L L' W W' : List Int} {yb yb' : Nat → Nat} {yl : Int → Nat} {d : Int → SDt} {ye lw K : List Nat} {q q' : Int} {b Ln : Nat} {xs : Nat → Int32} {a3 a4 y' : Nat} {P Q : wS → Prop} {ε : Bool}
theorem x_e0 (S : wS) (x : Nat) (A : Nat → Nat) (m : xM) : sI (xS S x A m) x 0 = iI (m 50 0) := by rw [x_i0]; rfl
/-- what touches the reference not at all, and of the class the cells alone that the book does not hold -/
theorem BF.ex2 (h : BF D U o c x A m) (he : EX D U U' K) (h1 : ∀ n, cOk n = true → o n ∉ K) (h2 : ∀ a, a ∈ xCs x A → a ∉ K) : BF D U' o c x A m := by
  obtain ⟨⟨a1, a2⟩, ⟨b1, b2⟩, dj⟩ := h
  have e1 := he
  have e2 := he
  rw [a2] at e1
  rw [b2] at e2
  exact ⟨ex_c a1 e1 h1, ex_x b1 e2 h2, dj⟩
theorem HPo.mk' {l l' : List Nat} (hp : HPo D U l) (he : EX D U U' K) (nd : l'.Nodup) (hm : ∀ a ∈ l', a ∈ l ∨ (a ∈ sL U' ∧ ¬ wM D U a)) : HPo D U' l' :=
  ⟨nd, fun a ha => by
    rcases hm a ha with z | ⟨z1, z2⟩
    · exact ⟨he.L (hp.2 a z).1, (hp.2 a z).2⟩
    · exact ⟨z1, fun y => z2 (Or.inr y)⟩⟩
theorem nd_swap {l1 l2 : List Nat} {a b : Nat} (h : (l1 ++ a :: l2).Nodup) (hb : b = a ∨ b ∉ l1 ++ a :: l2) : (l1 ++ b :: l2).Nodup := by
  rcases hb with rfl | hb
  · exact h
  · have h' := List.perm_middle.nodup_iff.mp h
    rw [List.nodup_cons] at h'
    refine List.perm_middle.nodup_iff.mpr (List.nodup_cons.mpr ⟨fun z => hb ?_, h'.2⟩)
    rw [List.mem_append] at z ⊢
    rcases z with z | z
    · exact .inl z
    · exact .inr (List.mem_cons_of_mem _ z)
/-- one builder's row is another -/
abbrev upY (yb : Nat → Nat) (r y' : Nat) : Nat → Nat := fun k => if k = r then y' else yb k
theorem own_upY {r : Nat} (hr : r = 29 ∨ r = 49 ∨ r = 50) : ∃ l1 l2, ownL D o x A yb yl d ye lw = l1 ++ yb r :: l2 ∧ ∀ y', ownL D o x A (upY yb r y') yl d ye lw = l1 ++ y' :: l2 := by
  rcases hr with rfl | rfl | rfl
  · exact ⟨(List.range 52).map o ++ xCs x A, yb 49 :: yb 50 :: (ylC D yl ++ (gmC (d 0) ++ (gmC (d 1) ++ (ye ++ lw)))), by unfold ownL; simp [List.append_assoc], fun y' => by unfold ownL; simp [List.append_assoc, upY]⟩
  · exact ⟨(List.range 52).map o ++ xCs x A ++ [yb 29], yb 50 :: (ylC D yl ++ (gmC (d 0) ++ (gmC (d 1) ++ (ye ++ lw)))), by unfold ownL; simp [List.append_assoc], fun y' => by unfold ownL; simp [List.append_assoc, upY]⟩
  · exact ⟨(List.range 52).map o ++ xCs x A ++ [yb 29, yb 49], (ylC D yl ++ (gmC (d 0) ++ (gmC (d 1) ++ (ye ++ lw)))), by unfold ownL; simp [List.append_assoc], fun y' => by unfold ownL; simp [List.append_assoc, upY]⟩
/-- the builder's cells are none of the others -/
theorem txt_off {r : Nat} (hr : r = 29 ∨ r = 49 ∨ r = 50) (cc : CC D U o) (nd : (clsL D o yb yl d ye).Nodup) (h6 : D.2.2.1 106 ∉ [o r, yb r]) :
    (∀ s : Int, (s = 0 ∨ s = 1) → yl s ∉ [o r, yb r] ∧ offK [o r, yb r] (d s).1 (d s).2.2.2.2.2.2) ∧ (∀ a ∈ ye, a ∉ [o r, yb r]) ∧ (∀ k, k < 52 → k ≠ r → o k ∉ [o r, yb r]) ∧ ∀ k, (k = 29 ∨ k = 49 ∨ k = 50) → k ≠ r → yb k ∉ [o r, yb r] := by
  have r52 : r < 52 := by omega
  unfold clsL at nd
  have n1 := nd_app nd
  have d1 := (List.nodup_append.mp nd).2.1
  have n2 := nd_app d1
  have om : ∀ k, k < 52 → o k ∈ (List.range 52).map o := fun k hk => List.mem_map.mpr ⟨k, List.mem_range.mpr hk, rfl⟩
  have ym : ∀ k, (k = 29 ∨ k = 49 ∨ k = 50) → yb k ∈ [yb 29, yb 49, yb 50] := fun k hk => by rcases hk with rfl | rfl | rfl <;> simp
  have rest : ∀ a, a ∈ ylC D yl ++ (gmC (d 0) ++ (gmC (d 1) ++ ye)) → a ∉ [o r, yb r] := fun a ha z => by
    rcases List.mem_cons.mp z with z | z
    · exact n1 _ (om r r52) (by rw [← z]; exact List.mem_append.mpr (.inr ha))
    · exact n2 _ (ym r hr) (by rw [← List.mem_singleton.mp z]; exact ha)
  refine ⟨fun s hs => ⟨?_, fun g g0 g1 => ?_⟩, fun a ha => rest a (by simp only [List.mem_append]; exact .inr (.inr (.inr ha))), fun k hk kr z => ?_, fun k hk kr z => ?_⟩
  · by_cases c : yl s = D.2.2.1 106
    · rw [c]; exact h6
    · refine rest _ (List.mem_append.mpr (.inl ?_))
      unfold ylC
      rw [List.mem_append]
      rcases hs with rfl | rfl
      · left; rw [if_neg c]; exact List.mem_singleton.mpr rfl
      · right; rw [if_neg c]; exact List.mem_singleton.mpr rfl
  · obtain ⟨k1, k2, k3, k4⟩ := gmC_mem (e := d s) ⟨g0, g1⟩
    have up : ∀ a, a ∈ gmC (d s) → a ∉ [o r, yb r] := fun a ha => rest a (by
      simp only [List.mem_append]
      rcases hs with rfl | rfl
      · exact .inr (.inl ha)
      · exact .inr (.inr (.inl ha)))
    exact ⟨up _ k1, up _ k2, up _ k3, up _ k4⟩
  · rcases List.mem_cons.mp z with z | z
    · exact kr (cc.2.1 k hk r r52 z)
    · exact n1 _ (om k hk) (by rw [List.mem_singleton.mp z]; exact List.mem_append.mpr (.inl (ym r hr)))
  · rcases List.mem_cons.mp z with z | z
    · exact n1 _ (om r r52) (by rw [← z]; exact List.mem_append.mpr (.inl (ym k hk)))
    · have z := List.mem_singleton.mp z
      have d3 := (List.nodup_append.mp d1).1
      simp only [List.nodup_cons, List.mem_cons, List.not_mem_nil, or_false, not_or] at d3
      rcases hr with rfl | rfl | rfl <;> rcases hk with rfl | rfl | rfl
      · exact kr rfl
      · exact d3.1.1 z.symm
      · exact d3.1.2 z.symm
      · exact d3.1.1 z
      · exact kr rfl
      · exact d3.2.1 z.symm
      · exact d3.1.2 z
      · exact d3.2.1 z
      · exact kr rfl
/-- behind a change of a builder -/
theorem HFo.txt {r : Nat} (hr : r = 29 ∨ r = 49 ∨ r = 50) (h : HFo D U o x A lw c m F R v n w mv L W yb yl d ye q F' R') (h6 : D.2.2.1 106 ∈ D.2.1) (h0 : sL D.2.2.2 = []) (he : EX D U U' [o r, yb r]) (hy : y' = yb r ∨ ¬ wM D U y') {Z : List Int} (hZ : SB U' (o r) y' Z) (hs : 16 ≤ sN U' y' ∧ sN U' y' ≤ 1002)
    (hL : (r = 49 → L' = Z) ∧ (r ≠ 49 → L' = L)) (hW : (r = 50 → W' = Z) ∧ (r ≠ 50 → W' = W)) (ht : L'.length ≤ 500 ∧ W'.length ≤ 128 ∧ (∀ z ∈ L', 32 ≤ z ∧ z ≤ 126) ∧ ∀ z ∈ W', 0 ≤ z ∧ z ≤ 127) :
    HFo D U' o x A lw c m F R v n w mv L' W' (upY yb r y') yl d ye q F' R' := by
  have nr : ∀ k, (k = 31 ∨ k = 33 ∨ k = 45) → k ≠ r := fun k hk => by omega
  obtain ⟨bf, ⟨cs1, cs2⟩, hp, cl, xr⟩ := h
  have cc := bf.1.1
  have om : ∀ k, k < 52 → o k ∈ ownL D o x A yb yl d ye lw := fun k hk => own_mem.mpr (.inl (by unfold clsL; rw [List.mem_append]; exact .inl (List.mem_map.mpr ⟨k, List.mem_range.mpr hk, rfl⟩)))
  have ym : yb r ∈ ownL D o x A yb yl d ye lw := own_mem.mpr (.inl (by unfold clsL; rw [List.mem_append, List.mem_append]; right; left; rcases hr with rfl | rfl | rfl <;> simp))
  have kn : ∀ a ∈ [o r, yb r], a ∉ D.2.1 := fun a ha => by
    rcases List.mem_cons.mp ha with z | z
    · rw [z]; exact (hp.2 _ (om r (by omega))).2
    · rw [List.mem_singleton.mp z]; exact (hp.2 _ ym).2
  have h6' : D.2.2.1 106 ∉ [o r, yb r] := fun z => kn _ z h6
  have of := txt_off hr cc (clsL_nd hp) h6'
  have r52 : r < 52 := by omega
  have ap := hp.apart
  have kc : ∀ a ∈ [o r, yb r], a ∈ clsL D o yb yl d ye := fun a ha => by
    unfold clsL
    rcases List.mem_cons.mp ha with z | z
    · rw [z, List.mem_append]; exact .inl (List.mem_map.mpr ⟨r, List.mem_range.mpr r52, rfl⟩)
    · rw [List.mem_singleton.mp z, List.mem_append, List.mem_append]; right; left; rcases hr with rfl | rfl | rfl <;> simp
  have rk : ∀ k, cOk k = true → k ≠ r := fun k hk e => by
    rw [e] at hk
    rcases hr with rfl | rfl | rfl <;> exact absurd hk (by decide)
  obtain ⟨g, ⟨⟨t1, t2, Z0, t3⟩, t4, t5⟩, s, p, e⟩ := cl
  have yu : upY yb r y' r = y' := if_pos rfl
  have yn : ∀ k, k ≠ r → upY yb r y' k = yb k := fun k hk => if_neg hk
  have tx : TXo D U' o (upY yb r y') L' W' := by
    refine ⟨⟨?_, ?_, ?_⟩, ht, fun k hk => ?_⟩
    · by_cases z : r = 49
      · rw [← z, yu, hL.1 z]; exact hZ
      · rw [yn 49 (Ne.symm z), hL.2 z]; exact t1.ex he (of.2.2.1 49 (by decide) (Ne.symm z)) (of.2.2.2 49 (.inr (.inl rfl)) (Ne.symm z))
    · by_cases z : r = 50
      · rw [← z, yu, hW.1 z]; exact hZ
      · rw [yn 50 (Ne.symm z), hW.2 z]; exact t2.ex he (of.2.2.1 50 (by decide) (Ne.symm z)) (of.2.2.2 50 (.inr (.inr rfl)) (Ne.symm z))
    · by_cases z : r = 29
      · exact ⟨Z, by rw [← z, yu]; exact hZ⟩
      · exact ⟨Z0, by rw [yn 29 (Ne.symm z)]; exact t3.ex he (of.2.2.1 29 (by decide) (Ne.symm z)) (of.2.2.2 29 (.inl rfl) (Ne.symm z))⟩
    · by_cases z : k = r
      · rw [z, yu]; exact hs
      · rw [yn k z]
        have : sN U' (yb k) = sN U (yb k) := by
          rcases hk with rfl | rfl | rfl
          · exact he.n (Or.inl t3.2.1.2.1)
          · exact he.n (Or.inl t1.2.1.2.1)
          · exact he.n (Or.inl t2.2.1.2.1)
        rw [this]; exact t5 k hk
  refine ⟨bf.ex2 he (fun k hk => of.2.2.1 k (cOk_lt hk) (rk k hk)) (fun a ha z => (ap.1 a (kc a z)).1 ha), ⟨cs1.of he kn h0, cs2.ex he⟩, ?_, ⟨g, tx, fun i hi => ⟨?_, (s i hi).2⟩, p, e.ex (Or.inl (cc.1 45 (by decide)).1) he (of.2.2.1 45 (by decide) (nr 45 (.inr (.inr rfl)))) of.2.1⟩, xr⟩
  · obtain ⟨l1, l2, e1, e2⟩ := own_upY (D := D) (o := o) (x := x) (A := A) (yb := yb) (yl := yl) (d := d) (ye := ye) (lw := lw) hr
    rw [e2 y']
    rw [e1] at hp
    have hb : y' = yb r ∨ y' ∉ l1 ++ yb r :: l2 := by
      rcases hy with z | z
      · exact .inl z
      · exact .inr fun k => z (Or.inl (hp.2 _ k).1)
    refine hp.mk' he (nd_swap hp.1 hb) (fun a ha => ?_)
    rw [List.mem_append, List.mem_cons] at ha
    rw [List.mem_append, List.mem_cons]
    rcases ha with z | z | z
    · exact .inl (.inl z)
    · rcases hy with y | y
      · exact .inl (.inr (.inl (z.trans y)))
      · rw [z]; exact .inr ⟨hZ.2.1.2.1, y⟩
    · exact .inl (.inr (.inr z))
  · refine SHC.ex he ?_ (of.1 i hi).1 (of.1 i hi).2 (s i hi).1
    rcases hi with rfl | rfl
    · exact of.2.2.1 31 (by decide) (nr 31 (.inl rfl))
    · exact of.2.2.1 33 (by decide) (nr 33 (.inr (.inl rfl)))
/-- the reference's rows that a change of a text leaves alone -/
abbrev KTx (m m' : xM) : Prop := (∀ r : Nat, (r = 8 ∨ r = 9 ∨ r = 10 ∨ (30 ≤ r ∧ r ≤ 38) ∨ r = 40 ∨ r = 41 ∨ r = 42) → m' r = m r) ∧ ∀ j : Int, (j = 1 ∨ j = 2 ∨ j = 11 ∨ j = 16 ∨ j = 39) → m' 50 j = m 50 j
theorem XRo.txt (h : XRo m F R) (s : KTx m m') (g12 : ∀ k, 0 ≤ k → k < 500 → 0 ≤ m' 12 k ∧ m' 12 k ≤ 255) (g14 : ∀ k, 0 ≤ k → k < 128 → 0 ≤ m' 14 k ∧ m' 14 k ≤ 255) : XRo m' F R := by
  obtain ⟨⟨a1, a2, a3⟩, ⟨b1, b2, b3⟩, ⟨c1, c2, c3, c4⟩, t1, t2, t3, t4, t5, t6, t7⟩ := h
  have rw3 : ∀ r : Nat, 30 ≤ r → r ≤ 38 → m' r = m r := fun r h1 h2 => s.1 r (.inr (.inr (.inr (.inl ⟨h1, h2⟩))))
  have r30 := rw3 30 (by decide) (by decide)
  have r31 := rw3 31 (by decide) (by decide)
  have r32 := rw3 32 (by decide) (by decide)
  have r33 := rw3 33 (by decide) (by decide)
  have r34 := rw3 34 (by decide) (by decide)
  have r35 := rw3 35 (by decide) (by decide)
  have r36 := rw3 36 (by decide) (by decide)
  have r37 := rw3 37 (by decide) (by decide)
  have r38 := rw3 38 (by decide) (by decide)
  have r9 := s.1 9 (by omega)
  have r10 := s.1 10 (by omega)
  have r41 := s.1 41 (by omega)
  have r42 := s.1 42 (by omega)
  have o11 := s.2 11 (by omega)
  refine ⟨⟨⟨(s.2 1 (by omega)).trans a1.1, (s.2 2 (by omega)).trans a1.2.1, a1.2.2⟩, by rw [o11]; exact a2, fun k k0 k1 => ?_⟩, ⟨fun i i0 i1 => by rw [r30]; exact b1 i i0 i1, fun k k0 k1 => by rw [r33, r34, r35]; exact b2 k k0 k1, fun i g k i0 i1 g0 g1 k0 k1 => ?_⟩, ⟨fun i i0 i1 => by rw [r30]; exact c1 i i0 i1, fun k k0 k1 => by rw [r33]; exact c2 k k0 k1, fun j j0 j1 => by rw [r32]; exact c3 j j0 j1, fun i g i0 i1 g0 g1 j j0 j1 => ?_⟩, g12, fun k k0 k1 => by rw [r36, r37, r38]; exact t2 k k0 k1, by rw [r41]; exact t3, fun k k0 k1 => by rw [r42]; exact t4 k k0 k1, fun k k0 k1 => by rw [r10, r9]; exact t5 k k0 k1, g14, by rw [r42]; exact t7⟩
  · rw [o11] at k1
    have : gv m' k = gv m k := by unfold gv; rw [vec_row (s.1 8 (.inl rfl))]
    rw [this]; exact a3 k k0 k1
  · rw [r30] at g1
    rw [r33] at k1
    rw [sv_vec, vec_row r31]; exact b3 i g k i0 i1 g0 g1 k0 k1
  · rw [r30] at g1
    rw [vec_row r31]; exact c4 i g i0 i1 g0 g1 j j0 j1
theorem LKo.txt (h : LKo m c F R n w mv L W d ye ε) (s : KTx m m') (g : m' 50 13 = L'.length ∧ ∀ k : Int, 0 ≤ k → k < L'.length → m' 12 k = tx L' k) (g2 : m' 50 15 = W'.length ∧ ∀ k : Int, 0 ≤ k → k < W'.length → m' 14 k = tx W' k) : LKo m' c F R n w mv L' W' d ye ε := by
  obtain ⟨⟨a1, a2, a9⟩, ⟨b1, b2, b3, b4⟩, -, -, ⟨e1, e2, e3⟩, ⟨f1, f2⟩, g3, g4⟩ := h
  have sh : ∀ r : Nat, 30 ≤ r → r ≤ 38 → m' r = m r := fun r h1 h2 => s.1 r (.inr (.inr (.inr (.inl ⟨h1, h2⟩))))
  have r41 := s.1 41 (by omega)
  have r42 := s.1 42 (by omega)
  have gvk : ∀ k, gv m' k = gv m k := fun k => by unfold gv; rw [vec_row (s.1 8 (.inl rfl))]
  refine ⟨⟨(s.2 1 (by omega)).trans a1, (s.2 2 (by omega)).trans a2, a9⟩, ⟨(s.2 11 (by omega)).trans b1, fun k k0 k1 => by rw [gvk]; exact b2 k k0 k1, fun k k0 k1 => by rw [s.1 9 (by omega)]; exact b3 k k0 k1, fun k k0 k1 => by rw [s.1 10 (by omega)]; exact b4 k k0 k1⟩, g, g2, ⟨(s.2 16 (by omega)).trans e1, (s.2 39 (by omega)).trans e2, fun k k0 k1 => by rw [s.1 40 (by omega)]; exact e3 k k0 k1⟩, ⟨f1.row sh, f2.row sh⟩, fun kd k0 k1 => by rw [r42]; exact g3 kd k0 k1, fun kd k0 k1 k2 i i0 i1 => ?_⟩
  rw [r42] at k2
  rw [r41]; exact g4 kd k0 k1 k2 i i0 i1
theorem KTx.sim (s : SIM m m') : KTx m m' := ⟨fun r hr => s.row (by rcases (show r = 8 ∨ r = 9 ∨ r = 10 ∨ r = 30 ∨ r = 31 ∨ r = 32 ∨ r = 33 ∨ r = 34 ∨ r = 35 ∨ r = 36 ∨ r = 37 ∨ r = 38 ∨ r = 40 ∨ r = 41 ∨ r = 42 by omega) with rfl | rfl | rfl | rfl | rfl | rfl | rfl | rfl | rfl | rfl | rfl | rfl | rfl | rfl | rfl <;> rfl), fun j hj => s.o (by rcases hj with rfl | rfl | rfl | rfl | rfl <;> rfl)⟩
theorem KTx.trans {m2 : xM} (s : KTx m m') (t : KTx m' m2) : KTx m m2 := ⟨fun r hr => (t.1 r hr).trans (s.1 r hr), fun j hj => (t.2 j hj).trans (s.2 j hj)⟩
end
