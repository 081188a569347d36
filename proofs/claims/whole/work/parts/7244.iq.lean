section
variable {D : wD} {U : wS} {o : Nat → Nat} {c c' : cM} {x : Nat} {A : Nat → Nat} {m m' : xM} {F R : Int} {v : Int → Int} {n : Int} {w : Int → Int → Int} {mv : Int → Mv} {L W : List Int} {yb : Nat → Nat} {yl : Int → Nat} {d : Int → SDt} {ye : List Nat} {q : Int} {ε : Bool}
/-- the rows of the reference that the relation speaks of are kept -/
theorem XRo.sim (h : XRo m F R) (s : SIM m m') : XRo m' F R := by
  obtain ⟨⟨a1, a2, a3⟩, ⟨b1, b2, b3⟩, ⟨c1, c2, c3, c4⟩, t1, t2, t3, t4, t5, t6, t7⟩ := h
  have r30 := s.row (r := 30) rfl
  have r31 := s.row (r := 31) rfl
  have r32 := s.row (r := 32) rfl
  have r33 := s.row (r := 33) rfl
  have r34 := s.row (r := 34) rfl
  have r35 := s.row (r := 35) rfl
  have r36 := s.row (r := 36) rfl
  have r37 := s.row (r := 37) rfl
  have r38 := s.row (r := 38) rfl
  have o11 := s.o (j := 11) rfl
  have o1 := s.o (j := 1) rfl
  have o2 := s.o (j := 2) rfl
  refine ⟨⟨⟨o1.trans a1.1, o2.trans a1.2.1, a1.2.2⟩, by rw [o11]; exact a2, fun k k0 k1 => ?_⟩, ⟨fun i i0 i1 => by rw [r30]; exact b1 i i0 i1, fun k k0 k1 => by rw [r33, r34, r35]; exact b2 k k0 k1, fun i g k i0 i1 g0 g1 k0 k1 => ?_⟩, ⟨fun i i0 i1 => by rw [r30]; exact c1 i i0 i1, fun k k0 k1 => by rw [r33]; exact c2 k k0 k1, fun j j0 j1 => by rw [r32]; exact c3 j j0 j1, fun i g i0 i1 g0 g1 j j0 j1 => ?_⟩, fun k k0 k1 => by rw [s.row (r := 12) rfl]; exact t1 k k0 k1, fun k k0 k1 => by rw [r36, r37, r38]; exact t2 k k0 k1, by rw [s.row (r := 41) rfl]; exact t3, fun k k0 k1 => by rw [s.row (r := 42) rfl]; exact t4 k k0 k1, fun k k0 k1 => by rw [s.row (r := 10) rfl, s.row (r := 9) rfl]; exact t5 k k0 k1, fun k k0 k1 => by rw [s.row (r := 14) rfl]; exact t6 k k0 k1, by rw [s.row (r := 42) rfl]; exact t7⟩
  · rw [o11] at k1
    rw [s.gv k]; exact a3 k k0 k1
  · rw [r30] at g1
    rw [r33] at k1
    rw [sv_vec, vec_row r31]; exact b3 i g k i0 i1 g0 g1 k0 k1
  · rw [r30] at g1
    rw [vec_row r31]; exact c4 i g i0 i1 g0 g1 j j0 j1
theorem LKo.sim (h : LKo m c F R n w mv L W d ye ε) (s : SIM m m') : LKo m' c F R n w mv L W d ye ε := by
  obtain ⟨⟨a1, a2, a9⟩, ⟨b1, b2, b3, b4⟩, ⟨c1, c2⟩, ⟨d1, d2⟩, ⟨e1, e2, e3⟩, ⟨f1, f2⟩, g1, g2⟩ := h
  have sh : ∀ r : Nat, 30 ≤ r → r ≤ 38 → m' r = m r := fun r h1 h2 => s.row (by rcases (show r = 30 ∨ r = 31 ∨ r = 32 ∨ r = 33 ∨ r = 34 ∨ r = 35 ∨ r = 36 ∨ r = 37 ∨ r = 38 by omega) with rfl | rfl | rfl | rfl | rfl | rfl | rfl | rfl | rfl <;> rfl)
  refine ⟨⟨(s.o rfl).trans a1, (s.o rfl).trans a2, a9⟩, ⟨(s.o rfl).trans b1, fun k k0 k1 => (s.gv k).trans (b2 k k0 k1), fun k k0 k1 => by rw [s.row (r := 9) rfl]; exact b3 k k0 k1, fun k k0 k1 => by rw [s.row (r := 10) rfl]; exact b4 k k0 k1⟩, ⟨(s.o rfl).trans c1, fun k k0 k1 => by rw [s.row (r := 12) rfl]; exact c2 k k0 k1⟩, ⟨(s.o rfl).trans d1, fun k k0 k1 => by rw [s.row (r := 14) rfl]; exact d2 k k0 k1⟩, ⟨(s.o rfl).trans e1, (s.o rfl).trans e2, fun k k0 k1 => by rw [s.row (r := 40) rfl]; exact e3 k k0 k1⟩, ⟨f1.row sh, f2.row sh⟩, fun kd k0 k1 => by rw [s.row (r := 42) rfl]; exact g1 kd k0 k1, fun kd k0 k1 k2 i i0 i1 => ?_⟩
  rw [s.row (r := 42) rfl] at k2
  rw [s.row (r := 41) rfl]; exact g2 kd k0 k1 k2 i i0 i1
/-- the class's rows that the relation speaks of -/
def sgK : List Nat := [0, 1, 2, 3, 4, 5, 6, 7, 8, 9, 11, 13, 14, 15, 46, 47, 48, 51]
theorem LKo.csim {K : List Nat} (h : LKo m c F R n w mv L W d ye ε) (s : cSim K c c') (hK : ∀ k ∈ sgK, k ∉ K) : LKo m c' F R n w mv L W d ye ε := by
  obtain ⟨a, b, t, u, ⟨e1, e2, e3⟩, f, g1, g2⟩ := h
  refine ⟨a, b, t, u, ⟨by rw [(s 0 (hK 0 (by decide))).1]; exact e1, by rw [(s 0 (hK 0 (by decide))).1]; exact e2, fun k k0 k1 => by rw [(s 51 (hK 51 (by decide))).1]; exact e3 k k0 k1⟩, f, fun kd k0 k1 => by rw [(s 46 (hK 46 (by decide))).1]; exact g1 kd k0 k1, g2⟩
theorem yb_off (hp : (clsL D o yb yl d ye).Nodup) : (∀ n, n < 52 → o n ≠ yb 29 ∧ o n ≠ yb 49 ∧ o n ≠ yb 50) ∧ (∀ s : Int, (s = 0 ∨ s = 1) → offK ((List.range 52).map o) (d s).1 (d s).2.2.2.2.2.2) ∧ ∀ a ∈ ye, ∀ n, n < 52 → o n ≠ a := by
  unfold clsL at hp
  have n1 := nd_app hp
  have om : ∀ n, n < 52 → o n ∈ (List.range 52).map o := fun n hn => List.mem_map.mpr ⟨n, List.mem_range.mpr hn, rfl⟩
  have ne : ∀ a n, n < 52 → a ∈ [yb 29, yb 49, yb 50] ++ (ylC D yl ++ (gmC (d 0) ++ (gmC (d 1) ++ ye))) → o n ≠ a := fun a n hn ha z => n1 _ (om n hn) (by rw [z]; exact ha)
  have no : ∀ a, a ∈ [yb 29, yb 49, yb 50] ++ (ylC D yl ++ (gmC (d 0) ++ (gmC (d 1) ++ ye))) → a ∉ (List.range 52).map o := fun a ha z => n1 a z ha
  refine ⟨fun n hn => ⟨ne _ n hn (by simp), ne _ n hn (by simp), ne _ n hn (by simp)⟩, fun s hs g g0 g1 => ?_, fun a ha n hn => ne a n hn (by simp only [List.mem_append]; exact .inr (.inr (.inr (.inr ha))))⟩
  obtain ⟨k1, k2, k3, k4⟩ := gmC_mem (e := d s) ⟨g0, g1⟩
  have up : ∀ a, a ∈ gmC (d s) → a ∉ (List.range 52).map o := fun a ha => no a (by
    simp only [List.mem_append]
    rcases hs with rfl | rfl
    · exact .inr (.inr (.inl ha))
    · exact .inr (.inr (.inr (.inl ha))))
  exact ⟨up _ k1, up _ k2, up _ k3, up _ k4⟩
theorem cLs_sub : ∀ a, a ∈ cLs.map o → a ∈ (List.range 52).map o := fun a ha => by
  obtain ⟨n, hn, e⟩ := List.mem_map.mp ha
  exact List.mem_map.mpr ⟨n, List.mem_range.mpr (cOk_lt (by simpa [cOk] using hn)), e⟩
end
