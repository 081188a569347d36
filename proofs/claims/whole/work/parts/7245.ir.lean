section
variable {D : wD} {U : wS} {o : Nat → Nat} {c c' : cM} {x : Nat} {A : Nat → Nat} {m m' : xM} {F R F' R' : Int} {v v' : Int → Int} {n n' : Int} {w w' : Int → Int → Int} {mv mv' : Int → Mv} {L W : List Int} {yb : Nat → Nat} {yl : Int → Nat} {d : Int → SDt} {ye lw : List Nat} {q q' : Int} {ε : Bool}
theorem bookX (hu : U = cS U o c) (c' : cM) : EX D U (cS U o c') (cLs.map o) := by
  have e := c_ex (D := D) (S := U) (o := o) c c'
  rw [← hu] at e
  exact e
theorem noK (h : CC D U o) {k : Nat} (hk : k < 52) (hc : cOk k = false) : o k ∉ cLs.map o := fun z => by
  obtain ⟨m, hm, e⟩ := List.mem_map.mp z
  have hm' : cOk m = true := by simpa [cOk] using hm
  have := h.2.1 m (cOk_lt hm') k hk e
  rw [this, hc] at hm'
  exact nomatch hm'
theorem TXo.book (h : TXo D U o yb L W) (cc : CC D U o) (hu : U = cS U o c) (nd : (clsL D o yb yl d ye).Nodup) (c' : cM) : TXo D (cS U o c') o yb L W := by
  have yo := (yb_off nd).1
  have ny : ∀ a, (∀ n, n < 52 → o n ≠ a) → a ∉ cLs.map o := fun a ha z => by
    obtain ⟨k, hk, e⟩ := List.mem_map.mp (cLs_sub a z)
    exact ha k (List.mem_range.mp hk) e
  exact h.ex (bookX hu c') ⟨noK cc (by decide) (by decide), noK cc (by decide) (by decide), noK cc (by decide) (by decide)⟩ ⟨ny _ fun n hn => (yo n hn).1, ny _ fun n hn => (yo n hn).2.1, ny _ fun n hn => (yo n hn).2.2⟩
theorem SHD.book {s : Int} (hs : s = 0 ∨ s = 1) (h : SHD D U (o (slO s)) (yl s) (d s)) (cc : CC D U o) (hu : U = cS U o c) (nd : (clsL D o yb yl d ye).Nodup) (c' : cM) : SHD D (cS U o c') (o (slO s)) (yl s) (d s) := by
  refine SHC.ex (bookX hu c') ?_ ?_ ?_ h
  · rcases hs with rfl | rfl
    · exact noK cc (k := 31) (by decide) (by decide)
    · exact noK cc (k := 33) (by decide) (by decide)
  · intro z
    obtain ⟨k, hk, e⟩ := List.mem_map.mp z
    have hk' : cOk k = true := by simpa [cOk] using hk
    have k1 := (cc.1 k (cOk_lt hk')).2.1
    have k2 : sK U (yl s) = 24 := h.1.2.1.2.2.1
    rw [e, k2] at k1
    have key : ∀ k ∈ cLs, ckd k ≠ 24 := by decide
    exact key k hk k1.symm
  · intro g g0 g1
    have := (yb_off nd).2.1 s hs g g0 g1
    exact ⟨fun z => this.1 (cLs_sub _ z), fun z => this.2.1 (cLs_sub _ z), fun z => this.2.2.1 (cLs_sub _ z), fun z => this.2.2.2 (cLs_sub _ z)⟩
theorem ERo.book (h : ERo D U o c F R ye q) (hu : U = cS U o c) (nd : (clsL D o yb yl d ye).Nodup) (h46 : c'.1 46 = c.1 46) (h47 : c'.1 47 = c.1 47) (h48 : c'.1 48 = c.1 48) : ERo D (cS U o c') o c' F R ye q := by
  obtain ⟨a, b⟩ := h
  refine ⟨fun k k0 k1 => by rw [h46]; exact a k k0 k1, ?_⟩
  rcases b with ⟨b1, b2, b3⟩ | ⟨y, y1, y2, y3, y4⟩
  · exact .inl ⟨b1, b2, fun k k0 k1 => by rw [h46]; exact b3 k k0 k1⟩
  · right
    have ny : ∀ k, k < 3 → y k ∉ cLs.map o := fun k hk z => by
      obtain ⟨j, hj, e⟩ := List.mem_map.mp (cLs_sub _ z)
      exact (yb_off nd).2.2 (y k) (by rw [y1]; rcases (show k = 0 ∨ k = 1 ∨ k = 2 by omega) with rfl | rfl | rfl <;> simp) j (List.mem_range.mp hj) e
    have e0 : ∀ k, k < 3 → ∀ j, e0S (cS U o c') y k j = e0S U y k j := fun k hk j => by
      show (sI (cS U o c') (y k) j.toNat).toInt = (sI U (y k) j.toNat).toInt
      rw [(bookX (D := D) hu c').i (Or.inl (y2.1 k hk).1.1) (ny k hk)]
    refine ⟨y, y1, y2, ⟨y3.1, fun i i0 i1 => ?_, fun i i0 i1 => ?_⟩, fun kd k0 k1 k2 => ?_⟩
    · show -2 ≤ e0S (cS U o c') y 0 i ∧ e0S (cS U o c') y 0 i ≤ 40000
      rw [e0 0 (by decide)]; exact y3.2.1 i i0 i1
    · show -(800000 * q) ≤ e0S (cS U o c') y 2 i ∧ e0S (cS U o c') y 2 i ≤ 100
      rw [e0 2 (by decide)]; exact y3.2.2 i i0 i1
    · rw [h46] at k2
      obtain ⟨g1, g2, g3⟩ := y4 kd k0 k1 k2
      rw [h47, h48]
      refine ⟨g1, fun i hi => ?_, g3⟩
      rw [← g2 i hi]
      unfold valE
      exact e0 0 (by decide) _
/-- the book alone is laid anew -/
theorem CLo.book (h : CLo D U o c F R v n w mv L W yb yl d ye q) (cc : CC D U o) (hu : U = cS U o c) (nd : (clsL D o yb yl d ye).Nodup)
    (g : NOW c' F R v' ∧ PG c' n' w' mv' ∧ w' n' = v' ∧ GMo F R n' w' mv') (h46 : c'.1 46 = c.1 46) (h47 : c'.1 47 = c.1 47) (h48 : c'.1 48 = c.1 48) (r : (∀ k : Int, 0 ≤ k → k < 64 → 0 ≤ c'.1 51 k ∧ c'.1 51 k ≤ 15) ∧ i32 (c'.1 0 16) ∧ 0 ≤ c'.1 0 17 ∧ c'.1 0 17 ≤ q) : CLo D (cS U o c') o c' F R v' n' w' mv' L W yb yl d ye q := by
  obtain ⟨-, b, s, -, e⟩ := h
  exact ⟨g, b.book cc hu nd c', fun i hi => ⟨SHD.book hi (s i hi).1 cc hu nd c', (s i hi).2⟩, r, e.book hu nd h46 h47 h48⟩
theorem clsL_nd (h : HPo D U (ownL D o x A yb yl d ye lw)) : (clsL D o yb yl d ye).Nodup := by
  have nd := h.1
  unfold ownL at nd
  unfold clsL
  have d1 := List.nodup_append.mp nd
  have d2 := List.nodup_append.mp d1.2.1
  have ea : [yb 29, yb 49, yb 50] ++ (ylC D yl ++ (gmC (d 0) ++ (gmC (d 1) ++ (ye ++ lw)))) = ([yb 29, yb 49, yb 50] ++ (ylC D yl ++ (gmC (d 0) ++ (gmC (d 1) ++ ye)))) ++ lw := by simp only [List.append_assoc]
  have d3 := d2.2.1
  rw [ea] at d3
  have d4 := (List.nodup_append.mp d3).1
  refine List.nodup_append.mpr ⟨d1.1, d4, fun a ha b hb => d1.2.2 a ha b ?_⟩
  rw [List.mem_append]
  right
  rw [ea, List.mem_append]
  exact .inl hb
end
