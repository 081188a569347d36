section
variable {D : wD} {U U' : wS} {o : Nat → Nat} {c c' : cM} {x : Nat} {A : Nat → Nat} {m m' : xM} {F R : Int} {v v' : Int → Int} {n n' : Int} {w w' : Int → Int → Int} {mv mv' : Int → Mv} {L L' W W' : List Int} {yb : Nat → Nat} {yl : Int → Nat} {d : Int → SDt} {ye lw : List Nat} {q q' : Int} {K K' : List Nat} {ε : Bool}
/-- both sides, each by itself -/
def HFo (D : wD) (U : wS) (o : Nat → Nat) (x : Nat) (A : Nat → Nat) (lw : List Nat) (c : cM) (m : xM) (F R : Int) (v : Int → Int) (n : Int) (w : Int → Int → Int) (mv : Int → Mv) (L W : List Int) (yb : Nat → Nat) (yl : Int → Nat) (d : Int → SDt) (ye : List Nat) (q : Int) (F' R' : Int) : Prop :=
  BF D U o c x A m ∧ (CST D U ∧ LWo D U lw) ∧ HPo D U (ownL D o x A yb yl d ye lw) ∧ CLo D U o c F R v n w mv L W yb yl d ye q ∧ XRo m F' R'
theorem own_mem {a : Nat} : a ∈ ownL D o x A yb yl d ye lw ↔ a ∈ clsL D o yb yl d ye ∨ a ∈ xCs x A ∨ a ∈ lw := by
  unfold ownL clsL
  simp only [List.mem_append]
  constructor
  · rintro (h | h | h | h | h | h | h | h)
    · exact .inl (.inl h)
    · exact .inr (.inl h)
    · exact .inl (.inr (.inl h))
    · exact .inl (.inr (.inr (.inl h)))
    · exact .inl (.inr (.inr (.inr (.inl h))))
    · exact .inl (.inr (.inr (.inr (.inr (.inl h)))))
    · exact .inl (.inr (.inr (.inr (.inr (.inr h)))))
    · exact .inr (.inr h)
  · rintro ((h | h | h | h | h | h) | h | h)
    · exact .inl h
    · exact .inr (.inr (.inl h))
    · exact .inr (.inr (.inr (.inl h)))
    · exact .inr (.inr (.inr (.inr (.inl h))))
    · exact .inr (.inr (.inr (.inr (.inr (.inl h)))))
    · exact .inr (.inr (.inr (.inr (.inr (.inr (.inl h))))))
    · exact .inr (.inl h)
    · exact .inr (.inr (.inr (.inr (.inr (.inr (.inr h))))))
theorem nd_app {l1 l2 : List Nat} (h : (l1 ++ l2).Nodup) : ∀ a, a ∈ l1 → a ∉ l2 := fun a h1 h2 => (List.nodup_append.mp h).2.2 a h1 a h2 rfl
/-- the three sorts of cells are apart -/
theorem HPo.apart (h : HPo D U (ownL D o x A yb yl d ye lw)) : (∀ a ∈ clsL D o yb yl d ye, a ∉ xCs x A ∧ a ∉ lw) ∧ (∀ a ∈ xCs x A, a ∉ lw) := by
  obtain ⟨nd, -⟩ := h
  unfold ownL at nd
  have n1 := nd_app nd
  have d1 := (List.nodup_append.mp nd).2.1
  have n2 := nd_app d1
  have d2 := (List.nodup_append.mp d1).2.1
  have n3 := nd_app d2
  have d3 := (List.nodup_append.mp d2).2.1
  have n4 := nd_app d3
  have d4 := (List.nodup_append.mp d3).2.1
  have n5 := nd_app d4
  have d5 := (List.nodup_append.mp d4).2.1
  have n6 := nd_app d5
  have d6 := (List.nodup_append.mp d5).2.1
  have n7 := nd_app d6
  refine ⟨fun a ha => ?_, fun a ha hl => n2 a ha (by simp only [List.mem_append]; exact .inr (.inr (.inr (.inr (.inr hl)))))⟩
  unfold clsL at ha
  simp only [List.mem_append] at ha
  rcases ha with h | h | h | h | h | h
  · exact ⟨fun z => n1 a h (List.mem_append.mpr (.inl z)), fun z => n1 a h (by simp only [List.mem_append]; exact .inr (.inr (.inr (.inr (.inr (.inr z))))))⟩
  · exact ⟨fun z => n2 a z (by simp only [List.mem_append]; exact .inl h), fun z => n3 a h (by simp only [List.mem_append]; exact .inr (.inr (.inr (.inr z))))⟩
  · exact ⟨fun z => n2 a z (by simp only [List.mem_append]; exact .inr (.inl h)), fun z => n4 a h (by simp only [List.mem_append]; exact .inr (.inr (.inr z)))⟩
  · exact ⟨fun z => n2 a z (by simp only [List.mem_append]; exact .inr (.inr (.inl h))), fun z => n5 a h (by simp only [List.mem_append]; exact .inr (.inr z))⟩
  · exact ⟨fun z => n2 a z (by simp only [List.mem_append]; exact .inr (.inr (.inr (.inl h)))), fun z => n6 a h (by simp only [List.mem_append]; exact .inr z)⟩
  · exact ⟨fun z => n2 a z (by simp only [List.mem_append]; exact .inr (.inr (.inr (.inr (.inl h))))), fun z => n7 a h z⟩
theorem LWo.ex (h : LWo D U lw) (he : EX D U U' K) : LWo D U' lw := fun a ha => ⟨he.M (h a ha).1, by rw [he.n (h a ha).1]; exact (h a ha).2⟩
theorem HPo.ex (h : HPo D U K) (he : EX D U U' K') : HPo D U' K := ⟨h.1, fun a ha => ⟨he.L (h.2 a ha).1, (h.2 a ha).2⟩⟩
/-- behind a call of the reference -/
theorem HFo.ref {F' R' : Int} (h : HFo D U o x A lw c m F R v n w mv L W yb yl d ye q F' R') (h6 : D.2.2.1 106 ∈ D.2.1) (h0 : sL D.2.2.2 = []) (hx : XRo m' F R) : HFo D (xS U x A m') o x A lw c m' F R v n w mv L W yb yl d ye q F R := by
  obtain ⟨b, cs, hp, cl, -⟩ := h
  have e : EX D U (xS U x A m') (xCs x A) := by
    have := x_ex (D := D) (S := U) (x := x) (A := A) m m'
    rw [← b.2.1.2] at this
    exact this
  have xn : ∀ a ∈ xCs x A, a ∉ D.2.1 := fun a ha => (hp.2 a (own_mem.mpr (.inr (.inl ha)))).2
  exact ⟨b.rf m', ⟨cs.1.of e xn h0, cs.2.ex e⟩, hp.ex e, cl.ex (Or.inl (b.1.1.1 45 (by decide)).1) e (OFo.of (fun a ha => (hp.apart.1 a ha).1) (fun z => xn _ z h6)), hx⟩
/-- behind a store of the law's own -/
theorem HFo.law {F' R' : Int} (h : HFo D U o x A lw c m F R v n w mv L W yb yl d ye q F' R') (h6 : D.2.2.1 106 ∈ D.2.1) (h0 : sL D.2.2.2 = []) (he : EX D U U' K) (hK : ∀ a ∈ K, a ∈ lw) : HFo D U' o x A lw c m F R v n w mv L W yb yl d ye q F' R' := by
  obtain ⟨b, cs, hp, cl, xr⟩ := h
  have xn : ∀ a ∈ K, a ∉ D.2.1 := fun a ha => (hp.2 a (own_mem.mpr (.inr (.inr (hK a ha))))).2
  have ap := hp.apart
  refine ⟨b.ex he (fun n hn z => ?_) (fun a ha z => ap.2 a ha (hK a z)), ⟨cs.1.of he xn h0, cs.2.ex he⟩, hp.ex he, cl.ex (Or.inl (b.1.1.1 45 (by decide)).1) he (OFo.of (fun a ha z => (ap.1 a ha).2 (hK a z)) (fun z => xn _ z h6)), xr⟩
  refine (ap.1 (o n) ?_).2 (hK _ z)
  unfold clsL
  rw [List.mem_append]
  exact .inl (List.mem_map.mpr ⟨n, List.mem_range.mpr hn, rfl⟩)
/-- behind a call of the class that changes its book alone -/
theorem HFo.cls {F' R' Fn Rn : Int} (h : HFo D U o x A lw c m F R v n w mv L W yb yl d ye q F' R') (h0 : sL D.2.2.2 = []) (hc : CLo D (cS U o c') o c' Fn Rn v' n' w' mv' L' W' yb yl d ye q') : HFo D (cS U o c') o x A lw c' m Fn Rn v' n' w' mv' L' W' yb yl d ye q' F' R' := by
  obtain ⟨b, cs, hp, cl, xr⟩ := h
  have on : ∀ n, n < 52 → o n ∉ D.2.1 := fun n hn => (hp.2 (o n) (own_mem.mpr (.inl (by unfold clsL; rw [List.mem_append]; exact .inl (List.mem_map.mpr ⟨n, List.mem_range.mpr hn, rfl⟩))))).2
  exact ⟨b.cls c', ⟨cs.1.cls on h0 b.1.2 c', cs.2⟩, hp, hc, xr⟩
end
