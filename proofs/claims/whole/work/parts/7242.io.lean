section
variable {D : wD} {U U' : wS} {o : Nat → Nat} {c : cM} {F R : Int} {v : Int → Int} {n : Int} {w : Int → Int → Int} {mv : Int → Mv} {L W : List Int} {yb : Nat → Nat} {yl : Int → Nat} {d : Int → SDt} {ye : List Nat} {q : Int} {K : List Nat} {ε : Bool}
/-- none of the class's cells is one of K -/
abbrev OFo (o : Nat → Nat) (yb : Nat → Nat) (yl : Int → Nat) (d : Int → SDt) (ye K : List Nat) : Prop := (∀ n, n < 52 → o n ∉ K) ∧ (yb 29 ∉ K ∧ yb 49 ∉ K ∧ yb 50 ∉ K) ∧ (∀ s : Int, (s = 0 ∨ s = 1) → yl s ∉ K ∧ offK K (d s).1 (d s).2.2.2.2.2.2) ∧ ∀ a ∈ ye, a ∉ K
theorem TXo.ex (h : TXo D U o yb L W) (he : EX D U U' K) (h1 : o 29 ∉ K ∧ o 49 ∉ K ∧ o 50 ∉ K) (h2 : yb 29 ∉ K ∧ yb 49 ∉ K ∧ yb 50 ∉ K) : TXo D U' o yb L W := by
  obtain ⟨⟨a, b, Z, z⟩, t, s⟩ := h
  refine ⟨⟨a.ex he h1.2.1 h2.2.1, b.ex he h1.2.2 h2.2.2, Z, z.ex he h1.1 h2.1⟩, t, fun r hr => ?_⟩
  have e : sN U' (yb r) = sN U (yb r) := by
    rcases hr with rfl | rfl | rfl
    · exact he.n (Or.inl z.2.1.2.1)
    · exact he.n (Or.inl a.2.1.2.1)
    · exact he.n (Or.inl b.2.1.2.1)
  rw [e]; exact s r hr
theorem ERo.ex (h : ERo D U o c F R ye q) (hm : wM D U (o 45)) (he : EX D U U' K) (h1 : o 45 ∉ K) (h2 : ∀ a ∈ ye, a ∉ K) : ERo D U' o c F R ye q := by
  obtain ⟨a, b⟩ := h
  refine ⟨a, ?_⟩
  rcases b with ⟨b1, ⟨z, z1, z2, z3, z4⟩, b3⟩ | ⟨y, y1, y2, y3, y4⟩
  · exact .inl ⟨b1, ⟨z, by rw [he.r hm h1]; exact z1, he.M z2, by rw [he.k z2]; exact z3, by rw [he.n z2]; exact z4⟩, b3⟩
  · right
    have nk : ∀ k, k < 3 → y k ∉ K := fun k hk => h2 _ (by rw [y1]; rcases (show k = 0 ∨ k = 1 ∨ k = 2 by omega) with rfl | rfl | rfl <;> simp)
    have my : ∀ k, k < 3 → wM D U (y k) := fun k hk => Or.inl (y2.1 k hk).1.1
    have e0 : ∀ k, k < 3 → ∀ j, e0S U' y k j = e0S U y k j := fun k hk j => by
      show (sI U' (y k) j.toNat).toInt = (sI U (y k) j.toNat).toInt
      rw [he.i (my k hk) (nk k hk)]
    refine ⟨y, y1, ⟨fun k hk => ⟨⟨he.L (y2.1 k hk).1.1, by rw [he.k (my k hk)]; exact (y2.1 k hk).1.2.1, by rw [he.n (my k hk)]; exact (y2.1 k hk).1.2.2⟩, by rw [he.r hm h1]; exact (y2.1 k hk).2.1, (y2.1 k hk).2.2⟩, y2.2⟩, ⟨y3.1, fun i i0 i1 => ?_, fun i i0 i1 => ?_⟩, fun kd k0 k1 k2 => ?_⟩
    · show -2 ≤ e0S U' y 0 i ∧ e0S U' y 0 i ≤ 40000
      rw [e0 0 (by decide)]; exact y3.2.1 i i0 i1
    · show -(800000 * q) ≤ e0S U' y 2 i ∧ e0S U' y 2 i ≤ 100
      rw [e0 2 (by decide)]; exact y3.2.2 i i0 i1
    · obtain ⟨g1, g2, g3⟩ := y4 kd k0 k1 k2
      refine ⟨g1, fun i hi => ?_, g3⟩
      rw [← g2 i hi]
      unfold valE
      exact e0 0 (by decide) _
theorem CLo.ex (h : CLo D U o c F R v n w mv L W yb yl d ye q) (hm : wM D U (o 45)) (he : EX D U U' K) (hK : OFo o yb yl d ye K) : CLo D U' o c F R v n w mv L W yb yl d ye q := by
  obtain ⟨a, b, s, p, e⟩ := h
  refine ⟨a, b.ex he ⟨hK.1 29 (by decide), hK.1 49 (by decide), hK.1 50 (by decide)⟩ hK.2.1, fun i hi => ⟨?_, (s i hi).2⟩, p, e.ex hm he (hK.1 45 (by decide)) hK.2.2.2⟩
  refine SHC.ex he ?_ (hK.2.2.1 i hi).1 (hK.2.2.1 i hi).2 (s i hi).1
  rcases hi with rfl | rfl
  · exact hK.1 31 (by decide)
  · exact hK.1 33 (by decide)
theorem gmC_mem {e : SDt} {g : Int} (hg : 0 ≤ g ∧ g < e.1.length) : e.1.getD g.toNat 0 ∈ gmC e ∧ (e.2.2.2.2.2.2 g).1 ∈ gmC e ∧ (e.2.2.2.2.2.2 g).2.1 ∈ gmC e ∧ (e.2.2.2.2.2.2 g).2.2 ∈ gmC e := by
  have r : g.toNat ∈ List.range e.1.length := List.mem_range.mpr (by omega)
  have eg : ((g.toNat : Nat) : Int) = g := by omega
  have m : ∀ a, a ∈ [e.1.getD g.toNat 0, (e.2.2.2.2.2.2 ((g.toNat : Nat) : Int)).1, (e.2.2.2.2.2.2 ((g.toNat : Nat) : Int)).2.1, (e.2.2.2.2.2.2 ((g.toNat : Nat) : Int)).2.2] → a ∈ gmC e := fun a ha => List.mem_flatMap.mpr ⟨g.toNat, r, ha⟩
  rw [eg] at m
  exact ⟨m _ (by simp), m _ (by simp), m _ (by simp), m _ (by simp)⟩
/-- the class's cells, in one list -/
def clsL (D : wD) (o : Nat → Nat) (yb : Nat → Nat) (yl : Int → Nat) (d : Int → SDt) (ye : List Nat) : List Nat := (List.range 52).map o ++ ([yb 29, yb 49, yb 50] ++ (ylC D yl ++ (gmC (d 0) ++ (gmC (d 1) ++ ye))))
/-- K holds no cell of the class: said by the list -/
theorem OFo.of (h : ∀ a ∈ clsL D o yb yl d ye, a ∉ K) (h6 : D.2.2.1 106 ∉ K) : OFo o yb yl d ye K := by
  have m : ∀ a, a ∈ clsL D o yb yl d ye ↔ a ∈ (List.range 52).map o ∨ a ∈ [yb 29, yb 49, yb 50] ∨ a ∈ ylC D yl ∨ a ∈ gmC (d 0) ∨ a ∈ gmC (d 1) ∨ a ∈ ye := fun a => by
    unfold clsL; simp only [List.mem_append]
  have yln : ∀ s : Int, (s = 0 ∨ s = 1) → yl s ∉ K := fun s hs => by
    by_cases c : yl s = D.2.2.1 106
    · rw [c]; exact h6
    · refine h _ ((m _).mpr (.inr (.inr (.inl ?_))))
      unfold ylC
      rw [List.mem_append]
      rcases hs with rfl | rfl
      · left; rw [if_neg c]; exact List.mem_singleton.mpr rfl
      · right; rw [if_neg c]; exact List.mem_singleton.mpr rfl
  refine ⟨fun n hn => h _ ((m _).mpr (.inl (List.mem_map.mpr ⟨n, List.mem_range.mpr hn, rfl⟩))), ⟨h _ ((m _).mpr (.inr (.inl (by simp)))), h _ ((m _).mpr (.inr (.inl (by simp)))), h _ ((m _).mpr (.inr (.inl (by simp))))⟩, fun s hs => ⟨yln s hs, fun g g0 g1 => ?_⟩, fun a ha => h _ ((m _).mpr (.inr (.inr (.inr (.inr (.inr ha))))))⟩
  obtain ⟨k1, k2, k3, k4⟩ := gmC_mem (e := d s) ⟨g0, g1⟩
  have up : ∀ a, a ∈ gmC (d s) → a ∉ K := fun a ha => by
    rcases hs with rfl | rfl
    · exact h _ ((m _).mpr (.inr (.inr (.inr (.inl ha)))))
    · exact h _ ((m _).mpr (.inr (.inr (.inr (.inr (.inl ha))))))
  exact ⟨up _ k1, up _ k2, up _ k3, up _ k4⟩
end
