section
variable {D : wD} {U : wS} {a yl : Nat} {els : List Nat} {n : Int → Int} {w : Int → Int → Int → Int} {mv : Int → Int → Mv} {fr : Int → Int → Bool} {inf : Int → Nat → Int} {ys : Int → Nat × Nat × Nat}
/-- a field of a game anew -/
def infU (inf : Int → Nat → Int) (g : Int) (f : Nat) (v : Int) : Int → Nat → Int := fun h e => if h = g ∧ e = f then v else inf h e
theorem SHC.field (hS : SHC D U a yl els n w mv fr inf ys) (hnd : els.Nodup) {g : Int} (hg : 0 ≤ g ∧ g < els.length) {f : Nat} (hf : 4 ≤ f ∧ f ≤ 8) {x : Int} (hx : i32 x) : SHC D (uI U (els.getD g.toNat 0) f (iI x)) a yl els n w mv fr (infU inf g f x) ys := by
  have g8 := hS.g8 hg
  have he : EX D U (uI U (els.getD g.toNat 0) f (iI x)) [els.getD g.toNat 0] := EX.rf.uI (fun _ => List.mem_singleton.mpr rfl) _ _
  have nk : ∀ y, sK U y ≠ 8 → y ∉ [els.getD g.toNat 0] := fun y hy z => hy (by rw [List.mem_singleton.mp z]; exact g8.2)
  refine ⟨hS.1.ex he (nk a (by rw [hS.1.1.2]; decide)) (nk yl (by rw [hS.1.2.1.2.2.1]; decide)), hS.2.1, fun h h0 h1 => ?_⟩
  have gg := hS.2.2 h h0 h1
  have h8 := hS.g8 ⟨h0, h1⟩
  have y0 := nk (ys h).1 (by rw [gg.1.1.2.2.1]; decide)
  have y1 := nk (ys h).2.1 (by rw [gg.1.2.1.2.2.1]; decide)
  have y2 := nk (ys h).2.2 (by rw [gg.2.1.1.2.2.1]; decide)
  by_cases q : h = g
  · subst q
    have i3 : sI (uI U (els.getD h.toNat 0) f (iI x)) (els.getD h.toNat 0) 3 = sI U (els.getD h.toNat 0) 3 := uI_j _ _ _ (by omega)
    obtain ⟨⟨⟨a0, a1, a2, a3⟩, ⟨b0, b1, b2, b3⟩, c0, c1, c2, c3⟩, ⟨⟨d0, d1, d2, d3⟩, e0, e1, e2⟩, ff⟩ := gg
    refine ⟨⟨⟨a0, a1, a2, a3⟩, ⟨b0, b1, b2, b3⟩, c0, by rw [i3, c1], fun k k0 k1 => ⟨(c2 k k0 k1).1.ex he a1 y0, (c2 k k0 k1).2⟩, fun k k0 k1 => ⟨by rw [he.i b1 y1]; exact (c3 k k0 k1).1, (c3 k k0 k1).2⟩⟩, ⟨⟨d0, d1, d2, d3⟩, e0, by rw [i3, e1], fun k k0 k1 => by rw [he.i d1 y2]; exact e2 k k0 k1⟩, fun e e4 e8 => ?_⟩
    unfold infU
    by_cases z : e = f
    · rw [z, uI_self, if_pos ⟨rfl, rfl⟩]; exact ⟨rfl, hx⟩
    · rw [uI_j _ _ _ z, if_neg (fun w => z w.2)]; exact ff e e4 e8
  · have na : els.getD h.toNat 0 ∉ [els.getD g.toNat 0] := by
      intro z
      have z := List.mem_singleton.mp z
      rw [List.getD_eq_getElem?_getD, List.getD_eq_getElem?_getD, List.getElem?_eq_getElem (by omega), List.getElem?_eq_getElem (by omega)] at z
      have pw := List.pairwise_iff_getElem.mp hnd
      rcases (show h.toNat < g.toNat ∨ g.toNat < h.toNat by omega) with w | w
      · exact pw _ _ (by omega) (by omega) w (by simpa using z)
      · exact pw _ _ (by omega) (by omega) w (by simpa using z.symm)
    refine ⟨GO.ex he na h8.1 y0 y1 gg.1, FO.ex he na h8.1 y2 gg.2.1, fun e e4 e8 => ?_⟩
    rw [he.i h8.1 na]
    unfold infU
    rw [if_neg (fun w => q w.1)]
    exact gg.2.2 e e4 e8
end
