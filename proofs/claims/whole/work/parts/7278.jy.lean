section
variable {D : wD} {U : wS} {a yl b g1 z0 z1 z2 : Nat} {n1 : Int} {w1 : Int → Int → Int} {mv1 : Int → Mv} {els : List Nat} {n : Int → Int} {w : Int → Int → Int → Int} {mv : Int → Int → Mv} {fr : Int → Int → Bool} {inf : Int → Nat → Int} {ys : Int → Nat × Nat × Nat}
theorem q_add_3 {post : wS → Prop} {bc bs : Nat} (hb : SHB D U b a) (hbm : wM D U b) (hS : SHC D U a yl els n w mv fr inf ys) (hG : GO D U g1 z0 z1 n1 n1 w1 mv1) (hg1 : g1 ∈ sL U ∧ sK U g1 = 8) (hF : FW D U g1 z2 n1) (hoff : offK [z2] els ys) (hbz : b ≠ z2) (h39 : els.length < 40) {K0 : List Nat} (hK0 : ∀ x ∈ K0, x = a ∨ x = yl) (hKa : a ∈ K0) (hKy : els.length < sN U yl → yl ∈ K0)
    (hbud : els.length = sN U yl → 1 ≤ bc ∧ capA (sN U yl) els.length ≤ bs)
    (k : ∀ U' yl', EX D U U' (z2 :: K0) → AL D U' a yl' (els ++ [g1]) → (yl' = yl ∨ ¬ wM D U yl') → sN U' yl' = capA (sN U yl) els.length → (∀ i : Int, 0 ≤ i → i ≤ n1 → sI U' z2 i.toNat = iI (bI (!knownC n w els.length w1 i))) → post U') :
    ∀ (f d : Nat) (j : Int) (U1 : wS), d < f → j + d = n1 + 1 → 0 ≤ j → EX D U U1 [z2] → (∀ i : Int, 0 ≤ i → i < j → sI U1 z2 i.toNat = iI (bI (!knownC n w els.length w1 i))) → wp_X10_add_2 D post f bc bs U1 b g1 (iI j) := by
  have hn := hG.2.2.1
  have gm : wM D U g1 := Or.inl hg1.1
  have kz : ∀ y, sK U y ≠ 23 → y ∉ [z2] := fun y hy z => hy (by rw [List.mem_singleton.mp z]; exact hF.2.2.1)
  have na := kz a (by rw [hS.1.1.2]; decide)
  have ny := kz yl (by rw [hS.1.2.1.2.2.1]; decide)
  have ng := kz g1 (by rw [hg1.2]; decide)
  have n0 := kz z0 (by rw [hG.1.2.2.1]; decide)
  have n1' := kz z1 (by rw [hG.2.1.2.2.1]; decide)
  have nb : b ∉ [z2] := fun z => hbz (List.mem_singleton.mp z)
  intro f
  induction f with
  | zero => intro d j U1 hd; omega
  | succ f ih =>
    intro d j U1 hd hj h0 hE hI
    have hb1 : SHB D U1 b a := ⟨by rw [hE.r hbm nb]; exact hb.1, hE.M hb.2.1, by rw [hE.k hb.2.1]; exact hb.2.2⟩
    have hS1 : SHC D U1 a yl els n w mv fr inf ys := hS.ex hE na ny hoff
    have hG1 : GO D U1 g1 z0 z1 n1 n1 w1 mv1 := GO.ex hE ng gm n0 n1' hG
    have hF1 : FW D U1 g1 z2 n1 := ⟨by rw [hE.r gm ng]; exact hF.1, hE.L hF.2.1, by rw [hE.k (Or.inl hF.2.1)]; exact hF.2.2.1, by rw [hE.n (Or.inl hF.2.1)]; exact hF.2.2.2⟩
    unfold wp_X10_add_2
    rw [hG1.2.2.2.1, iI_lt (by omega) (by omega) (by omega) (by omega)]
    refine ⟨fun q => ⟨a, hb1.1, hb1.2.1, hb1.2.2, bc, bs, Nat.le_refl _, Nat.le_refl _, ?_⟩, fun q => ?_⟩
    · have ey : sN U1 yl = sN U yl := hE.n hS.1.2.1.2.1
      refine q_addA (K := K0) hS1.1 (by omega) hS1.2.1.2 ⟨hE.L hg1.1, by rw [hE.k gm]; exact hg1.2⟩ (by rw [ey]; exact hbud) hKa (fun z => hKy (by rw [ey] at z; exact z)) fun U' yl' a1 a2 a3 a4 => ?_
      have hz : wM D U1 z2 := Or.inl (hE.L hF.2.1)
      have nz : z2 ∉ K0 := fun z => by
        rcases hK0 _ z with z | z
        · exact na (by rw [z]; simp)
        · exact ny (by rw [z]; simp)
      refine k U' yl' (hE.trans a1 (fun x _ hx => by rw [List.mem_singleton.mp hx]; exact List.mem_cons_self) (fun x _ hx => List.mem_cons_of_mem _ hx)) a2 ?_ (by rw [a4, ey]) (fun i i0 i1 => by rw [a1.i hz nz]; exact hI i i0 (by omega))
      rcases a3 with e | e
      · exact Or.inl e
      · exact Or.inr fun z => e (hE.M z)
    · refine q_isKnown hb1 hS1 hG1 (i := j) ⟨h0, by omega⟩ ?_
      have nx : ∀ t : Bool, t = !knownC n w els.length w1 j → wp_X10_add_26 D post (wp_X10_add_2 D post f) bc bs U1 b g1 (iI j) g1 (iI j) (iI (bI t)) := by
        intro t ht
        unfold wp_X10_add_26
        refine q_setFresh hF1 (by omega) ⟨h0, by omega⟩ t ?_
        intro x3 e3
        rw [e3, show (1 : Int32) = iI 1 from rfl, iI_add]
        refine ih (d - 1) (j + 1) _ (by omega) (by omega) (by omega) (hE.uI (fun _ => List.mem_singleton.mpr rfl) _ _) fun i i0 i1 => ?_
        by_cases z : i = j
        · rw [z, uI_self, ht]
        · rw [uI_j _ _ _ (by omega)]; exact hI i i0 (by omega)
      rw [bI_0]
      exact ⟨fun z => nx false (by rw [show knownC n w els.length w1 j = true by simpa using z]; rfl), fun z => nx true (by rw [z]; rfl)⟩
end
