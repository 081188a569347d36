section
variable {D : wD} {U U' S : wS} {o : Nat → Nat} {c : cM} {F R : Int} {v : Int → Int} {xp : String → wS → Prop} {K : List Nat}
theorem q_addGameC2 {post : Int32 → wS → Prop} {pn : Int} {pw : Int → Int → Int} {pm : Int → Mv} {yl : Int → Nat} {els : Int → List Nat} {n : Int → Int → Int} {w : Int → Int → Int → Int → Int} {mv : Int → Int → Int → Mv} {fr : Int → Int → Int → Bool} {inf : Int → Int → Nat → Int} {ys : Int → Int → Nat × Nat × Nat}
    (h : CC D S o) (hB : BG c F R) (hv : okV F R v) (hb : brd F R v) (hA : PAt c 11 v) (hL : GL c F R v) (hG : PG c pn pw pm) (hS : SHL D S o c yl els n w mv fr inf ys) {s x1 x2 x3 : Int} (hs : i32 s) (h1 : i32 x1) (h2 : i32 x2) (h3 : i32 x3) {bc bs : Nat} (hbud : 7 ≤ bc ∧ 700 ≤ bs) {K0 : List Nat} (hK0 : ∀ x ∈ K0, x = o (slO s) ∨ x = yl s) (hKa : o (slO s) ∈ K0) (hKy : (els s).length < sN S (yl s) → yl s ∈ K0)
    (k0 : inB s 0 1 = false → xp "java/lang/IndexOutOfBoundsException" (cS S o c)) (k1 : inB s 0 1 = true → (inB x1 0 2 && inB x2 1800 2100 && inB x3 0 3500) = false → xp "java/lang/IllegalArgumentException" (cS S o c))
    (k2 : inB s 0 1 = true → (inB x1 0 2 && inB x2 1800 2100 && inB x3 0 3500) = true → properB F R v = false → xp "java/lang/IllegalStateException" (cS S o c))
    (k3 : inB s 0 1 = true → (inB x1 0 2 && inB x2 1800 2100 && inB x3 0 3500) = true → properB F R v = true → ∀ U', EX D (cS S o c) U' [] → (els s).length = 40 → xp "java/lang/IllegalStateException" U')
    (k4 : inB s 0 1 = true → (inB x1 0 2 && inB x2 1800 2100 && inB x3 0 3500) = true → properB F R v = true → (els s).length < 40 → ∀ U' yl' g z0 z1 z2, EX D (cS S o c) U' K0 → (yl' = yl s ∨ ¬ wM D (cS S o c) yl') → (¬ wM D (cS S o c) g ∧ ¬ wM D (cS S o c) z0 ∧ ¬ wM D (cS S o c) z1 ∧ ¬ wM D (cS S o c) z2) →
      SHC D U' (o (slO s)) yl' (els s ++ [g]) (upN (n s) (els s).length pn) (upN (w s) (els s).length pw) (upN (mv s) (els s).length pm) (upN (fr s) (els s).length (fun i => !knownC (n s) (w s) (els s).length pw i)) (upN (inf s) (els s).length (infN x1 x2 x3)) (upN (ys s) (els s).length (z0, z1, z2)) →
      post (iI (els s).length) U') : wp_X11_addGame D post xp bc bs (cS S o c) (o 0) (iI s) (iI x1) (iI x2) (iI x3) := by
  have p80 := hG.2.1
  unfold wp_X11_addGame wp_X11_addGame_0
  refine ⟨by omega, by omega, q_shelfOf h hs k0 fun q => ?_⟩
  have k1 := k1 q
  have k2 := k2 q
  have k3 := k3 q
  have k4 := k4 q
  have sq := in01.mp q
  have sk := shk (D := D) (c := c) h sq
  have no : (inB x1 0 2 && inB x2 1800 2100 && inB x3 0 3500) = false → wp_X11_addGame_43 D post xp (bc - 1) (bs - 6) (cS S o c) := fun z => by
    unfold wp_X11_addGame_43
    exact ⟨by omega, by omega, k1 z⟩
  have nb : ∀ z : ¬ ((0 ≤ x1 ∧ x1 ≤ 2) ∧ (1800 ≤ x2 ∧ x2 ≤ 2100) ∧ 0 ≤ x3 ∧ x3 ≤ 3500), (inB x1 0 2 && inB x2 1800 2100 && inB x3 0 3500) = false := fun z => by
    cases hq : (inB x1 0 2 && inB x2 1800 2100 && inB x3 0 3500) with
    | false => rfl
    | true =>
      rw [Bool.and_eq_true, Bool.and_eq_true] at hq
      exact absurd ⟨inB_iff.mp hq.1.1, inB_iff.mp hq.1.2, inB_iff.mp hq.2⟩ z
  rw [show (0 : Int32) = iI 0 from rfl, show (2 : Int32) = iI 2 from rfl, show (1800 : Int32) = iI 1800 from rfl, show (2100 : Int32) = iI 2100 from rfl, show (3500 : Int32) = iI 3500 from rfl, show (40 : Int32) = iI 40 from rfl, show (1 : Int32) = iI 1 from rfl]
  rw [iI_lt h1.1 h1.2 (by decide) (by decide), iI_lt (by decide) (by decide) h1.1 h1.2, iI_lt h2.1 h2.2 (by decide) (by decide), iI_lt (by decide) (by decide) h2.1 h2.2, iI_lt h3.1 h3.2 (by decide) (by decide), iI_le h3.1 h3.2 (by decide) (by decide)]
  refine ⟨fun z => no (nb (by omega)), fun z1 => ⟨fun z => no (nb (by omega)), fun z2 => ⟨fun z => no (nb (by omega)), fun z3 => ⟨fun z => no (nb (by omega)), fun z4 => ⟨fun z => no (nb (by omega)), fun z5 => ⟨fun z6 => ⟨by omega, by omega, ?_⟩, fun z => no (nb (by omega))⟩⟩⟩⟩⟩⟩
  have hin : (inB x1 0 2 && inB x2 1800 2100 && inB x3 0 3500) = true := by
    rw [Bool.and_eq_true, Bool.and_eq_true]
    exact ⟨⟨inB_iff.mpr ⟨by omega, by omega⟩, inB_iff.mpr ⟨by omega, by omega⟩⟩, inB_iff.mpr ⟨by omega, by omega⟩⟩
  refine q_mustBeLawful h hB hv hb hA hL (k2 hin) fun hpr => ?_
  have k3 := k3 hin hpr
  have k4 := k4 hin hpr
  have hSs := hS s sq
  have l40 := hSs.2.1.1
  have l90 := hSs.2.1.2
  have hbS := shb (D := D) (c := c) h sq
  refine ⟨o (sbO s), rfl, sk.1, sk.2, ?_⟩
  refine q_sizeS hbS hSs ?_
  rw [iI_lt (by omega) (by omega) (by decide) (by decide)]
  refine ⟨fun q40 => ⟨o 13, c_r h rfl, (c_m h (by decide)).mpr trivial, c_k h (by decide), 4, 575, by omega, by omega, ?_⟩, fun q40 => ⟨by omega, by omega, k3 _ EX.rf (by omega)⟩⟩
  have hGO := PG.go (D := D) (S := S) (o := o) h hG
  refine q_copyWith hGO ((c_m h (by decide)).mpr trivial) ⟨by omega, by omega⟩ fun W g y0 y1 y2 hE hN hg hGn hl hF hI => ?_
  refine ⟨g, rfl, Or.inl hg.1, hg.2, bc - 1 - 1 - 4, bs - 6 - 6 - 575, Nat.le_refl _, Nat.le_refl _, ?_⟩
  have hSW : SHC D W (o (slO s)) (yl s) (els s) (n s) (w s) (mv s) (fr s) (inf s) (ys s) := hSs.ex hE (by simp) (by simp) (fun _ _ _ => by simp)
  have hbW : SHB D W (o (sbO s)) (o (slO s)) := ⟨by rw [hE.r sk.1 (by simp)]; exact hbS.1, hE.M hbS.2.1, by rw [hE.k hbS.2.1]; exact hbS.2.2⟩
  have mb : wM D W (o (sbO s)) := hE.M sk.1
  have bz : o (sbO s) ≠ y2 := fun z => hN.2.2.2 (z ▸ sk.1)
  have ylW : sN W (yl s) = sN (cS S o c) (yl s) := hE.n hSs.1.2.1.2.1
  have kz : ∀ b, wM D (cS S o c) b → b ∉ [y2] := fun b hb z => hN.2.2.2 (List.mem_singleton.mp z ▸ hb)
  have off2 : offK [y2] (els s) (ys s) := fun i i0 i1 => by
    have gg := hSs.2.2 i i0 i1
    exact ⟨kz _ (hSs.g8 ⟨i0, i1⟩).1, kz _ gg.1.1.2.1, kz _ gg.1.2.1.2.1, kz _ gg.2.1.1.2.1⟩
  unfold wp_X10_add wp_X10_add_0
  refine ⟨(pn + 1).toNat + 1, q_add_3 hbW mb hSW hGn hg hF off2 bz (by omega) (K0 := K0) hK0 hKa (fun z => hKy (by rw [ylW] at z; exact z)) (fun e => ?_) (fun U' yl' hE' hA' hy' hn' hmk => ?_) ((pn + 1).toNat + 1) (pn + 1).toNat 0 W (by omega) (by omega) (by decide) EX.rf (fun i i0 i1 => by omega)⟩
  · rw [← e]
    refine ⟨by omega, ?_⟩
    unfold capA
    split <;> (try split) <;> omega
  · have ylU : sN U' yl' < 90 := by
      rw [hn', ylW]
      unfold capA
      have := hSs.1.2.1.2.2.2.1
      split <;> (try split) <;> omega
    have mU : ∀ b, wM D (cS S o c) b → wM D U' b := fun b hb => hE'.M (hE.M hb)
    have hEU : EX D (cS S o c) U' K0 := hE.trans hE' (fun _ _ hx => by simp at hx) (fun b hb hx => by
      rcases List.mem_cons.mp hx with e | e
      · exact absurd (e ▸ hb) hN.2.2.2
      · exact e)
    have ny2 : ∀ b, sK W b ≠ 23 → sK W b ≠ 4 → sK W b ≠ 24 → b ∉ y2 :: K0 := fun b e1 e2 e3 z => by
      rcases List.mem_cons.mp z with e | e
      · exact e1 (by rw [e]; exact hF.2.2.1)
      rcases hK0 _ e with e | e
      · exact e2 (by rw [e]; exact hSW.1.1.2)
      · exact e3 (by rw [e]; exact hSW.1.2.1.2.2.1)
    have gm : wM D W g := Or.inl hg.1
    have gK := ny2 g (by rw [hg.2]; decide) (by rw [hg.2]; decide) (by rw [hg.2]; decide)
    have y0K := ny2 y0 (by rw [hGn.1.2.2.1]; decide) (by rw [hGn.1.2.2.1]; decide) (by rw [hGn.1.2.2.1]; decide)
    have y1K := ny2 y1 (by rw [hGn.2.1.2.2.1]; decide) (by rw [hGn.2.1.2.2.1]; decide) (by rw [hGn.2.1.2.2.1]; decide)
    have hGU : GO D U' g y0 y1 pn pn pw pm := GO.ex hE' gK gm y0K y1K hGn
    have hFU : FO D U' g y2 pn pn (fun i => !knownC (n s) (w s) (els s).length pw i) := by
      have m2 : wM D W y2 := Or.inl hF.2.1
      refine ⟨⟨by rw [hE'.r gm gK]; exact hF.1, hE'.M m2, by rw [hE'.k m2]; exact hF.2.2.1, by rw [hE'.n m2]; exact hF.2.2.2⟩, hGU.2.2.1, hGU.2.2.2.1, fun i i0 i1 => ?_⟩
      have ei : ((iI i).toNatClampNeg : Int) = i := iI_nat i0 (by omega)
      rw [show (iI i).toNatClampNeg = i.toNat by omega]
      exact hmk i i0 i1
    have offW : offK (y2 :: K0) (els s) (ys s) := fun i i0 i1 => by
      have gg := hSW.2.2 i i0 i1
      have g8 := hSW.g8 (g := i) ⟨i0, i1⟩
      refine ⟨ny2 _ (by rw [g8.2]; decide) (by rw [g8.2]; decide) (by rw [g8.2]; decide), ny2 _ (by rw [gg.1.1.2.2.1]; decide) (by rw [gg.1.1.2.2.1]; decide) (by rw [gg.1.1.2.2.1]; decide), ny2 _ (by rw [gg.1.2.1.2.2.1]; decide) (by rw [gg.1.2.1.2.2.1]; decide) (by rw [gg.1.2.1.2.2.1]; decide), ?_⟩
      intro z
      have k3 := gg.2.1.1.2.2.1
      rcases List.mem_cons.mp z with e | e
      · exact (off2 i i0 i1).2.2.2 (by simp [e])
      rcases hK0 _ e with e | e
      · rw [e, hSW.1.1.2] at k3; exact absurd k3 (by decide)
      · rw [e, hSW.1.2.1.2.2.1] at k3; exact absurd k3 (by decide)
    have hIU : ∀ f : Nat, 4 ≤ f → f ≤ 8 → sI U' g f = iI (infN x1 x2 x3 f) ∧ i32 (infN x1 x2 x3 f) := fun f f4 f8 => by
      rw [hE'.i gm gK]
      rcases (show f = 4 ∨ f = 5 ∨ f = 6 ∨ f = 7 ∨ f = 8 by omega) with rfl | rfl | rfl | rfl | rfl
      · exact ⟨hI.1, h1⟩
      · exact ⟨hI.2.1, h2⟩
      · exact ⟨hI.2.2.1, h3⟩
      · exact ⟨hI.2.2.2.1, show i32 (0 : Int) by decide⟩
      · exact ⟨hI.2.2.2.2, show i32 (0 : Int) by decide⟩
    have hSU := SHC.snoc hSW hE' offW (by omega) hA' ylU hGU hFU hIU
    have hbU : SHB D U' (o (sbO s)) (o (slO s)) := by
      have nb := ny2 (o (sbO s)) (by rw [hE.k sk.1, sk.2]; decide) (by rw [hE.k sk.1, sk.2]; decide) (by rw [hE.k sk.1, sk.2]; decide)
      exact ⟨by rw [hE'.r mb nb]; exact hbW.1, hE'.M hbW.2.1, by rw [hE'.k hbW.2.1]; exact hbW.2.2⟩
    refine q_sizeS hbU hSU ?_
    rw [iI_sub, show ((((els s ++ [g]).length : Nat) : Int) - 1) = (els s).length by simp]
    refine k4 (by omega) U' yl' g y0 y1 y2 hEU ?_ hN hSU
    rcases hy' with e | e
    · exact Or.inl e
    · exact Or.inr fun z => e (hE.M z)
end
