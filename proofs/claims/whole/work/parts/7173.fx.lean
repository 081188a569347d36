/-! PHASE 3: copyWith -/
section
variable {D : wD} {U V : wS}
theorem uJ_self (U : wS) (a j : Nat) (v : Int64) : sJ (Jvm.Pilot.COpeningsCabinetLaw_law_r5693_3db0e9.uJ U a j v) a j = v := by
  show va_up (sJ U) a (va_up (sJ U a) j v) a j = v
  rw [va_up_self, va_up_self]
theorem uJ_j (U : wS) (a : Nat) {j i : Nat} (v : Int64) (h : i ≠ j) : sJ (Jvm.Pilot.COpeningsCabinetLaw_law_r5693_3db0e9.uJ U a j v) a i = sJ U a i := by
  show va_up (sJ U) a (va_up (sJ U a) j v) a i = sJ U a i
  rw [va_up_self, va_up_ne _ _ h]
theorem q_cw_16 {post : Option Nat → wS → Prop} {bc bs : Nat} {g0 z0 g y0 : Nat} {x1 x2 x3 : Int32} (hg : wM D U g ∧ sR U g 0 = some y0 ∧ y0 ∈ sL U ∧ sK U y0 = 22) (h0 : wM D U g0 ∧ sR U g0 0 = some z0 ∧ wM D U z0 ∧ sK U z0 = 22) (hgy : g ≠ y0 ∧ g0 ≠ y0 ∧ z0 ≠ y0) (hn : sN U y0 ≤ sN U z0) (h8 : sN U y0 < 1000 ∧ sN U z0 < 1000)
    (k : ∀ W, EX D U W [y0] → (∀ i : Nat, i < sN U y0 → sJ W y0 i = sJ U z0 i) → wp_X3_copyWith_58 D post bc bs W g0 x1 x2 x3 g) :
    ∀ (f d j : Nat) (W : wS), d < f → j + d = sN U y0 → EX D U W [y0] → (∀ i : Nat, i < j → sJ W y0 i = sJ U z0 i) → wp_X3_copyWith_16 D post f bc bs W g0 x1 x2 x3 g (iI j) := by
  intro f
  induction f with
  | zero => intro d j W hd; omega
  | succ f ih =>
    intro d j W hd hj hE hp
    have m0 : wM D U y0 := Or.inl hg.2.2.1
    have ng : g ∉ [y0] := by simp [hgy.1]
    have ng0 : g0 ∉ [y0] := by simp [hgy.2.1]
    have nz0 : z0 ∉ [y0] := by simp [hgy.2.2]
    have r1 : sR W g 0 = some y0 := by rw [hE.r hg.1 ng]; exact hg.2.1
    have r2 : sR W g0 0 = some z0 := by rw [hE.r h0.1 ng0]; exact h0.2.1
    have k1 : sK W y0 = 22 := by rw [hE.k m0]; exact hg.2.2.2
    have k2 : sK W z0 = 22 := by rw [hE.k h0.2.2.1]; exact h0.2.2.2
    have n1 : sN W y0 = sN U y0 := hE.n m0
    have n2 : sN W z0 = sN U z0 := hE.n h0.2.2.1
    unfold wp_X3_copyWith_16
    refine ⟨y0, r1, hE.M m0, k1, ?_⟩
    rw [n1, show Int32.ofNat (sN U y0) = iI ((sN U y0 : Nat) : Int) from rfl, iI_le (by omega) (by omega) (by omega) (by omega)]
    refine ⟨fun q => k W hE fun i hi => hp i (by omega), fun q => ⟨z0, r2, hE.M h0.2.2.1, k2, ?_⟩⟩
    rw [n2, show Int32.ofNat (sN U z0) = iI ((sN U z0 : Nat) : Int) from rfl, iI_le (by omega) (by omega) (by omega) (by omega)]
    have ej : (iI (j : Int)).toNatClampNeg = j := by have := iI_nat (a := (j : Int)) (by omega) (by omega); omega
    refine ⟨fun q => absurd q (by omega), fun _ => ⟨y0, r1, hE.M m0, k1, z0, r2, hE.M h0.2.2.1, k2, iI_in (by omega) (by omega) (by omega), hE.L hg.2.2.1, iI_in (by omega) (by omega) (by omega), ?_⟩⟩
    intro S9 e9 x10 e10
    rw [ej, hE.j h0.2.2.1 nz0] at e9
    rw [e10, show (1 : Int32) = iI 1 from rfl, iI_add]
    cases d with
    | zero => omega
    | succ d =>
      refine ih d (j + 1) S9 (by omega) (by omega) (by rw [e9]; exact hE.uJ (fun _ => by simp) _ _) fun i hi => ?_
      rw [e9]
      by_cases e : i = j
      · rw [e, uJ_self]
      · rw [uJ_j _ _ _ e]; exact hp i (by omega)
theorem q_cw_61 {post : Option Nat → wS → Prop} {bc bs : Nat} {g0 z0 g y0 : Nat} {x1 x2 x3 : Int32} (hg : wM D U g ∧ sR U g 1 = some y0 ∧ y0 ∈ sL U ∧ sK U y0 = 21) (h0 : wM D U g0 ∧ sR U g0 1 = some z0 ∧ wM D U z0 ∧ sK U z0 = 21) (hgy : g ≠ y0 ∧ g0 ≠ y0 ∧ z0 ≠ y0) (hn : sN U y0 ≤ sN U z0) (h8 : sN U y0 < 1000 ∧ sN U z0 < 1000)
    (k : ∀ W, EX D U W [y0] → (∀ i : Nat, i < sN U y0 → sI W y0 i = sI U z0 i) → wp_X3_copyWith_103 D post bc bs W g0 x1 x2 x3 g) :
    ∀ (f d j : Nat) (W : wS), d < f → j + d = sN U y0 → EX D U W [y0] → (∀ i : Nat, i < j → sI W y0 i = sI U z0 i) → wp_X3_copyWith_61 D post f bc bs W g0 x1 x2 x3 g (iI j) := by
  intro f
  induction f with
  | zero => intro d j W hd; omega
  | succ f ih =>
    intro d j W hd hj hE hp
    have m0 : wM D U y0 := Or.inl hg.2.2.1
    have ng : g ∉ [y0] := by simp [hgy.1]
    have ng0 : g0 ∉ [y0] := by simp [hgy.2.1]
    have nz0 : z0 ∉ [y0] := by simp [hgy.2.2]
    have r1 : sR W g 1 = some y0 := by rw [hE.r hg.1 ng]; exact hg.2.1
    have r2 : sR W g0 1 = some z0 := by rw [hE.r h0.1 ng0]; exact h0.2.1
    have k1 : sK W y0 = 21 := by rw [hE.k m0]; exact hg.2.2.2
    have k2 : sK W z0 = 21 := by rw [hE.k h0.2.2.1]; exact h0.2.2.2
    have n1 : sN W y0 = sN U y0 := hE.n m0
    have n2 : sN W z0 = sN U z0 := hE.n h0.2.2.1
    unfold wp_X3_copyWith_61
    refine ⟨y0, r1, hE.M m0, k1, ?_⟩
    rw [n1, show Int32.ofNat (sN U y0) = iI ((sN U y0 : Nat) : Int) from rfl, iI_le (by omega) (by omega) (by omega) (by omega)]
    refine ⟨fun q => k W hE fun i hi => hp i (by omega), fun q => ⟨z0, r2, hE.M h0.2.2.1, k2, ?_⟩⟩
    rw [n2, show Int32.ofNat (sN U z0) = iI ((sN U z0 : Nat) : Int) from rfl, iI_le (by omega) (by omega) (by omega) (by omega)]
    have ej : (iI (j : Int)).toNatClampNeg = j := by have := iI_nat (a := (j : Int)) (by omega) (by omega); omega
    refine ⟨fun q => absurd q (by omega), fun _ => ⟨y0, r1, hE.M m0, k1, z0, r2, hE.M h0.2.2.1, k2, iI_in (by omega) (by omega) (by omega), hE.L hg.2.2.1, iI_in (by omega) (by omega) (by omega), ?_⟩⟩
    intro S9 e9 x10 e10
    rw [ej, hE.i h0.2.2.1 nz0] at e9
    rw [e10, show (1 : Int32) = iI 1 from rfl, iI_add]
    cases d with
    | zero => omega
    | succ d =>
      refine ih d (j + 1) S9 (by omega) (by omega) (by rw [e9]; exact hE.uI (fun _ => by simp) _ _) fun i hi => ?_
      rw [e9]
      by_cases e : i = j
      · rw [e, uI_self]
      · rw [uI_j _ _ _ e]; exact hp i (by omega)
/-- the new game is the old one, with its data -/
theorem q_copyWith {post : Option Nat → wS → Prop} {bc bs : Nat} {g0 z0 z1 : Nat} {r n : Int} {w : Int → Int → Int} {mv : Int → Mv} (hG : GO D U g0 z0 z1 r n w mv) (hm : wM D U g0) {x1 x2 x3 : Int} (hb : 4 ≤ bc ∧ 7 * n + 15 ≤ (bs : Int))
    (k : ∀ W g y0 y1 y2, EX D U W [] → (¬ wM D U g ∧ ¬ wM D U y0 ∧ ¬ wM D U y1 ∧ ¬ wM D U y2) → g ∈ sL W ∧ sK W g = 8 → GO D W g y0 y1 n n w mv → (y0 ∈ sL W ∧ y1 ∈ sL W) → FW D W g y2 n → sI W g 4 = iI x1 ∧ sI W g 5 = iI x2 ∧ sI W g 6 = iI x3 ∧ sI W g 7 = iI 0 ∧ sI W g 8 = iI 0 → post (some g) W) :
    wp_X3_copyWith D post bc bs U g0 (iI x1) (iI x2) (iI x3) := by
  obtain ⟨⟨a1, a2, a3, a4⟩, ⟨b1, b2, b3, b4⟩, hn, h3, hS, hM⟩ := id hG
  unfold wp_X3_copyWith wp_X3_copyWith_0
  refine ⟨by omega, by omega, fun g hg S2 e2 => ⟨3, 7 * n.toNat + 6, by omega, by omega, ?_⟩⟩
  have g0g : g0 ≠ g := fun z => hg (z ▸ hm)
  have e3 : sI S2 g0 3 = iI n := by rw [e2, nA_i _ _ _ g0g]; exact h3
  rw [e3]
  refine q_newGame (by omega) hg e2 (by omega) fun V y0 y1 y2 hV => ?_
  obtain ⟨hE, hN, hk8, ⟨c1, c2, c3, c4⟩, ⟨d1, d2, d3, d4⟩, ⟨f1, f2, f3, f4⟩, i7, i8⟩ := id hV
  have gV : wM D V g := Or.inl hk8.1
  have z0y : z0 ≠ y0 := fun z => hN.2.1 (z ▸ a2)
  have g0y : g0 ≠ y0 := fun z => hN.2.1 (z ▸ hm)
  have z1y : z1 ≠ y1 := fun z => hN.2.2.1 (z ▸ b2)
  have g0y1 : g0 ≠ y1 := fun z => hN.2.2.1 (z ▸ hm)
  have gy0 : g ≠ y0 := fun z => by have := hk8.2; rw [z, c3] at this; exact absurd this (by decide)
  have gy1 : g ≠ y1 := fun z => by have := hk8.2; rw [z, d3] at this; exact absurd this (by decide)
  have y01 : y1 ≠ y0 := fun z => by rw [z, c3] at d3; exact absurd d3 (by decide)
  have y02 : y2 ≠ y0 := fun z => by rw [z, c3] at f3; exact absurd f3 (by decide)
  have y12 : y2 ≠ y1 := fun z => by rw [z, d3] at f3; exact absurd f3 (by decide)
  have nz0 : sN V z0 = sN U z0 := hE.n a2
  have nz1 : sN V z1 = sN U z1 := hE.n b2
  refine ⟨sN V y0 + 1, q_cw_16 (z0 := z0) ⟨gV, c1, c2, c3⟩ ⟨hE.M hm, by rw [hE.r hm (by simp)]; exact a1, hE.M a2, by rw [hE.k a2]; exact a3⟩ ⟨gy0, g0y, z0y⟩ (by rw [nz0]; omega) (by rw [nz0]; omega) (fun W1 hE1 h1 => ?_) (sN V y0 + 1) (sN V y0) 0 V (by omega) (by omega) EX.rf (fun i hi => by omega)⟩
  unfold wp_X3_copyWith_58
  have nb0 : ∀ b, b ≠ y0 → b ∉ [y0] := fun b h => by simp [h]
  have nb1 : ∀ b, b ≠ y1 → b ∉ [y1] := fun b h => by simp [h]
  have my1 : wM D V y1 := Or.inl d2
  have ny1 : sN W1 y1 = sN V y1 := hE1.n my1
  have nz1' : sN W1 z1 = sN V z1 := hE1.n (hE.M b2)
  have z1y0 : z1 ≠ y0 := fun z => hN.2.1 (z ▸ b2)
  refine ⟨sN W1 y1 + 1, q_cw_61 (z0 := z1) ⟨hE1.M gV, by rw [hE1.r gV (nb0 _ gy0)]; exact d1, hE1.L d2, by rw [hE1.k my1]; exact d3⟩ ⟨hE1.M (hE.M hm), by rw [hE1.r (hE.M hm) (nb0 _ g0y), hE.r hm (by simp)]; exact b1, hE1.M (hE.M b2), by rw [hE1.k (hE.M b2), hE.k b2]; exact b3⟩ ⟨gy1, g0y1, z1y⟩ (by rw [ny1, nz1', nz1]; omega) (by rw [ny1, nz1', nz1]; omega) (fun W2 hE2 h2 => ?_) (sN W1 y1 + 1) (sN W1 y1) 0 W1 (by omega) (by omega) EX.rf (fun i hi => by omega)⟩
  unfold wp_X3_copyWith_103
  intro S1 p1 S2' p2 S3 p3 S4 p4
  have gW1 : wM D W1 g := hE1.M gV
  have gW2 : wM D W2 g := hE2.M gW1
  have hm2 : wM D W2 g0 := hE2.M (hE1.M (hE.M hm))
  have ig3 : sI W2 g0 3 = iI n := by rw [hE2.i (hE1.M (hE.M hm)) (nb1 _ g0y1), hE1.i (hE.M hm) (nb0 _ g0y), hE.i hm (by simp)]; exact h3
  have ig7 : sI W2 g = sI V g := by rw [hE2.i gW1 (nb1 _ gy1), hE1.i gV (nb0 _ gy0)]
  rw [ig3] at p1
  have E4 : EX D W2 S4 [g] := by
    rw [p4, p3, p2, p1]
    have m : wM D W2 g → g ∈ [g] := fun _ => by simp
    exact (((EX.rf.uI m _ _).uI m _ _).uI m _ _).uI m _ _
  have mg : ∀ b, wM D V b → b ≠ g → b ≠ y0 → b ≠ y1 → sI S4 b = sI V b ∧ sJ S4 b = sJ V b ∧ sR S4 b = sR V b := fun b hb b1 b2 b3 => by
    have q1 := hE1.2 b hb (nb0 _ b2)
    have q2 := hE2.2 b (hE1.M hb) (nb1 _ b3)
    have q3 := E4.2 b (hE2.M (hE1.M hb)) (by simp [b1])
    exact ⟨q3.1.trans (q2.1.trans q1.1), q3.2.1.trans (q2.2.1.trans q1.2.1), q3.2.2.trans (q2.2.2.trans q1.2.2)⟩
  have tX : wX D V S4 := (hE1.1.trans hE2.1).trans E4.1
  have hEU : EX D U S4 [] := ⟨hE.1.trans tX, fun b hb _ => by
    have q0 := hE.2 b hb (by simp)
    have q1 := mg b (hE.M hb) (fun z => hN.1 (z ▸ hb)) (fun z => hN.2.1 (z ▸ hb)) (fun z => hN.2.2.1 (z ▸ hb))
    exact ⟨q1.1.trans q0.1, q1.2.1.trans q0.2.1, q1.2.2.trans q0.2.2⟩⟩
  have tk : ∀ b, wM D V b → sK S4 b = sK V b ∧ sN S4 b = sN V b := fun b hb => ⟨by rw [E4.k (hE2.M (hE1.M hb)), hE2.k (hE1.M hb), hE1.k hb], by rw [E4.n (hE2.M (hE1.M hb)), hE2.n (hE1.M hb), hE1.n hb]⟩
  have my0 : wM D V y0 := Or.inl c2
  have my2 : wM D V y2 := Or.inl f2
  have rS : sR S4 g = sR V g := by
    have : sR S4 g = sR W2 g := by rw [p4, p3, p2, p1]; rfl
    rw [this, hE2.r gW1 (nb1 _ gy1), hE1.r gV (nb0 _ gy0)]
  have J0 : ∀ i : Nat, i < sN V y0 → sJ S4 y0 i = sJ U z0 i := fun i hi => by
    have : sJ S4 y0 = sJ W2 y0 := E4.j (hE2.M (hE1.M my0)) (by simp; exact fun z => gy0 z.symm)
    rw [this, hE2.j (hE1.M my0) (nb1 _ (fun z => y01 z.symm)), h1 i hi, hE.j a2 (by simp)]
  have I1 : ∀ i : Nat, i < sN V y1 → sI S4 y1 i = sI U z1 i := fun i hi => by
    have : sI S4 y1 = sI W2 y1 := E4.i (hE2.M (hE1.M my1)) (by simp; exact fun z => gy1 z.symm)
    rw [this, h2 i (by omega), hE1.i (hE.M b2) (nb0 _ z1y0), hE.i b2 (by simp)]
  refine k S4 g y0 y1 y2 hEU hN ⟨tX.1 g hk8.1, by rw [(tk g gV).1]; exact hk8.2⟩ ⟨⟨by rw [rS]; exact c1, tX.M my0, by rw [(tk y0 my0).1]; exact c3, by rw [(tk y0 my0).2]; exact c4⟩, ⟨by rw [rS]; exact d1, tX.M my1, by rw [(tk y1 my1).1]; exact d3, by rw [(tk y1 my1).2]; exact d4⟩, ⟨by omega, by omega, by omega⟩, ?_, fun j j0 j1 => ⟨?_, (hS j j0 j1).2⟩, fun j j0 j1 => ⟨?_, (hM j j0 j1).2⟩⟩ ⟨tX.1 y0 c2, tX.1 y1 d2⟩ ⟨by rw [rS]; exact f1, tX.1 y2 f2, by rw [(tk y2 my2).1]; exact f3, by rw [(tk y2 my2).2]; exact f4⟩ ⟨?_, ?_, ?_, ?_, ?_⟩
  · rw [p4, uI_j _ _ _ (by decide), p3, uI_j _ _ _ (by decide), p2, uI_j _ _ _ (by decide), p1, uI_self]
  · have s := (hS j j0 j1).1
    have gj : ∀ a : Int, 0 ≤ a → a < (n + 1) * 5 → gJ S4 y0 a = gJ U z0 a := fun a p q => by
      have ea : ((iI a).toNatClampNeg : Int) = a := iI_nat p (by omega)
      exact J0 _ (by omega)
    exact ⟨(gj _ (by omega) (by omega)).trans s.1, (gj _ (by omega) (by omega)).trans s.2.1, (gj _ (by omega) (by omega)).trans s.2.2.1, (gj _ (by omega) (by omega)).trans s.2.2.2.1, (gj _ (by omega) (by omega)).trans s.2.2.2.2⟩
  · have s := (hM j j0 j1).1
    have ej : ((iI j).toNatClampNeg : Int) = j := iI_nat (by omega) (by omega)
    rw [I1 _ (by omega)]; exact s
  · rw [p4, uI_j _ _ _ (by decide), p3, uI_j _ _ _ (by decide), p2, uI_self]
  · rw [p4, uI_j _ _ _ (by decide), p3, uI_self]
  · rw [p4, uI_self]
  · rw [p4, uI_j _ _ _ (by decide), p3, uI_j _ _ _ (by decide), p2, uI_j _ _ _ (by decide), p1, uI_j _ _ _ (by decide), ig7]; exact i7
  · rw [p4, uI_j _ _ _ (by decide), p3, uI_j _ _ _ (by decide), p2, uI_j _ _ _ (by decide), p1, uI_j _ _ _ (by decide), ig7]; exact i8
end
