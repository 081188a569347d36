section
variable {D : wD} {U0 U : wS} {o : Nat → Nat} {c : cM} {xp : String → wS → Prop}
theorem q_mg_5 {post : Int32 → wS → Prop} {x b0 b1 a0 a1 y1 : Nat} {e : SDt} {K : List Nat} (hx : wM D U0 x ∧ sR U0 x 8 = some b0 ∧ sR U0 x 9 = some b1) (h0 : wM D U0 b0 ∧ sK U0 b0 = 15 ∧ SHB D U0 b0 a0) (h1 : wM D U0 b1 ∧ sK U0 b1 = 15 ∧ SHB D U0 b1 a1)
    (hK : x ∉ K ∧ b0 ∉ K ∧ b1 ∉ K ∧ a1 ∉ K ∧ y1 ∉ K) (hMK : MK K e) (ha0 : a0 ∈ K) (hA : AL D U0 a1 y1 e.1) (h40 : e.1.length ≤ 40 ∧ sN U0 y1 < 90) (hW : ∀ g : Int, 0 ≤ g → g < e.1.length → GW D U0 e g) (ho : OW e) {yl0 : Nat} (hyl : 0 < sN U0 yl0 → yl0 ∈ K) :
    ∀ (f n : Nat) (j cn : Int) (d : SDt) (bc bs yl : Nat) (U : wS), n < f → j + n = e.1.length → 0 ≤ j → 0 ≤ cn ∧ cn ≤ j → EX D U0 U K → SHD D U a0 yl d → (yl = yl0 ∨ ¬ wM D U0 yl) → DJ d e j → (∀ g : Int, j ≤ g → g < e.1.length → GW D U e g) → n ≤ bc ∧ 100 * n ≤ bs →
    (∀ U' yl', EX D U0 U' K → SHD D U' a0 yl' (mcL d e j n) → (yl' = yl0 ∨ ¬ wM D U0 yl') → wp_X10_clear D (fun S => post (iI (cn + mcN d e j n)) S) U' b1) →
    wp_X11_merge_4 D post f bc bs U x (iI cn) (iI j) := by
  intro f
  induction f with
  | zero => intro n j cn d bc bs yl U hd; omega
  | succ f ih =>
    intro n j cn d bc bs yl U hd hj j0 hcn hE hS hyl' hDJ hGW hb k
    have tr : ∀ b, wM D U0 b → b ∉ K → sR U b = sR U0 b ∧ wM D U b ∧ sK U b = sK U0 b := fun b hb nk => ⟨hE.r hb nk, hE.M hb, hE.k hb⟩
    have tx := tr x hx.1 hK.1
    have t0 := tr b0 h0.1 hK.2.1
    have t1 := tr b1 h1.1 hK.2.2.1
    have r8 : sR U x 8 = some b0 ∧ wM D U b0 ∧ sK U b0 = 15 := ⟨by rw [tx.1]; exact hx.2.1, t0.2.1, by rw [t0.2.2]; exact h0.2.1⟩
    have r9 : sR U x 9 = some b1 ∧ wM D U b1 ∧ sK U b1 = 15 := ⟨by rw [tx.1]; exact hx.2.2, t1.2.1, by rw [t1.2.2]; exact h1.2.1⟩
    have hB0 : SHB D U b0 a0 := ⟨by rw [t0.1]; exact h0.2.2.1, hE.M h0.2.2.2.1, by rw [hE.k h0.2.2.2.1]; exact h0.2.2.2.2⟩
    have hB1 : SHB D U b1 a1 := ⟨by rw [t1.1]; exact h1.2.2.1, hE.M h1.2.2.2.1, by rw [hE.k h1.2.2.2.1]; exact h1.2.2.2.2⟩
    have hA1 : AL D U a1 y1 e.1 := hA.ex hE hK.2.2.2.1 hK.2.2.2.2
    have n90 : sN U y1 < 90 := by rw [hE.n hA.2.1.2.1]; exact h40.2
    unfold wp_X11_merge_4
    refine ⟨b1, r9.1, r9.2.1, r9.2.2, ?_⟩
    refine q_sizeL hB1 hA1 ?_
    rw [iI_le (by omega) (by omega) (by omega) (by omega)]
    cases n with
    | zero =>
      refine ⟨fun _ => ⟨b1, r9.1, r9.2.1, r9.2.2, ?_⟩, fun q => absurd (by omega) q⟩
      have := k U yl hE hS hyl'
      unfold mcN at this
      rw [Int.add_zero] at this
      exact this
    | succ n =>
      refine ⟨fun q => absurd q (by omega), fun _ => ⟨b1, r9.1, r9.2.1, r9.2.2, ?_⟩⟩
      refine q_gameAtL hB1 hA1 ⟨h40.1, n90⟩ (g := j) ⟨j0, by omega⟩ ?_
      have gw := hGW j (Int.le_refl _) (by omega)
      have g8 : e.1.getD j.toNat 0 ∈ sL U ∧ sK U (e.1.getD j.toNat 0) = 8 := hA1.2.2.2.2 _ (List.mem_of_getElem? (els_at ⟨j0, by omega⟩))
      refine ⟨fun z => (nomatch z), fun y11 hy11 => ?_⟩
      injection hy11 with hy11
      subst hy11
      have d40 := hS.2.1
      have nx : mcB d e j = false → wp_X11_merge_72 D post (wp_X11_merge_4 D post f) bc bs U x (iI cn) (iI j) := fun q => by
        unfold wp_X11_merge_72
        intro x1 e1
        rw [e1, show (1 : Int32) = iI 1 from rfl, iI_add]
        have es : mcS d e j = d := by unfold mcS; rw [q]; rfl
        have hD' := hDJ.st ho ⟨j0, by omega⟩
        rw [es] at hD'
        refine ih n (j + 1) cn d bc bs yl U (by omega) (by omega) (by omega) (by omega) hE hS hyl' hD' (fun g g0 g1 => hGW g (by omega) g1) (by omega) fun U' yl' a b c => ?_
        have := k U' yl' a (by unfold mcL; rw [es]; exact b) c
        unfold mcN at this
        rw [es, q] at this
        simpa using this
      refine ⟨Or.inl g8.1, g8.2, b0, r8.1, r8.2.1, r8.2.2, ?_⟩
      refine q_sizeS hB0 hS ?_
      rw [show (40 : Int32) = iI 40 from rfl, iI_le (by decide) (by decide) (by omega) (by omega)]
      refine ⟨fun q => nx (by unfold mcB; rw [decide_eq_false (by omega)]; rfl), fun q => ⟨b0, r8.1, r8.2.1, r8.2.2, ?_⟩⟩
      refine q_hasLikeS hB0 hS gw.1 ?_
      rw [show (0 : Int32) = iI 0 from rfl, bI_z]
      refine ⟨fun q1 => nx (by unfold mcB; rw [(Bool.not_eq_false _).mp q1]; simp), fun q1 => ?_⟩
      have hmc : mcB d e j = true := by unfold mcB; rw [q1, decide_eq_true (by omega)]; rfl
      intro S21 e21 S22 e22
      have gK := hMK j j0 (by omega)
      have E2 : EX D U S22 [e.1.getD j.toNat 0] := by
        rw [e22, e21]
        exact (EX.rf.uI (fun _ => by simp) _ _).uI (fun _ => by simp) _ _
      have dj := hDJ j (Int.le_refl _) (by omega)
      have nz8 : ∀ y, sK U y ≠ 8 → y ∉ [e.1.getD j.toNat 0] := fun y hy z => hy (by rw [List.mem_singleton.mp z]; exact g8.2)
      have hS2 : SHD D S22 a0 yl d := by
        refine hS.ex E2 (nz8 _ (by rw [hS.1.1.2]; decide)) (nz8 _ (by rw [hS.1.2.1.2.2.1]; decide)) fun g g0 g1 => ?_
        have gg := hS.2.2 g g0 g1
        exact ⟨by simpa using (dj g g0 g1).1, nz8 _ (by rw [gg.1.1.2.2.1]; decide), nz8 _ (by rw [gg.1.2.1.2.2.1]; decide), nz8 _ (by rw [gg.2.1.1.2.2.1]; decide)⟩
      have hB2 : SHB D S22 b0 a0 := ⟨by rw [E2.r r8.2.1 (nz8 _ (by rw [r8.2.2]; decide))]; exact hB0.1, E2.M hB0.2.1, by rw [E2.k hB0.2.1]; exact hB0.2.2⟩
      have gm : wM D U (e.1.getD j.toNat 0) := Or.inl g8.1
      have rS : sR S22 = sR U := by rw [e22, e21]; rfl
      have jS : sJ S22 = sJ U := by rw [e22, e21]; rfl
      have gk := gw.1
      have nG : ∀ y, sK U y ≠ 8 → sI S22 y = sI U y := fun y hy => by
        have : y ≠ e.1.getD j.toNat 0 := fun z => hy (by rw [z]; exact g8.2)
        rw [e22, uI_a _ _ _ this, e21, uI_a _ _ _ this]
      have iS : ∀ f : Nat, f ≠ 7 → f ≠ 8 → sI S22 (e.1.getD j.toNat 0) f = sI U (e.1.getD j.toNat 0) f := fun f f7 f8 => by
        rw [e22, uI_j _ _ _ f8, e21, uI_j _ _ _ f7]
      have hG2 : GO D S22 (e.1.getD j.toNat 0) (e.2.2.2.2.2.2 j).1 (e.2.2.2.2.2.2 j).2.1 (e.2.1 j) (e.2.1 j) (e.2.2.1 j) (e.2.2.2.1 j) := by
        obtain ⟨⟨p1, p2, p3, p4⟩, ⟨q1, q2, q3, q4⟩, s1, s2, s3, s4⟩ := gk
        refine ⟨⟨by rw [rS]; exact p1, E2.M p2, by rw [E2.k p2]; exact p3, by rw [E2.n p2]; exact p4⟩, ⟨by rw [rS]; exact q1, E2.M q2, by rw [E2.k q2]; exact q3, by rw [E2.n q2]; exact q4⟩, s1, by rw [iS 3 (by decide) (by decide)]; exact s2, fun k k0 k1 => ?_, fun k k0 k1 => ?_⟩
        · have := s3 k k0 k1
          unfold SV gJ at this ⊢
          rw [jS]; exact this
        · rw [nG _ (by rw [q3]; decide)]; exact s4 k k0 k1
      have hF2 : FW D S22 (e.1.getD j.toNat 0) (e.2.2.2.2.2.2 j).2.2 (e.2.1 j) := ⟨by rw [rS]; exact gw.2.1.1, E2.L gw.2.1.2.1, by rw [E2.k (Or.inl gw.2.1.2.1)]; exact gw.2.1.2.2.1, by rw [E2.n (Or.inl gw.2.1.2.1)]; exact gw.2.1.2.2.2⟩
      have nz23 : ∀ y, sK S22 y ≠ 23 → y ∉ [(e.2.2.2.2.2.2 j).2.2] := fun y hy z => hy (by rw [List.mem_singleton.mp z]; exact hF2.2.2.1)
      have off2 : offK [(e.2.2.2.2.2.2 j).2.2] d.1 d.2.2.2.2.2.2 := fun g g0 g1 => by
        have gg := hS2.2.2 g g0 g1
        have gk8 := hS2.g8 (g := g) ⟨g0, g1⟩
        exact ⟨nz23 _ (by rw [gk8.2]; decide), nz23 _ (by rw [gg.1.1.2.2.1]; decide), nz23 _ (by rw [gg.1.2.1.2.2.1]; decide), by simpa using (dj g g0 g1).2⟩
      have kb0 : sK S22 b0 = 15 := by rw [E2.k r8.2.1]; exact r8.2.2
      have gg8 : e.1.getD j.toNat 0 ∈ sL S22 ∧ sK S22 (e.1.getD j.toNat 0) = 8 := ⟨E2.L g8.1, by rw [E2.k gm]; exact g8.2⟩
      have n81 := gw.1.2.2.1
      refine ⟨b0, by rw [rS]; exact r8.1, E2.M r8.2.1, kb0, 1, 100, by omega, by omega, ?_⟩
      unfold wp_X10_add wp_X10_add_0
      refine ⟨(e.2.1 j + 1).toNat + 1, q_add_3 hB2 (E2.M r8.2.1) hS2 hG2 gg8 hF2 off2 (fun z => by rw [z, hF2.2.2.1] at kb0; exact absurd kb0 (by decide)) (by omega) (K0 := if d.1.length < sN S22 yl then [a0, yl] else [a0]) (fun x hx => by split at hx <;> simp at hx <;> omega) (by split <;> simp) (fun z => by rw [if_pos z]; simp) (fun z => ⟨by omega, ?_⟩) (fun U' yl2 hE' hA' hy' hn' hmk => ?_) ((e.2.1 j + 1).toNat + 1) (e.2.1 j + 1).toNat 0 S22 (by omega) (by omega) (by decide) EX.rf (fun i i0 i1 => by omega)⟩
      · rw [← z]
        unfold capA
        split <;> (try split) <;> omega
      · have y90 : sN U' yl2 < 90 := by
          rw [hn']
          unfold capA
          have := hS2.1.2.1.2.2.2.1
          have := hS2.2.1.2
          split <;> (try split) <;> omega
        have ny2 : ∀ b, sK S22 b ≠ 23 → sK S22 b ≠ 4 → sK S22 b ≠ 24 → b ∉ (e.2.2.2.2.2.2 j).2.2 :: (if d.1.length < sN S22 yl then [a0, yl] else [a0]) := fun b e1 e2 e3 z => by
          rcases List.mem_cons.mp z with q | q
          · exact e1 (by rw [q]; exact hF2.2.2.1)
          have q : b = a0 ∨ b = yl := by split at q <;> simp at q <;> omega
          rcases q with q | q
          · exact e2 (by rw [q]; exact hS2.1.1.2)
          · exact e3 (by rw [q]; exact hS2.1.2.1.2.2.1)
        have gm2 : wM D S22 (e.1.getD j.toNat 0) := Or.inl gg8.1
        have gK2 := ny2 (e.1.getD j.toNat 0) (by rw [gg8.2]; decide) (by rw [gg8.2]; decide) (by rw [gg8.2]; decide)
        have z0K := ny2 (e.2.2.2.2.2.2 j).1 (by rw [hG2.1.2.2.1]; decide) (by rw [hG2.1.2.2.1]; decide) (by rw [hG2.1.2.2.1]; decide)
        have z1K := ny2 (e.2.2.2.2.2.2 j).2.1 (by rw [hG2.2.1.2.2.1]; decide) (by rw [hG2.2.1.2.2.1]; decide) (by rw [hG2.2.1.2.2.1]; decide)
        have hGU := GO.ex hE' gK2 gm2 z0K z1K hG2
        have hFU : FO D U' (e.1.getD j.toNat 0) (e.2.2.2.2.2.2 j).2.2 (e.2.1 j) (e.2.1 j) (fun i => !knownC d.2.1 d.2.2.1 d.1.length (e.2.2.1 j) i) := by
          have m2 : wM D S22 (e.2.2.2.2.2.2 j).2.2 := Or.inl hF2.2.1
          refine ⟨⟨by rw [hE'.r gm2 gK2]; exact hF2.1, hE'.M m2, by rw [hE'.k m2]; exact hF2.2.2.1, by rw [hE'.n m2]; exact hF2.2.2.2⟩, hGU.2.2.1, hGU.2.2.2.1, fun i i0 i1 => ?_⟩
          have ei : ((iI i).toNatClampNeg : Int) = i := iI_nat i0 (by omega)
          rw [show (iI i).toNatClampNeg = i.toNat by omega]
          exact hmk i i0 i1
        have offW : offK ((e.2.2.2.2.2.2 j).2.2 :: (if d.1.length < sN S22 yl then [a0, yl] else [a0])) d.1 d.2.2.2.2.2.2 := fun i i0 i1 => by
          have gg := hS2.2.2 i i0 i1
          have gk8 := hS2.g8 (g := i) ⟨i0, i1⟩
          refine ⟨ny2 _ (by rw [gk8.2]; decide) (by rw [gk8.2]; decide) (by rw [gk8.2]; decide), ny2 _ (by rw [gg.1.1.2.2.1]; decide) (by rw [gg.1.1.2.2.1]; decide) (by rw [gg.1.1.2.2.1]; decide), ny2 _ (by rw [gg.1.2.1.2.2.1]; decide) (by rw [gg.1.2.1.2.2.1]; decide) (by rw [gg.1.2.1.2.2.1]; decide), ?_⟩
          intro z
          have k3 := gg.2.1.1.2.2.1
          rcases List.mem_cons.mp z with q | q
          · exact (off2 i i0 i1).2.2.2 (by simp [q])
          have q : (d.2.2.2.2.2.2 i).2.2 = a0 ∨ (d.2.2.2.2.2.2 i).2.2 = yl := by split at q <;> simp at q <;> omega
          rcases q with q | q
          · rw [q, hS2.1.1.2] at k3; exact absurd k3 (by decide)
          · rw [q, hS2.1.2.1.2.2.1] at k3; exact absurd k3 (by decide)
        have hIU : ∀ f : Nat, 4 ≤ f → f ≤ 8 → sI U' (e.1.getD j.toNat 0) f = iI (if f = 7 ∨ f = 8 then 0 else e.2.2.2.2.2.1 j f) ∧ i32 (if f = 7 ∨ f = 8 then 0 else e.2.2.2.2.2.1 j f) := fun f f4 f8 => by
          rw [hE'.i gm2 gK2]
          by_cases z : f = 7 ∨ f = 8
          · rw [if_pos z]
            refine ⟨?_, by decide⟩
            rcases z with rfl | rfl
            · rw [e22, uI_j _ _ _ (by decide), e21, uI_self]
            · rw [e22, uI_self]
          · rw [if_neg z, iS f (by omega) (by omega)]; exact gw.2.2 f f4 f8
        have hSU := SHC.snoc hS2 hE' offW (by omega) hA' y90 hGU hFU hIU
        have es : mcS d e j = mcC d e j := by unfold mcS; rw [if_pos hmc]
        have hEK : EX D U0 U' K := (hE.trans E2 (K := K) (fun _ _ z => z) (fun b hb z => by rw [List.mem_singleton.mp z]; exact gK.1)).trans hE' (fun _ _ z => z) (fun b hb z => by
          rcases List.mem_cons.mp z with q | q
          · rw [q]; exact gK.2
          have q : b = a0 ∨ (b = yl ∧ 0 < sN S22 yl) := by
            split at q
            · rename_i h
              simp at q
              rcases q with q | q
              · exact .inl q
              · exact .inr ⟨q, by omega⟩
            · simp at q; exact .inl q
          rcases q with q | ⟨q, q0⟩
          · rw [q]; exact ha0
          · rcases hyl' with y | y
            · rw [q, y]
              rw [q, y] at hb
              rw [y, E2.n (hE.M hb), hE.n hb] at q0
              exact hyl q0
            · exact absurd (q ▸ hb) y)
        intro x28 e28
        unfold wp_X11_merge_72
        intro x1 e1
        rw [e1, e28, show (1 : Int32) = iI 1 from rfl, iI_add, iI_add]
        have hD' := hDJ.st ho ⟨j0, by omega⟩
        rw [es] at hD'
        refine ih n (j + 1) (cn + 1) (mcC d e j) _ _ yl2 U' (by omega) (by omega) (by omega) (by omega) hEK hSU ?_ hD' (fun g g0 g1 => ?_) (by omega) fun U'' yl'' a b c => ?_
        · rcases hy' with y | y
          · rw [y]; exact hyl'
          · exact Or.inr fun z => y (E2.M (hE.M z))
        · have w0 := hGW g (by omega) g1
          have o1 := ho j g j0 (by omega) g1
          have gk8 : e.1.getD g.toNat 0 ∈ sL U ∧ sK U (e.1.getD g.toNat 0) = 8 := hA1.2.2.2.2 _ (List.mem_of_getElem? (els_at ⟨by omega, g1⟩))
          have w2 : GW D S22 e g := GW.ex E2 (Or.inl gk8.1) (by simpa using fun z => o1.1 z.symm) (nz8 _ (by rw [w0.1.1.2.2.1]; decide)) (nz8 _ (by rw [w0.1.2.1.2.2.1]; decide)) w0
          have gk82 : e.1.getD g.toNat 0 ∈ sL S22 ∧ sK S22 (e.1.getD g.toNat 0) = 8 := ⟨E2.L gk8.1, by rw [E2.k (Or.inl gk8.1)]; exact gk8.2⟩
          exact GW.ex hE' (Or.inl gk82.1) (ny2 _ (by rw [gk82.2]; decide) (by rw [gk82.2]; decide) (by rw [gk82.2]; decide)) (ny2 _ (by rw [w2.1.1.2.2.1]; decide) (by rw [w2.1.1.2.2.1]; decide) (by rw [w2.1.1.2.2.1]; decide)) (ny2 _ (by rw [w2.1.2.1.2.2.1]; decide) (by rw [w2.1.2.1.2.2.1]; decide) (by rw [w2.1.2.1.2.2.1]; decide)) w2
        · have := k U'' yl'' a (by unfold mcL; rw [es]; exact b) c
          unfold mcN at this
          rw [es, if_pos hmc] at this
          rw [show cn + 1 + mcN (mcC d e j) e (j + 1) n = cn + (1 + mcN (mcC d e j) e (j + 1) n) by omega]
          exact this
theorem q_mergeC2 {S : wS} {post : Int32 → wS → Prop} {yl : Int → Nat} {els : Int → List Nat} {n : Int → Int → Int} {w : Int → Int → Int → Int → Int} {mv : Int → Int → Int → Mv} {fr : Int → Int → Int → Bool} {inf : Int → Int → Nat → Int} {ys : Int → Int → Nat × Nat × Nat}
    (h : CC D S o) (hS : SHL D S o c yl els n w mv fr inf ys) {K : List Nat} (hap : ∀ n, cOk n = true → o n ∉ K) (hK : o 33 ∉ K ∧ yl 1 ∉ K ∧ o 31 ∈ K ∧ (0 < sN S (yl 0) → yl 0 ∈ K)) (hMK : MK K (sdO els n w mv fr inf ys 1)) (ho : OW (sdO els n w mv fr inf ys 1)) (hd : DJ (sdO els n w mv fr inf ys 0) (sdO els n w mv fr inf ys 1) 0) (hl : ∀ g : Int, 0 ≤ g → g < (els 1).length → (ys 1 g).2.2 ∈ sL (cS S o c)) {bc bs : Nat} (hb : 40 ≤ bc ∧ 4000 ≤ bs)
    (k : ∀ U' yl', EX D (cS S o c) U' ((if (els 1).length = 0 then [o 33] else [o 33, yl 1]) ++ K) → SHD D U' (o 31) yl' (mcL (sdO els n w mv fr inf ys 0) (sdO els n w mv fr inf ys 1) 0 (els 1).length) → (yl' = yl 0 ∨ ¬ wM D (cS S o c) yl') → AL D U' (o 33) (yl 1) [] → post (iI (mcN (sdO els n w mv fr inf ys 0) (sdO els n w mv fr inf ys 1) 0 (els 1).length)) U') :
    wp_X11_merge D post bc bs (cS S o c) (o 0) := by
  have hS0 := hS 0 (Or.inl rfl)
  have hS1 := hS 1 (Or.inr rfl)
  have s0 := shb (D := D) (c := c) h (Or.inl (rfl : (0 : Int) = 0))
  have s1 := shb (D := D) (c := c) h (Or.inr (rfl : (1 : Int) = 1))
  have b0 := shk (D := D) (c := c) h (Or.inl (rfl : (0 : Int) = 0))
  have b1 := shk (D := D) (c := c) h (Or.inr (rfl : (1 : Int) = 1))
  have l1 := hS1.2.1
  have c32 : o 30 ∉ K ∧ o 32 ∉ K ∧ o 0 ∉ K := ⟨hap 30 (by decide), hap 32 (by decide), hap 0 (by decide)⟩
  unfold wp_X11_merge wp_X11_merge_0
  refine ⟨(els 1).length + 1, ?_⟩
  have hgw : ∀ g : Int, 0 ≤ g → g < (els 1).length → GW D (cS S o c) (sdO els n w mv fr inf ys 1) g := fun g g0 g1 => by
    have gg := hS1.2.2 g g0 g1
    have z := gg.2.1.1
    exact ⟨gg.1, ⟨z.1, hl g g0 g1, z.2.2.1, z.2.2.2⟩, gg.2.2⟩
  refine q_mg_5 (D := D) (U0 := cS S o c) (post := post) (x := o 0) (b0 := o 30) (b1 := o 32) (a0 := o 31) (a1 := o 33) (y1 := yl 1) (e := sdO els n w mv fr inf ys 1) (K := K)
    ⟨(c_m h (by decide)).mpr trivial, c_r h rfl, c_r h rfl⟩ ⟨b0.1, b0.2, s0⟩ ⟨b1.1, b1.2, s1⟩ ⟨c32.2.2, c32.1, c32.2.1, hK.1, hK.2.1⟩ hMK hK.2.2.1 hS1.1 l1 hgw ho (yl0 := yl 0) hK.2.2.2 ((els 1).length + 1) (els 1).length 0 0 (sdO els n w mv fr inf ys 0) bc bs (yl 0) (cS S o c) (by omega) (by simp) (by decide) (by decide) EX.rf hS0 (Or.inl rfl) hd (fun g g0 g1 => hgw g g0 g1) (by omega) fun U' yl' hE hD hy => ?_
  have h1 := ex_c h hE hap
  have A1 : AL D U' (o 33) (yl 1) (els 1) := hS1.1.ex hE hK.1 hK.2.1
  have e33 : o 33 ≠ o 31 := fun z => absurd (h.2.1 33 (by decide) 31 (by decide) z) (by decide)
  have y1ne : 0 < (els 1).length → yl' ≠ yl 1 := fun hp z => by
    rcases hy with q | q
    · have e1 : sN (cS S o c) (yl 1) = sN S (yl 1) := rfl
      have := hS1.1.2.1.2.2.2.1
      rw [e1] at this
      exact hK.2.1 (by rw [← z, q]; exact hK.2.2.2 (by rw [← q, z]; omega))
    · exact q (z ▸ hS1.1.2.1.2.1)
  rw [h1.2]
  refine q_clearS h1.1 (Or.inr (rfl : (1 : Int) = 1)) (yl := yl 1) (els := els 1) (K := if (els 1).length = 0 then [o 33] else [o 33, yl 1]) (by rw [← h1.2]; exact A1) (by
      have e : sN U' (yl 1) = sN (cS S o c) (yl 1) := hE.n hS1.1.2.1.2.1
      have := l1.2
      omega) (by show o 33 ∈ _; split <;> simp) (fun z => by rw [if_neg z]; simp) fun U'' hE2 hA2 => ?_
  rw [← h1.2] at hE2
  have nk : ∀ b, sK U' b ≠ 4 → (sK U' b ≠ 24 ∨ (0 < (els 1).length → b ≠ yl 1)) → b ∉ (if (els 1).length = 0 then [o 33] else [o 33, yl 1]) := fun b k4 k24 z => by
    split at z
    · simp at z; exact k4 (by rw [z]; exact A1.1.2)
    next hq =>
      simp at z
      rcases z with q | q
      · exact k4 (by rw [q]; exact A1.1.2)
      · rcases k24 with r | r
        · exact r (by rw [q]; exact A1.2.1.2.2.1)
        · exact r (by omega) q
  have a31 : o 31 ∉ (if (els 1).length = 0 then [o 33] else [o 33, yl 1]) := fun z => by
    split at z
    · simp at z; exact e33 z.symm
    · simp at z
      rcases z with q | q
      · exact e33 q.symm
      · have k1 := hD.1.1.2
        rw [q, A1.2.1.2.2.1] at k1; exact absurd k1 (by decide)
  have hD2 := hD.ex hE2 a31 (nk _ (by rw [hD.1.2.1.2.2.1]; decide) (Or.inr y1ne)) (fun g g0 g1 => by
    have gg := hD.2.2 g g0 g1
    have g8 := hD.g8 (g := g) ⟨g0, g1⟩
    exact ⟨nk _ (by rw [g8.2]; decide) (Or.inl (by rw [g8.2]; decide)), nk _ (by rw [gg.1.1.2.2.1]; decide) (Or.inl (by rw [gg.1.1.2.2.1]; decide)), nk _ (by rw [gg.1.2.1.2.2.1]; decide) (Or.inl (by rw [gg.1.2.1.2.2.1]; decide)), nk _ (by rw [gg.2.1.1.2.2.1]; decide) (Or.inl (by rw [gg.2.1.1.2.2.1]; decide))⟩)
  rw [Int.zero_add]
  refine k U'' yl' (hE.trans hE2 (fun _ _ z => List.mem_append_right _ z) (fun b _ z => List.mem_append_left _ z)) hD2 hy hA2
end
