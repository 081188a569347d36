section
variable {D : wD} {S U : wS} {o : Nat → Nat} {c c' : cM} {x : Nat} {A : Nat → Nat} {m m' m1 : xM} {F R F' R' : Int} {v v' u : Int → Int} {n n' : Int} {w w' : Int → Int → Int} {mv mv' : Int → Mv} {L W : List Int} {yb : Nat → Nat} {yl : Int → Nat} {d : Int → SDt} {ye lw : List Nat} {q q' : Int} {b Ln : Nat} {xs : Nat → Int32} {a3 a4 : Nat} {P Q : wS → Prop} {ε : Bool}
/-- the constants are none of a builder's cells -/
theorem KS.of (hD : wDok D b Ln xs) (h : CST D U) {a y : Nat} (hn : ∀ k ∈ [a, y], k ∉ D.2.1) : KS D U a y := by
  have g : ∀ i, i < 47 → D.2.2.1 i ∉ [a, y] ∧ ∀ v, sR U (D.2.2.1 i) 0 = some v → v ∉ [a, y] := fun i hi => by
    obtain ⟨a1, a2, a3, v0, a4, a5, a6, a7, a8⟩ := hD.1 i hi
    refine ⟨fun z => hn _ z a1, fun v hv z => ?_⟩
    rw [h.r (Or.inr a1) List.not_mem_nil, a4] at hv
    rw [← Option.some.inj hv] at z
    exact hn _ z a5
  have dg : DG D U := by
    obtain ⟨g1, g2, g3⟩ := h.row hD (show 4 < 6 by decide)
    refine ⟨g2, g1, fun n n0 n1 => ?_⟩
    have en : (iI n).toNatClampNeg = n.toNat := by have := iI_nat n0 (show n < 2147483648 by omega); omega
    rw [en, show D.2.2.1 104 = D.2.2.1 (100 + 4) from rfl, g3 _ (show n.toNat < 100 by omega)]
    rcases (show n = 0 ∨ n = 1 ∨ n = 2 ∨ n = 3 ∨ n = 4 ∨ n = 5 ∨ n = 6 ∨ n = 7 ∨ n = 8 ∨ n = 9 by omega) with rfl | rfl | rfl | rfl | rfl | rfl | rfl | rfl | rfl | rfl <;> decide
  refine ⟨⟨h.st hD (by decide) rfl (by decide) (by decide), g 1 (by decide)⟩, ⟨h.st hD (by decide) rfl (by decide) (by decide), g 10 (by decide)⟩, ⟨h.st hD (by decide) rfl (by decide) (by decide), g 8 (by decide)⟩, ⟨h.st hD (by decide) rfl (by decide) (by decide), g 9 (by decide)⟩, dg, fun z => hn _ z (hD.2.1 4 (by decide)).1⟩
theorem own_no (hf : HFo D S o x A lw c m F R v n w mv L W yb yl d ye q F' R') {r : Nat} (hr : r = 29 ∨ r = 49 ∨ r = 50) : ∀ k ∈ [o r, yb r], k ∉ D.2.1 := fun a ha => by
  have hp := hf.2.2.1
  rcases List.mem_cons.mp ha with z | z
  · rw [z]; exact (hp.2 _ (own_mem.mpr (.inl (by unfold clsL; rw [List.mem_append]; exact .inl (List.mem_map.mpr ⟨r, List.mem_range.mpr (by omega), rfl⟩))))).2
  · rw [List.mem_singleton.mp z]; exact (hp.2 _ (own_mem.mpr (.inl (by unfold clsL; rw [List.mem_append, List.mem_append]; right; left; rcases hr with rfl | rfl | rfl <;> simp)))).2
/-- CALL: writePaper -/
theorem call_writePaper (hD : wDok D b Ln xs) (hR : RELo D S o x A lw q ε) (hP : ∀ S', RELo D S' o x A lw (q + 1) ε → P S') : wp_X11_writePaper D (fun r S2 => wp_X12_writePaper D (DIRo P Q r) S2 x) 10 12000 S (o 0) := by
  refine REL.elim hR fun c m F R v n w mv L W yb yl d ye hf lk ev => ?_
  have e1 := hf.1.1.2
  obtain ⟨w1, w2, w3, w4, w5, w6, w7⟩ := hf.2.2.2.1.1.1
  obtain ⟨⟨t1, t2, t3⟩, ⟨t4, t5, t6, t7⟩, t8⟩ := hf.2.2.2.1.2.1
  have s50 := t8 50 (.inr (.inr rfl))
  have bb := bfr_of hf
  have t2' := t2
  rw [e1] at t2'
  rw [e1]
  refine q_writePaperC hf.1.1.1 w1 w2 w6 t2' (KS.of hD (csts hf hD c) (own_no hf (.inr (.inr rfl)))) (M := 1002) (by decide) ?_ s50.1 (fun U' y' hbl h1 h2 => ?_)
  · show sN S (yb 50) ≤ 1002 ∧ 1002 + 2 ≤ (sN S (yb 50) + 2) * 2 ^ 10 ∧ 2 * (1002 - sN S (yb 50)) ≤ 12000 + 2
    omega
  · obtain ⟨he, hy, hs⟩ := hbl
    rw [← e1] at he hy
    have pl := paperP_len (F := F) (R := R) bb.1.2 bb.2.2 v
    have hf1 := hf.txt (r := 50) (y' := y') (L' := L) (W' := paperP F R v) (.inr (.inr rfl)) hD.2.2.1.1 hD.2.2.2.2 he hy hs ⟨h1, h2⟩ ⟨fun z => absurd z (by decide), fun _ => rfl⟩ ⟨fun _ => rfl, fun z => absurd rfl z⟩ ⟨t4, by omega, t6, fun z hz => by have := hs.2.2.2.2.1 z hz; omega⟩
    rw [hf1.1.2.1.2]
    refine q_writePaper hf1.1.2.1.1 hf1.2.2.2.2.1 ?_
    rw [ev]
    have u15 : (up (ldm (up m 50 0 0)) 50 15 0) 50 15 = 0 := up_at _ _ _ _
    have s1 : KTx m (up (ldm (up m 50 0 0)) 50 15 0) := ⟨fun r hr => by rw [up_r _ _ _ (by simp; omega), ldm_r (by simp; omega), up_r _ _ _ (by simp; omega)], fun j hj => by rw [up_ne _ (Or.inr (by omega)), ldm_f _ _ rfl, up_ne _ (Or.inr (by omega))]⟩
    have s0 : KTx m (wrM (up (ldm (up m 50 0 0)) 50 15 0) (paperP F R v)) := s1.trans ⟨fun r hr => wrM_row _ _ (by simp; omega) (by simp; omega), fun j hj => wrM_50 _ _ (by omega)⟩
    have r12 : (wrM (up (ldm (up m 50 0 0)) 50 15 0) (paperP F R v)) 12 = m 12 := by rw [wrM_row _ _ rfl rfl, up_r _ _ _ rfl, ldm_r rfl, up_r _ _ _ rfl]
    have r14 : ∀ k, (wrM (up (ldm (up m 50 0 0)) 50 15 0) (paperP F R v)) 14 k = if 0 ≤ k ∧ k < (paperP F R v).length then tx (paperP F R v) k else m 14 k := fun k => by
      unfold wrM
      rw [if_neg (show ¬ ((14 : Nat) = 50 ∧ k = 15) by simp), u15]
      by_cases z : 0 ≤ k ∧ k < (paperP F R v).length
      · rw [if_pos z, if_pos ⟨rfl, z.1, by omega⟩]
        unfold tx
        congr 1
        omega
      · rw [if_neg z, if_neg (fun y => z ⟨y.2.1, by omega⟩), up_r _ _ _ rfl, ldm_r rfl, up_r _ _ _ rfl]
    have xr := hf.2.2.2.2.txt s0 (fun k k0 k1 => by rw [r12]; exact hf.2.2.2.2.2.2.2.1 k k0 k1) (fun k k0 k1 => by
      rw [r14]
      split
      · rename_i z
        have : tx (paperP F R v) k ∈ paperP F R v := by
          show (paperP F R v).getD k.toNat 0 ∈ _
          rw [getD_el (by omega)]
          exact List.getElem_mem _
        have := hs.2.2.2.2.1 _ this
        omega
      · exact hf.2.2.2.2.2.2.2.2.2.2.2.2.1 k k0 k1)
    have lk1 := lk.txt (L' := L) (W' := paperP F R v) s0 ⟨by rw [wrM_50 _ _ (by decide), up_ne _ (Or.inr (by decide)), ldm_f _ _ rfl, up_ne _ (Or.inr (by decide))]; exact lk.2.2.1.1, fun k k0 k1 => by rw [r12]; exact lk.2.2.1.2 k k0 k1⟩ ⟨by rw [wrM_15, u15]; omega, fun k k0 k1 => by rw [r14, if_pos ⟨k0, k1⟩]⟩
    exact ⟨fun _ => hP _ (REL.mk ((hf1.ref hD.2.2.1.1 hD.2.2.2.2 xr).succ (by omega)) lk1), fun z => absurd rfl z⟩
/-- CALL: writeMove -/
theorem call_writeMove (hD : wDok D b Ln xs) (hR : RELo D S o x A [a3, a4] q ε) {i : Int} (hi : i32 i) {r : wS → Int32} {hv : wS → Prop} (hvv : ∀ S', CST D S' → hv S' ∧ r S' = iI i) {bc bs : Nat} (hb : 1010 ≤ bc ∧ 12000 ≤ bs) (hP : ∀ S', RELo D S' o x A [a3, a4] (q + 1) ε → P S') :
    wp_L_writeMove D (fun r1 S2 => hv S2 ∧ wp_X12_writeMove D (fun r3 S4 => CMPo D x a3 P Q r1 r3 S4) S2 x (r S2)) bc bs S (o 0) (iI i) a3 := by
  refine REL.elim hR fun c m F R v n w mv L W yb yl d ye hf lk ev => ?_
  unfold wp_L_writeMove wp_L_writeMove_0
  refine ⟨1010, 12000, hb.1, hb.2, ?_⟩
  have e1 := hf.1.1.2
  have pe := prop_eq hf lk
  have hK := mvst_of hf lk ev
  have bb := bfr_of hf
  have nw := hf.2.2.2.1.1.1
  obtain ⟨⟨t1, t2, t3⟩, ⟨t4, t5, t6, t7⟩, t8⟩ := hf.2.2.2.1.2.1
  have s50 := t8 50 (.inr (.inr rfl))
  have t2' := t2
  rw [e1] at t2'
  have cap : ∀ k : Nat, k ≤ 7 → capK (sN S (yb 50)) 0 k = sN S (yb 50) := fun k hk => (capK_r k (sN S (yb 50)) 0 (by omega)).2.2.2 (by omega)
  rw [e1]
  refine q_writeMoveC hf.1.1.1 (CST.all hD (csts hf hD)).2.1 nw (fun z => (few_of hf z).1) t2' s50.2 hi (by decide) (fun k hk => ?_) (fun z => .inl ⟨rfl, ?_⟩) (fun z z2 => .inr ⟨rfl, ?_⟩) (fun z z2 W' eW c' U' y' sm he hy hs hn => ?_)
  · rw [cap k hk]
    omega
  · rw [← e1]
    obtain ⟨h1, h2⟩ := hvv _ hf.2.1.1
    refine ⟨h1, ?_⟩
    rw [h2, hf.1.2.1.2]
    exact q_writeMove hf.1.2.1.1 hf.2.2.2.2.1 hK hi (fun _ => err_ok hD hf lk (.inl rfl) ((SIM.rf m).ldm.up0 1) rfl hP) (fun y => by rw [pe, z] at y; exact nomatch y) (fun y => by rw [pe, z] at y; exact nomatch y)
  · have hf' := hf.query hD.2.2.2.2 (lkM_sim c F R v) (by decide)
    have lk' := lk.csim (lkM_sim c F R v) (by decide)
    obtain ⟨h1, h2⟩ := hvv _ hf'.2.1.1
    refine ⟨h1, ?_⟩
    rw [h2, hf'.1.2.1.2]
    refine q_writeMove hf'.1.2.1.1 hf'.2.2.2.2.1 hK hi (fun y => by rw [pe, z] at y; exact nomatch y) (fun _ w0 _ _ => err_ok hD hf' lk' (.inr (.inl rfl)) (((SIM.rf m).ldm.up0 2).ls _ _) (by rw [lsM_f _ _ _ _ _ rfl]; rfl) hP) (fun _ y => ?_)
    rw [ev] at y
    rw [inB_iff.mpr (by omega)] at z2
    exact nomatch z2
  · have hf' := hf.query hD.2.2.2.2 sm (by decide)
    have lk' := lk.csim sm (by decide)
    have hlen : W'.length ≤ 9 := by rw [eW]; exact sanW_len F R v _ _
    have hcap := capK_r W'.length (sN S (yb 50)) 0 (by omega)
    have hf1 := hf'.txt (r := 50) (y' := y') (L' := L) (W' := W') (.inr (.inr rfl)) hD.2.2.1.1 hD.2.2.2.2 he hy hs (by
      rw [hn]
      by_cases g : 2 * (0 + W'.length) + 2 ≤ sN S (yb 50)
      · rw [hcap.2.2.2 g]; exact s50
      · have := hcap.2.2.1 (by omega); omega) ⟨fun z => absurd z (by decide), fun _ => rfl⟩ ⟨fun _ => rfl, fun z => absurd rfl z⟩ ⟨t4, by omega, t6, fun z hz => by have := hs.2.2.2.2.1 z hz; omega⟩
    refine store_ok hD hf1 (fun S5 h5 e5 => ?_)
    obtain ⟨h1, h2⟩ := hvv _ h5.2.1.1
    refine ⟨h1, ?_⟩
    rw [h2, h5.1.2.1.2]
    refine q_writeMove h5.1.2.1.1 h5.2.2.2.2.1 hK hi (fun y => by rw [pe, z] at y; exact nomatch y) (fun _ w0 _ y => by rw [ev, z2] at y; exact nomatch y) (fun _ _ w0 t W2 m' hw0 et eW2 hm' => ?_)
    have i2 := inB_iff.mp z2
    have eWW : W2 = W' := by rw [eW2, eW, et, ev]
    subst eWW
    have sa : SIM m m' := SIM.sc ((((SIM.rf m).ldm.up0 0).ls _ _).sp i W2) hm'
    have s0 : KTx m (cpy (up m' 50 15 W2.length) 17 (12 * i) 14 0 W2.length) := (KTx.sim sa).trans ⟨fun r hr => by rw [cpy_r _ (by simp; omega), up_r _ _ _ (by simp; omega)], fun j hj => by rw [cpy_ne _ rfl, up_ne _ (Or.inr (by omega))]⟩
    have r12 : (cpy (up m' 50 15 W2.length) 17 (12 * i) 14 0 W2.length) 12 = m 12 := by rw [cpy_r _ rfl, up_r _ _ _ rfl]; exact sa.row rfl
    have r14 : ∀ k, (cpy (up m' 50 15 W2.length) 17 (12 * i) 14 0 W2.length) 14 k = if 0 ≤ k ∧ k < W2.length then tx W2 k else m 14 k := fun k => by
      by_cases g : 0 ≤ k ∧ k < W2.length
      · rw [if_pos g, cpy_at _ g.1 (by omega), up_r _ _ _ rfl, hm' 17 _ (by omega) (by omega) (by omega)]
        unfold spM
        rw [if_neg (fun y => absurd y.1 (by decide)), if_pos ⟨rfl, by omega, by omega⟩]
        unfold tx
        congr 1
        omega
      · rw [if_neg g, cpy_out _ (by omega), up_r _ _ _ rfl, sa.row (r := 14) rfl]
    have xr := hf.2.2.2.2.txt s0 (fun k k0 k1 => by rw [r12]; exact hf.2.2.2.2.2.2.2.1 k k0 k1) (fun k k0 k1 => by
      rw [r14]
      split
      · rename_i g
        have : tx W2 k ∈ W2 := by
          show W2.getD k.toNat 0 ∈ _
          rw [getD_el (by omega)]
          exact List.getElem_mem _
        have := hs.2.2.2.2.1 _ this
        omega
      · exact hf.2.2.2.2.2.2.2.2.2.2.2.2.1 k k0 k1)
    have lk1 := lk'.txt (L' := L) (W' := W2) s0 ⟨by rw [cpy_ne _ rfl, up_ne _ (Or.inr (by decide))]; exact (sa.o rfl).trans lk.2.2.1.1, fun k k0 k1 => by rw [r12]; exact lk.2.2.1.2 k k0 k1⟩ ⟨by rw [cpy_ne _ rfl, up_at], fun k k0 k1 => by rw [r14, if_pos ⟨k0, k1⟩]⟩
    have e0 : (cpy (up m' 50 15 W2.length) 17 (12 * i) 14 0 W2.length) 50 0 = 0 := by
      rw [cpy_ne _ rfl, up_ne _ (Or.inr (by decide)), hm' 50 0 (by omega) (by omega) (by omega), spM_f _ _ _ _ rfl, lsM_f _ _ _ _ _ rfl]; rfl
    refine cmp_ok (by rw [x_e0, e0]; rfl) (hP _ (REL.mk ((h5.ref hD.2.2.1.1 hD.2.2.2.2 xr).succ (by omega)) lk1)) (fun _ => ⟨(ans_ref h5 _).2, ?_⟩)
    rw [(ans_ref h5 _).1, e5]
end
