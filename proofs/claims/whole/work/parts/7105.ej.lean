theorem kind_eq {x y s : Int} (hx : 0 ≤ x ∧ x ≤ 12) (hy : 0 ≤ y ∧ y ≤ 12) (h1 : isOfB x s = true) (h2 : isOfB y s = true) (hs : s = 0 ∨ s = 1) : (kindO x = kindO y) = (x = y) := by
  apply propext
  rcases hs with rfl | rfl <;> rcases kind_cases hx with e | e | e | e | e | e | e | e | e | e | e | e | e <;> subst e <;> first | exact absurd h1 (by decide) | (rcases kind_cases hy with e | e | e | e | e | e | e | e | e | e | e | e | e <;> subst e <;> first | exact absurd h2 (by decide) | decide)
theorem bI_or : ∀ f g : Bool, iI (bI f) ||| iI (bI g) = iI (bI (f || g)) := by decide
section
variable {D : wD} {S : wS} {o : Nat → Nat} {c : cM} {F R : Int} {v : Int → Int}
theorem q_fileName {post : Int64 → wS → Prop} (h : CC D S o) (hB : BG c F R) {a : Int} (ha : 0 ≤ a ∧ a < F * R) (k : post (zI (fileC F a)) (cS S o c)) : wp_X4_fileName D post (cS S o c) (o 17) (iI a) := by
  have h4 := hB.f4; have h8 := hB.f8
  have g1 := Int.emod_lt_of_pos a (show 0 < F by omega)
  have g0 := Int.emod_nonneg a (show F ≠ 0 by omega)
  unfold wp_X4_fileName wp_X4_fileName_0
  refine ⟨o 1, c_r h rfl, (c_m h (by decide)).mpr trivial, c_k h (by decide), ?_⟩
  refine q_fileAt h hB ha ?_
  rw [show (97 : Int32) = iI 97 from rfl, iI_add, zI_of (by omega) (by omega)]
  exact k
theorem q_rankName {post : Int64 → wS → Prop} (h : CC D S o) (hB : BG c F R) {a : Int} (ha : 0 ≤ a ∧ a < F * R) (k : post (zI (rankC F a)) (cS S o c)) : wp_X4_rankName D post (cS S o c) (o 17) (iI a) := by
  have h4 := hB.f4; have h8 := hB.f8
  have hm := hB.m
  have g0 := Int.ediv_nonneg ha.1 (show 0 ≤ F by omega)
  have g1 : a / F ≤ a := Int.ediv_le_self _ ha.1
  unfold wp_X4_rankName wp_X4_rankName_0
  refine ⟨o 1, c_r h rfl, (c_m h (by decide)).mpr trivial, c_k h (by decide), ?_⟩
  refine q_rankAt h hB ha ?_
  rw [show (49 : Int32) = iI 49 from rfl, iI_add, zI_of (by omega) (by omega)]
  exact k
theorem q_origin_18 {post : Int64 → wS → Prop} (h : CC D S o) (hB : BG c F R) (hv : okV F R v) (hL : LK c F R v) (hf : few F R v) {t : Mv} (ok : okMv F R v t) {x1 : Int64} {x3 : Int32} (e3 : x3 = iI (mcode t)) :
    ∀ (n d : Nat) (j : Int) (fo ff fr : Bool), d < n → j + d = (movesL F R v).length → 0 ≤ j →
    (∀ q : Bool × Bool × Bool, q = disL F v (movesL F R v) t.1 t.2.1 j fo ff fr d → wp_X4_withOrigin_158 D post (cS S o c) (o 17) x1 (iI t.1) (iI (bI q.1)) (iI (bI q.2.1)) (iI (bI q.2.2))) →
    wp_X4_withOrigin_18 D post n (cS S o c) (o 17) x1 x3 (iI (kindO (v t.1))) (iI t.1) (iI (bI fo)) (iI (bI ff)) (iI (bI fr)) (iI j) := by
  have hm := hB.m
  have h4 := hB.f4; have h8 := hB.f8
  have hs : v 64 = 0 ∨ v 64 = 1 := by have := hv.s; omega
  have len : ((movesL F R v).length : Int) ≤ 320 := hf
  have mt := ok.m hm.2
  intro n
  induction n with
  | zero => intro d j fo ff fr hd; omega
  | succ n ih =>
    intro d j fo ff fr hd hj h0 k
    unfold wp_X4_withOrigin_18
    rw [c_i1 h (by decide) (show ((7 : Nat) : Int) = 7 from rfl), hL.2.2, iI_le (by omega) (by omega) (by omega) (by omega)]
    refine ⟨fun q => ?_, fun q => ⟨o 20, c_r h rfl, (c_m h (by decide)).mpr trivial, c_k h (by decide), ?_⟩⟩
    · rw [show d = 0 by omega] at k
      exact k _ rfl
    · obtain ⟨d', rfl⟩ : ∃ d', d = d' + 1 := ⟨d - 1, by omega⟩
      have sn : Int32.ofNat (sN (cS S o c) (o 20)) = iI 1728 := by rw [c_n h (by decide)]; rfl
      rw [sn, iI_le (by decide) (by decide) (by omega) (by omega)]
      have w := c_wrow (D := D) (c := c) h (g := 20) (by decide) h0 (show j < ((cln 20 : Nat) : Int) by have : ((cln 20 : Nat) : Int) = 1728 := rfl; omega) (by decide)
      refine ⟨fun z => absurd z (by omega), fun _ => ⟨o 20, c_r h rfl, (c_m h (by decide)).mpr trivial, c_k h (by decide), w.2, ?_⟩⟩
      have okj := movesL_mem (F := F) (R := R) (v := v) (by omega) (getD_mem (L := movesL F R v) (k := j) ⟨h0, by omega⟩)
      have e20 : sI (cS S o c) (o 20) (iI j).toNatClampNeg = iI (mcode ((movesL F R v).getD j.toNat (0, 0, 0))) := by rw [c_i h (by decide) h0 (by omega), hL.2.1 j h0 (by omega)]
      rw [e20]
      unfold disL at k
      generalize (movesL F R v).getD j.toNat (0, 0, 0) = u at okj k e20 ⊢
      have mu := okj.m hm.2
      have pu := hv.p u.1 okj.1.1 (by omega)
      have pt := hv.p t.1 ok.1.1 (by omega)
      rw [q_fromOf mu]
      refine ⟨o 20, c_r h rfl, (c_m h (by decide)).mpr trivial, c_k h (by decide), w.2, ?_⟩
      rw [e20, q_toOf mu, e3, q_toOf mt]
      have l1 : (iI u.2.1 = iI t.2.1) = (u.2.1 = t.2.1) := by rw [iI_eq (by omega) (by omega) (by omega) (by omega)]
      have l2 : (iI u.1 = iI t.1) = (u.1 = t.1) := by rw [iI_eq (by omega) (by omega) (by omega) (by omega)]
      rw [l1, l2]
      have nx : ∀ fo' ff' fr' : Bool, (∀ q : Bool × Bool × Bool, q = disL F v (movesL F R v) t.1 t.2.1 (j + 1) fo' ff' fr' d' → wp_X4_withOrigin_158 D post (cS S o c) (o 17) x1 (iI t.1) (iI (bI q.1)) (iI (bI q.2.1)) (iI (bI q.2.2))) →
          wp_X4_withOrigin_152 D post (wp_X4_withOrigin_18 D post n) (cS S o c) (o 17) x1 (iI (mcode t)) (iI (kindO (v t.1))) (iI t.1) (iI (bI fo')) (iI (bI ff')) (iI (bI fr')) (iI j) := by
        intro fo' ff' fr' kk
        unfold wp_X4_withOrigin_152
        intro z1 f1
        rw [f1, show (1 : Int32) = iI 1 from rfl, iI_add]
        have := ih d' (j + 1) fo' ff' fr' (by omega) (by omega) (by omega) kk
        rw [e3] at this
        exact this
      refine ⟨fun z => nx fo ff fr ?_, fun z => ⟨fun y => nx fo ff fr ?_, fun y => ⟨o 18, c_r h rfl, (c_m h (by decide)).mpr trivial, c_k h (by decide), ?_⟩⟩⟩
      · rw [decide_eq_false z, Bool.and_false, Bool.false_and, if_neg (by decide)] at k; exact k
      · rw [decide_eq_true y, Bool.not_true, Bool.false_and, Bool.false_and, if_neg (by decide)] at k; exact k
      · rw [decide_eq_false y, decide_eq_true z, Bool.not_false, Bool.true_and, Bool.true_and] at k
        rw [q_kindOn h (p := 18) (by decide) hv.p hL.1 (by omega)]
        have kr1 := kindO_r pu; have kr2 := kindO_r pt
        have l3 : (iI (kindO (v u.1)) = iI (kindO (v t.1))) = (v u.1 = v t.1) := by rw [iI_eq (by omega) (by omega) (by omega) (by omega), kind_eq pu pt okj.2.2.2.1 ok.2.2.2.1 hs]
        rw [l3]
        refine ⟨fun x => nx fo ff fr ?_, fun x => ⟨o 1, c_r h rfl, (c_m h (by decide)).mpr trivial, c_k h (by decide), ?_⟩⟩
        · rw [decide_eq_false x, if_neg (by decide)] at k; exact k
        · rw [decide_eq_true x, if_pos rfl] at k
          refine q_fileAt h hB okj.1 ?_
          refine ⟨o 1, c_r h rfl, (c_m h (by decide)).mpr trivial, c_k h (by decide), ?_⟩
          refine q_fileAt h hB ok.1 ?_
          have f1 := Int.emod_lt_of_pos u.1 (show 0 < F by omega); have f0 := Int.emod_nonneg u.1 (show F ≠ 0 by omega)
          have g1 := Int.emod_lt_of_pos t.1 (show 0 < F by omega); have g0 := Int.emod_nonneg t.1 (show F ≠ 0 by omega)
          have r0 := Int.ediv_nonneg okj.1.1 (show 0 ≤ F by omega); have r1 : u.1 / F ≤ u.1 := Int.ediv_le_self _ okj.1.1
          have s0 := Int.ediv_nonneg ok.1.1 (show 0 ≤ F by omega); have s1 : t.1 / F ≤ t.1 := Int.ediv_le_self _ ok.1.1
          have a149 : ∀ (g1 g2 : Bool), g1 = (ff || decide (u.1 % F = t.1 % F)) → g2 = decide (u.1 / F = t.1 / F) → wp_X4_withOrigin_149 D post (wp_X4_withOrigin_18 D post n) (cS S o c) (o 17) x1 (iI (mcode t)) (iI (kindO (v t.1))) (iI t.1) (iI (bI true)) (iI (bI g1)) (iI j) (iI (bI fr)) (iI (bI g2)) := by
            intro g1 g2 e1 e2
            unfold wp_X4_withOrigin_149
            intro z1 f1
            rw [f1, bI_or]
            refine nx true g1 (fr || g2) ?_
            rw [e1, e2]; exact k
          have a118 : ∀ g : Bool, g = decide (u.1 % F = t.1 % F) → wp_X4_withOrigin_118 D post (wp_X4_withOrigin_18 D post n) (cS S o c) (o 17) x1 (iI (mcode t)) (iI (kindO (v t.1))) (iI t.1) (iI (bI true)) (iI (bI fr)) (iI j) (iI u.1) (iI (bI ff)) (iI (bI g)) := by
            intro g e
            unfold wp_X4_withOrigin_118
            intro z1 f1'
            rw [f1', bI_or]
            refine ⟨o 1, c_r h rfl, (c_m h (by decide)).mpr trivial, c_k h (by decide), ?_⟩
            refine q_rankAt h hB okj.1 ?_
            refine ⟨o 1, c_r h rfl, (c_m h (by decide)).mpr trivial, c_k h (by decide), ?_⟩
            refine q_rankAt h hB ok.1 ?_
            rw [iI_eq (by omega) (by omega) (by omega) (by omega)]
            exact ⟨fun w => a149 _ false (by rw [e]) (decide_eq_false w).symm, fun w => a149 _ true (by rw [e]) (decide_eq_true w).symm⟩
          rw [iI_eq (by omega) (by omega) (by omega) (by omega)]
          exact ⟨fun w => a118 false (decide_eq_false w).symm, fun w => a118 true (decide_eq_true w).symm⟩
end
