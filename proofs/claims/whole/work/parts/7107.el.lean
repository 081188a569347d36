section
variable {D : wD} {S : wS} {o : Nat → Nat} {c : cM} {F R : Int} {v : Int → Int}
theorem letB_pcs {k : Int} (h : 1 ≤ k ∧ k ≤ 6) : pcsL.getD k.toNat 0 = letB k := by
  rcases (show k = 1 ∨ k = 2 ∨ k = 3 ∨ k = 4 ∨ k = 5 ∨ k = 6 by omega) with e | e | e | e | e | e <;> rw [e] <;> rfl
theorem letB_r (k : Int) : 66 ≤ letB k ∧ letB k < 83 := by unfold letB; split <;> (try split) <;> (try split) <;> (try split) <;> (try split) <;> omega
theorem sanA_pk (F : Int) (v : Int → Int) (L : List Mv) (t : Mv) (hc : castingB F v t.1 t.2.1 = false) : pkA 0 (sanA F v L t) = pkA (pkA 0 (headA F v L t)) (takeA F v t) := by
  unfold sanA
  rw [hc, if_neg (by decide), pkA_app]
theorem q_plain_173 {post : Int64 → wS → Prop} (h : CC D S o) (hB : BG c F R) (hP : ∀ c, ST D (cS S o c) (D.2.2.1 1) pcsL) {t : Mv} (ok : okMv F R v t) {w : Int} (hw : 0 ≤ w ∧ w < 2147483648) (k : post (zI (pkA w (tailA F v t))) (cS S o c)) :
    wp_X4_plainWord_173 D post (cS S o c) (o 17) (iI (mcode t)) (iI t.2.1) (zI w) := by
  have hm := hB.m
  have mt := ok.m hm.2
  have fr := fileC_r hB (a := t.2.1); have rr := rankC_r hB ok.2.1
  unfold wp_X4_plainWord_173 wp_X4_plainWord_238
  refine q_fileName h hB ok.2.1 ?_
  refine q_rankName h hB ok.2.1 ?_
  intro x5 e5
  rw [sh16 hw.1 (by omega) (by omega) (by omega)] at e5
  rw [e5, q_becomesOf mt]
  unfold tailA at k
  rw [pkA_app] at k
  have ke : pkA w [fileC F t.2.1, rankC F t.2.1] = (w * 256 + fileC F t.2.1) * 256 + rankC F t.2.1 := rfl
  rw [ke] at k
  rw [show (0 : Int32) = iI 0 from rfl, iI_le (by omega) (by omega) (by decide) (by decide)]
  refine ⟨fun q => ?_, fun q y9 e9 => ?_⟩
  · rw [if_pos (by have := ok.2.2.1.1; omega)] at k; exact k
  · rw [e9]
    refine q_lenS (hP _) ?_
    rw [show (pcsL.length : Int) = 13 from rfl, iI_le (by decide) (by decide) (by omega) (by omega)]
    refine ⟨fun z => absurd z (by have := ok.2.2.1.2; omega), fun _ y13 e13 => ?_⟩
    rw [e13]
    refine q_charS (hP _) ⟨by omega, by have := ok.2.2.1.2; show t.2.2 < 13; omega⟩ ?_
    rw [letB_pcs (by have := ok.2.2.1.2; omega)]
    have lr := letB_r t.2.2
    intro x16 e16
    rw [if_neg (by omega)] at k
    have kl : pkA ((w * 256 + fileC F t.2.1) * 256 + rankC F t.2.1) [61, letB t.2.2] = (((w * 256 + fileC F t.2.1) * 256 + rankC F t.2.1) * 256 + 61) * 256 + letB t.2.2 := rfl
    rw [kl] at k
    have := sh16 (a := (w * 256 + fileC F t.2.1) * 256 + rankC F t.2.1) (x := 61) (y := letB t.2.2) (by omega) (by omega) (by decide) (by omega)
    rw [show jlshl (zI 61) (8 : Int32) = (15616 : Int64) from by decide] at this
    rw [zI_of (by omega) (by omega), this] at e16
    rw [e16]
    exact k
theorem q_plain_157 {post : Int64 → wS → Prop} (h : CC D S o) (hB : BG c F R) (hP : ∀ c, ST D (cS S o c) (D.2.2.1 1) pcsL) {t : Mv} (ok : okMv F R v t) {w : Int} (hw : 0 ≤ w ∧ w < 8388608) {b : Bool} (hb : b = takesB F v t.1 t.2.1) (k : post (zI (pkA w (takeA F v t))) (cS S o c)) :
    wp_X4_plainWord_157 D post (cS S o c) (o 17) (iI (mcode t)) (iI t.2.1) (iI (bI b)) (zI w) := by
  unfold wp_X4_plainWord_157
  rw [bI_0]
  unfold takeA at k
  rw [pkA_app, ← hb] at k
  refine ⟨fun q => ?_, fun q x2 e2 => ?_⟩
  · rw [q] at k
    exact q_plain_173 h hB hP ok ⟨hw.1, by omega⟩ k
  · rw [show b = true by simpa using q] at k
    rw [show (120 : Int64) = zI 120 from rfl, sh8 hw.1 (by omega) (by decide)] at e2
    rw [e2]
    exact q_plain_173 h hB hP ok ⟨by omega, by omega⟩ k
theorem takes_iff {a b : Int} (h4 : 4 ≤ F) (h8 : F ≤ 8) (hv : okV F R v) (he : epS F R v) (ha : 0 ≤ a ∧ a < 64) (hb : 0 ≤ b ∧ b < 64) (ho : isOfB (v a) (v 64) = true) (hg : goB F R v a b = true) :
    takesB F v a b = (!decide (kindO (v b) = 0) || (decide (kindO (v a) = 6) && decide (b = v 66))) := by
  have kb : decide (kindO (v b) = 0) = decide (v b = 0) := by
    rcases kind_cases (hv.p b hb.1 hb.2) with e | e | e | e | e | e | e | e | e | e | e | e | e <;> rw [e] <;> rfl
  rw [kb]
  by_cases k6 : kindO (v a) = 6
  · have e := (ep_iff h4 h8 hv he ha hb ho k6 hg).1
    by_cases z : v b = 0
    · rw [decide_eq_true z, decide_eq_true k6, Bool.not_true, Bool.false_or, Bool.true_and]
      by_cases y : b = v 66
      · rw [decide_eq_true y]; exact (e.mp y).1
      · rw [decide_eq_false y]
        cases q : takesB F v a b
        · rfl
        · exact absurd (e.mpr ⟨q, z⟩) y
    · unfold takesB; rw [decide_eq_false z]; rfl
  · unfold takesB
    rw [decide_eq_false k6, Bool.false_and, Bool.false_and]
theorem q_plain_99 {post : Int64 → wS → Prop} (h : CC D S o) (hB : BG c F R) (hP : ∀ c, ST D (cS S o c) (D.2.2.1 1) pcsL) (hv : okV F R v) (hL : LK c F R v) (hf : few F R v) {t : Mv} (ok : okMv F R v t) {b : Bool} (hb : b = takesB F v t.1 t.2.1)
    (k : post (zI (pkA (pkA 0 (headA F v (movesL F R v) t)) (takeA F v t))) (cS S o c)) : wp_X4_plainWord_99 D post (cS S o c) (o 17) (iI (mcode t)) (iI t.1) (iI t.2.1) (iI (kindO (v t.1))) (iI (bI b)) := by
  have hm := hB.m
  have pt := hv.p t.1 ok.1.1 (by have := ok.1.2; omega)
  have kr := kindO_r pt
  have k1 : 1 ≤ kindO (v t.1) := by
    have ho := ok.2.2.2.1
    rcases kind_cases pt with e | e | e | e | e | e | e | e | e | e | e | e | e <;> rw [e] at ho ⊢ <;> first | decide | (exfalso; revert ho; rcases (show v 64 = 0 ∨ v 64 = 1 by have := hv.s; omega) with q | q <;> rw [q] <;> decide)
  have fr := fileC_r hB (a := t.1)
  unfold headA at k
  unfold wp_X4_plainWord_99 wp_X4_plainWord_125
  rw [show (6 : Int32) = iI 6 from rfl, iI_eq (by omega) (by omega) (by decide) (by decide)]
  refine ⟨fun q y2 e2 => ?_, fun q => ?_⟩
  · rw [if_neg q] at k
    rw [e2]
    refine q_lenS (hP _) ?_
    rw [show (pcsL.length : Int) = 13 from rfl, iI_le (by decide) (by decide) (by omega) (by omega)]
    refine ⟨fun z => absurd z (by omega), fun _ y6 e6 => ?_⟩
    rw [e6]
    refine q_charS (hP _) ⟨by omega, by show kindO (v t.1) < 13; omega⟩ ?_
    rw [letB_pcs ⟨k1, by omega⟩]
    have lr := letB_r (kindO (v t.1))
    rw [zI_of (by omega) (by omega)]
    have fx := fromC_len F t.1 (disL F v (movesL F R v) t.1 t.2.1 0 false false false (movesL F R v).length)
    have fb : ∀ x ∈ fromC F t.1 (disL F v (movesL F R v) t.1 t.2.1 0 false false false (movesL F R v).length), 0 ≤ x ∧ x < 128 := by
      have rr := rankC_r hB ok.1
      intro x hx
      unfold fromC at hx
      rcases List.mem_append.mp hx with q | q
      · split at q
        · rw [List.mem_singleton.mp q]; omega
        · exact absurd q List.not_mem_nil
      · split at q
        · rw [List.mem_singleton.mp q]; omega
        · exact absurd q List.not_mem_nil
    have pr := pkA_r _ (letB (kindO (v t.1))) 0 (by omega) (by omega) fb
    have pb : (256 ^ (0 + (fromC F t.1 (disL F v (movesL F R v) t.1 t.2.1 0 false false false (movesL F R v).length)).length) : Nat) ≤ 256 ^ 2 := Nat.pow_le_pow_right (by decide) (by omega)
    refine q_withOrigin h hB hv hL hf ok (by omega) ?_
    refine q_plain_157 h hB hP ok ⟨pr.1, ?_⟩ hb ?_
    · have : (256 ^ 2 : Nat) = 65536 := by decide
      omega
    · rw [show pkA 0 (letB (kindO (v t.1)) :: fromC F t.1 (disL F v (movesL F R v) t.1 t.2.1 0 false false false (movesL F R v).length)) = pkA (letB (kindO (v t.1))) (fromC F t.1 (disL F v (movesL F R v) t.1 t.2.1 0 false false false (movesL F R v).length)) from by show pkA (0 * 256 + letB (kindO (v t.1))) _ = _; rw [show (0 : Int) * 256 + letB (kindO (v t.1)) = letB (kindO (v t.1)) by omega]] at k
      exact k
  · rw [if_pos q, ← hb] at k
    rw [bI_0]
    refine ⟨fun z => ?_, fun z => q_fileName h hB ok.1 ?_⟩
    · rw [z] at k
      exact q_plain_157 h hB hP ok (w := 0) (by decide) hb k
    · rw [show b = true by simpa using z] at k
      refine q_plain_157 h hB hP ok (w := fileC F t.1) (by omega) hb ?_
      rw [show pkA 0 (if true = true then [fileC F t.1] else []) = fileC F t.1 from by show 0 * 256 + fileC F t.1 = _; omega] at k
      exact k
end
