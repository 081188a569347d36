section
variable {D : wD} {S : wS} {o : Nat → Nat} {c : cM} {F R : Int} {v : Int → Int}
theorem q_plainWord {post : Int64 → wS → Prop} (h : CC D S o) (hB : BG c F R) (hP : ∀ c, ST D (cS S o c) (D.2.2.1 1) pcsL) (hv : PV F R v) (hL : LK c F R v) (hf : few F R v) {i : Int} (hi : 0 ≤ i ∧ i < (movesL F R v).length)
    (k : post (zI (pkA 0 (sanA F v (movesL F R v) ((movesL F R v).getD i.toNat (0, 0, 0))))) (cS S o c)) : wp_X4_plainWord D post (cS S o c) (o 17) (iI i) := by
  have hm := hB.m
  have h4 := hB.f4; have h8 := hB.f8; have r4 := hB.r4; have r8 := hB.r8
  have len : ((movesL F R v).length : Int) ≤ 320 := hf
  unfold wp_X4_plainWord wp_X4_plainWord_0
  refine q_codeAt h hL (by omega) hi ?_
  have ok := movesL_mem (F := F) (R := R) (v := v) (by omega) (getD_mem (L := movesL F R v) (k := i) hi)
  generalize (movesL F R v).getD i.toNat (0, 0, 0) = t at ok k ⊢
  have mt := ok.m hm.2
  have hg : goB F R v t.1 t.2.1 = true := by have := ok.2.2.2.2.1; unfold legB at this; simp only [Bool.and_eq_true] at this; exact this.1
  have pt := hv.1.p t.1 ok.1.1 (by omega)
  have pb := hv.1.p t.2.1 ok.2.1.1 (by omega)
  have kr := kindO_r pt; have kb := kindO_r pb
  rw [q_fromOf mt, q_toOf mt]
  refine ⟨o 18, c_r h rfl, (c_m h (by decide)).mpr trivial, c_k h (by decide), ?_⟩
  rw [q_kindOn h (p := 18) (by decide) hv.1.p hL.1 (by omega)]
  have l1 : (iI (kindO (v t.1)) = (1 : Int32)) = (kindO (v t.1) = 1) := by rw [show (1 : Int32) = iI 1 from rfl, iI_eq (by omega) (by omega) (by decide) (by decide)]
  have l2 : (iI t.2.1 - iI t.1 = (2 : Int32)) = (t.2.1 - t.1 = 2) := by rw [iI_sub, show (2 : Int32) = iI 2 from rfl, iI_eq (by omega) (by omega) (by decide) (by decide)]
  have l3 : (iI t.1 - iI t.2.1 = (2 : Int32)) = (t.1 - t.2.1 = 2) := by rw [iI_sub, show (2 : Int32) = iI 2 from rfl, iI_eq (by omega) (by omega) (by decide) (by decide)]
  have kg := fun hk => king_go h4 h8 r4 r8 hv.1 (proper_parts hv.2.2.2.2).2.2.1 (a := t.1) (b := t.2.1) ⟨ok.1.1, by omega⟩ ⟨ok.2.1.1, by omega⟩ hk hg
  have a63 : castingB F v t.1 t.2.1 = false → wp_X4_plainWord_63 D post (cS S o c) (o 17) (iI (mcode t)) (iI t.1) (iI t.2.1) (iI (kindO (v t.1))) := by
    intro hc
    rw [sanA_pk F v _ t hc] at k
    have tk := takes_iff (R := R) h4 h8 hv.1 hv.2.2.2.1 ⟨ok.1.1, show t.1 < 64 by omega⟩ ⟨ok.2.1.1, show t.2.1 < 64 by omega⟩ ok.2.2.2.1 hg
    have a99 := fun (b : Bool) (hb : b = takesB F v t.1 t.2.1) => q_plain_99 (post := post) h hB hP hv.1 hL hf ok hb k
    have f0 := a99 false; have f1 := a99 true
    unfold wp_X4_plainWord_63 wp_X4_plainWord_94 wp_X4_plainWord_98
    refine ⟨o 18, c_r h rfl, (c_m h (by decide)).mpr trivial, c_k h (by decide), ?_⟩
    rw [q_kindOn h (p := 18) (by decide) hv.1.p hL.1 (by omega)]
    have m1 : (iI (kindO (v t.2.1)) = (0 : Int32)) = (kindO (v t.2.1) = 0) := by rw [show (0 : Int32) = iI 0 from rfl, iI_eq (by omega) (by omega) (by decide) (by decide)]
    have m2 : (iI (kindO (v t.1)) = (6 : Int32)) = (kindO (v t.1) = 6) := by rw [show (6 : Int32) = iI 6 from rfl, iI_eq (by omega) (by omega) (by decide) (by decide)]
    rw [m1]
    refine ⟨fun q => f1 ?_, fun q => ?_⟩
    · rw [tk, decide_eq_false q]; rfl
    · rw [m2]
      refine ⟨fun q2 => f0 ?_, fun q2 => ⟨o 18, c_r h rfl, (c_m h (by decide)).mpr trivial, c_k h (by decide), ?_⟩⟩
      · rw [tk, decide_eq_true q, decide_eq_false q2]; rfl
      · have ep : sI (cS S o c) (o 18) 7 = iI (v 66) := by rw [c_i1 h (by decide) (show ((7 : Nat) : Int) = 7 from rfl)]; exact congrArg iI hL.1.2.2.2.2.2.2
        have he := hv.1.e
        rw [ep, iI_eq (by omega) (by omega) (by omega) (by omega)]
        refine ⟨fun q3 => f0 ?_, fun q3 => f1 ?_⟩
        · rw [tk, decide_eq_true q, decide_eq_true q2, decide_eq_false q3]; rfl
        · rw [tk, decide_eq_true q, decide_eq_true q2, decide_eq_true q3]; rfl
  have cn : ¬ kindO (v t.1) = 1 → castingB F v t.1 t.2.1 = false := fun q => by unfold castingB; rw [decide_eq_false q]; rfl
  have a45 : (kindO (v t.1) = 1 → ¬ t.2.1 - t.1 = 2) → wp_X4_plainWord_45 D post (cS S o c) (o 17) (iI (mcode t)) (iI t.1) (iI t.2.1) (iI (kindO (v t.1))) := by
    intro hn
    unfold wp_X4_plainWord_45
    rw [l1, l3]
    refine ⟨fun q => a63 (cn q), fun q => ⟨fun q2 => a63 ?_, fun q2 => ?_⟩⟩
    · have g := kg q
      cases z : castingB F v t.1 t.2.1
      · rfl
      · exfalso
        by_cases y : t.1 < t.2.1
        · exact hn q (g.2.1.mpr ⟨z, y⟩)
        · exact q2 (g.2.2.mpr ⟨z, y⟩)
    · have g := (kg q).2.2.mp q2
      unfold sanA at k
      rw [g.1, if_pos rfl, if_neg g.2] at k
      exact k
  rw [l1, l2]
  refine ⟨fun q => a45 (fun z => absurd z q), fun q => ⟨fun q2 => a45 (fun _ => q2), fun q2 => ?_⟩⟩
  have g := (kg q).2.1.mp q2
  unfold sanA at k
  rw [g.1, if_pos rfl, if_pos g.2] at k
  exact k
theorem q_markOf {post : Int32 → wS → Prop} (h : CC D S o) (hB : BG c F R) (hv : PV F R v) (hL : LK c F R v) (hf : few F R v) {i : Int} (hi : 0 ≤ i ∧ i < (movesL F R v).length)
    (k : ∀ c', cSim [10, 19] c c' → post (iI (endC F R (mkT F R v ((movesL F R v).getD i.toNat (0, 0, 0))))) (cS S o c')) : wp_X4_markOf D post (cS S o c) (o 17) (iI i) := by
  have hm := hB.m
  have h4 := hB.f4; have h8 := hB.f8; have r4 := hB.r4; have r8 := hB.r8
  have len : ((movesL F R v).length : Int) ≤ 320 := hf
  have hs : v 64 = 0 ∨ v 64 = 1 := by have := hv.1.s; omega
  unfold wp_X4_markOf wp_X4_markOf_0 wp_X4_markOf_56
  refine ⟨o 19, c_r h rfl, (c_m h (by decide)).mpr trivial, c_k h (by decide), o 18, c_r h rfl, (c_m h (by decide)).mpr trivial, c_k h (by decide), ?_⟩
  refine q_copyP h (p := 19) (q := 18) (by decide) (by decide) (by decide) hs hL.1 ?_
  refine ⟨o 19, c_r h rfl, (c_m h (by decide)).mpr trivial, c_k h (by decide), ?_⟩
  refine q_codeAt h (hL.sim (putP_sim c 19 v) (by decide) (by decide) (by decide)) (by omega) hi ?_
  have ok := movesL_mem (F := F) (R := R) (v := v) (by omega) (getD_mem (L := movesL F R v) (k := i) hi)
  generalize (movesL F R v).getD i.toNat (0, 0, 0) = t at ok k ⊢
  have hv' := PV_mk h4 h8 r4 r8 hv ok
  refine q_apply h (hB.put (p := 19) (by decide) v) (by decide) hv.1 hv.2.1 hv.2.2.1 hv.2.2.2.1 (proper_parts hv.2.2.2.2).2.2.1 (putP_at c 19 v) ok ?_
  rw [putP_putP]
  have hk' := PV.k h4 h8 r4 r8 hv'
  have hB' : BG (putP c 19 (mkT F R v t)) F R := hB.put (by decide) _
  have hA' := putP_at c 19 (mkT F R v t)
  refine ⟨o 19, c_r h rfl, (c_m h (by decide)).mpr trivial, c_k h (by decide), ?_⟩
  refine q_isInCheckC h hB' (p := 19) (by decide) hv'.1 hv'.2.2.1 hA' hk'.2.2.2.2.2.1 ?_
  unfold endC mateB at k
  rw [bI_0]
  refine ⟨fun q => ⟨o 10, c_r h rfl, (c_m h (by decide)).mpr trivial, c_k h (by decide), o 19, c_r h rfl, (c_m h (by decide)).mpr trivial, c_k h (by decide), ?_⟩, fun q => ?_⟩
  · have q : chkB F R (mkT F R v t) (mkT F R v t 64) = true := by simpa using q
    rw [q, if_pos rfl] at k
    refine q_hasMove h hB' (p := 19) (by decide) hk' hA' ?_
    have k := k (lookM (putP c 19 (mkT F R v t)) F R (mkT F R v t)) (((putP_sim c 19 _).mono (by decide)).trans ((lookM_sim _ F R _).mono (by decide)))
    rw [bI_0]
    by_cases z : (movesL F R (mkT F R v t)).length = 0
    · rw [decide_eq_true z]
      simp [z] at k
      exact ⟨fun _ => k, fun w => absurd rfl w⟩
    · rw [decide_eq_false z]
      simp [z] at k
      exact ⟨fun w => absurd w (by decide), fun _ => k⟩
  · rw [q, if_neg (by decide)] at k
    exact k _ ((putP_sim c 19 _).mono (by decide))
theorem sanA_b (hB : BG c F R) {L : List Mv} {t : Mv} (ok : okMv F R v t) : ∀ x ∈ sanA F v L t, 0 ≤ x ∧ x < 128 := by
  have f1 := fileC_r hB (a := t.1); have f2 := fileC_r hB (a := t.2.1)
  have r1 := rankC_r hB ok.1; have r2 := rankC_r hB ok.2.1
  have l1 := letB_r (kindO (v t.1)); have l2 := letB_r t.2.2
  intro x hx
  unfold sanA headA takeA tailA fromC at hx
  split at hx
  · split at hx <;> simp at hx <;> omega
  · simp only [List.mem_append] at hx
    rcases hx with hx | hx
    · split at hx
      · split at hx <;> simp at hx; omega
      · simp only [List.mem_cons, List.mem_append] at hx
        rcases hx with hx | hx | hx
        · omega
        · split at hx <;> simp at hx; omega
        · split at hx <;> simp at hx; omega
    · rcases hx with hx | hx | hx
      · split at hx <;> simp at hx; omega
      · simp at hx; omega
      · split at hx <;> simp at hx; omega
end
