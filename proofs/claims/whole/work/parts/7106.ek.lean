section
variable {D : wD} {S : wS} {o : Nat → Nat} {c : cM} {F R : Int} {v : Int → Int}
theorem fileC_r (hB : BG c F R) {a : Int} : 97 ≤ fileC F a ∧ fileC F a < 106 := by
  have h4 := hB.f4; have h8 := hB.f8
  have g1 := Int.emod_lt_of_pos a (show 0 < F by omega)
  have g0 := Int.emod_nonneg a (show F ≠ 0 by omega)
  unfold fileC; omega
theorem rankC_r (hB : BG c F R) {a : Int} (ha : 0 ≤ a ∧ a < F * R) : 49 ≤ rankC F a ∧ rankC F a < 58 := by
  have h4 := hB.f4; have h8 := hB.f8; have r4 := hB.r4; have r8 := hB.r8
  unfold rankC
  rcases F_cases h4 h8 with e | e | e | e | e <;> (subst e; omega)
theorem q_origin_end {post : Int64 → wS → Prop} (h : CC D S o) (hB : BG c F R) {a w : Int} (ha : 0 ≤ a ∧ a < F * R) (hw : 0 ≤ w ∧ w < 128) (q : Bool × Bool × Bool) (k : post (zI (pkA w (fromC F a q))) (cS S o c)) :
    wp_X4_withOrigin_158 D post (cS S o c) (o 17) (zI w) (iI a) (iI (bI q.1)) (iI (bI q.2.1)) (iI (bI q.2.2)) := by
  have fr := fileC_r hB (a := a); have rr := rankC_r hB ha
  have a217 : ∀ (b : Bool) (u : Int), 0 ≤ u → u < 36028797018963968 → post (zI (pkA u (if b then [rankC F a] else []))) (cS S o c) → wp_X4_withOrigin_217 D post (cS S o c) (o 17) (iI a) (iI (bI b)) (zI u) := by
    intro b u u0 u1 kk
    unfold wp_X4_withOrigin_217 wp_X4_withOrigin_241
    rw [bI_0]
    refine ⟨fun z => ?_, fun z => q_rankName h hB ha ?_⟩
    · rw [z] at kk; exact kk
    · rw [show b = true by simpa using z] at kk
      rw [sh8 u0 u1 (by omega)]
      exact kk
  have a195 : ∀ (f b : Bool), post (zI (pkA w ((if f then [fileC F a] else []) ++ (if b then [rankC F a] else [])))) (cS S o c) → wp_X4_withOrigin_195 D post (cS S o c) (o 17) (zI w) (iI a) (iI (bI f)) (iI (bI b)) := by
    intro f b kk
    unfold wp_X4_withOrigin_195
    rw [bI_0]
    refine ⟨fun z => ?_, fun z => q_fileName h hB ha ?_⟩
    · rw [z] at kk; exact a217 b w hw.1 (by omega) kk
    · rw [show f = true by simpa using z] at kk
      rw [sh8 hw.1 (by omega) (by omega)]
      exact a217 b _ (by omega) (by omega) kk
  have a178 : ∀ f : Bool, f = (q.1 && (!q.2.1 || q.2.2)) → wp_X4_withOrigin_178 D post (cS S o c) (o 17) (zI w) (iI a) (iI (bI q.1)) (iI (bI q.2.1)) (iI (bI f)) := by
    intro f hf
    unfold wp_X4_withOrigin_178 wp_X4_withOrigin_194
    have k0 : (q.1 && q.2.1) = false → wp_X4_withOrigin_195 D post (cS S o c) (o 17) (zI w) (iI a) (iI (bI f)) (iI (bI false)) := fun z => a195 f false (by unfold fromC at k; rw [← hf, z] at k; exact k)
    have k1 : (q.1 && q.2.1) = true → wp_X4_withOrigin_195 D post (cS S o c) (o 17) (zI w) (iI a) (iI (bI f)) (iI (bI true)) := fun z => a195 f true (by unfold fromC at k; rw [← hf, z] at k; exact k)
    rw [bI_0, bI_0]
    refine ⟨fun z => k0 (by rw [z]; rfl), fun z => ⟨fun y => k0 (by rw [y, Bool.and_false]), fun y => k1 (by rw [show q.1 = true by simpa using z, show q.2.1 = true by simpa using y]; rfl)⟩⟩
  unfold wp_X4_withOrigin_158 wp_X4_withOrigin_177 wp_X4_withOrigin_173
  rw [bI_0, bI_0, bI_0]
  have b0 := a178 false; have b1 := a178 true
  cases h1 : q.1 <;> cases h2 : q.2.1 <;> cases h3 : q.2.2 <;> rw [h1, h2] at b0 b1 <;> (try rw [h3] at b0 b1) <;> simp only [reduceCtorEq, not_false_eq_true, not_true_eq_false, false_implies, true_implies, true_and, and_true] <;> first | exact b0 rfl | exact b1 rfl
theorem q_withOrigin {post : Int64 → wS → Prop} (h : CC D S o) (hB : BG c F R) (hv : okV F R v) (hL : LK c F R v) (hf : few F R v) {t : Mv} (ok : okMv F R v t) {w : Int} (hw : 0 ≤ w ∧ w < 128)
    (k : post (zI (pkA w (fromC F t.1 (disL F v (movesL F R v) t.1 t.2.1 0 false false false (movesL F R v).length)))) (cS S o c)) : wp_X4_withOrigin D post (cS S o c) (o 17) (zI w) (iI (mcode t)) (iI (kindO (v t.1))) := by
  have hm := hB.m
  unfold wp_X4_withOrigin wp_X4_withOrigin_0
  rw [q_fromOf (ok.m hm.2)]
  refine ⟨(movesL F R v).length + 1, ?_⟩
  exact q_origin_18 h hB hv hL hf ok rfl ((movesL F R v).length + 1) (movesL F R v).length 0 false false false (by omega) (by omega) (by decide) (fun q hq => q_origin_end h hB ok.1 hw q (by rw [hq]; exact k))
end
