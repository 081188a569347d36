section
variable {D : wD} {S : wS} {o : Nat → Nat} {c : cM} {F R : Int} {p : Nat} {v : Int → Int} {post : Int32 → wS → Prop} {xp : String → wS → Prop}
theorem inB_iff {x a b : Int} : inB x a b = true ↔ a ≤ x ∧ x ≤ b := by unfold inB; simp
theorem bI_0 (b : Bool) : (iI (bI b) = 0) = (b = false) := by cases b <;> decide
theorem nr_b (b : Bool) : narrow .boolean (.int (iI (bI b))) = .int (iI (bI b)) := by cases b; exact nr0; exact nr1
theorem q_mustBeSquare {post : wS → Prop} (h : CC D S o) (hB : BG c F R) {a : Int} (ha : i32 a) (k0 : inB a 0 (F * R - 1) = false → xp "java/lang/IndexOutOfBoundsException" (cS S o c)) (k1 : inB a 0 (F * R - 1) = true → post (cS S o c)) :
    wp_X11_mustBeSquare D post xp (cS S o c) (o 0) (iI a) := by
  unfold wp_X11_mustBeSquare wp_X11_mustBeSquare_0
  refine ⟨o 1, c_r h rfl, (c_m h (by decide)).mpr trivial, c_k h (by decide), ?_⟩
  rw [q_has h hB ha, bI_0]
  exact ⟨fun q => k1 (by simpa using q), k0⟩
/-- the present position of a game that is begun is proper -/
abbrev GL (c : cM) (F R : Int) (v : Int → Int) : Prop := (0 ≤ c.1 13 3 ∧ c.1 13 3 ≤ 80) ∧ (0 < c.1 13 3 → properB F R v = true)
theorem q_isFirstLawful (h : CC D S o) (hB : BG c F R) (hv : okV F R v) (hb : brd F R v) (hA : PAt c 11 v) (hL : GL c F R v) (k : post (iI (bI (properB F R v))) (cS S o c)) : wp_X11_isFirstLawful D post (cS S o c) (o 0) := by
  unfold wp_X11_isFirstLawful wp_X11_isFirstLawful_0 wp_X11_isFirstLawful_20 wp_X11_isFirstLawful_25
  refine ⟨o 13, c_r h rfl, (c_m h (by decide)).mpr trivial, c_k h (by decide), ?_⟩
  have e : sI (cS S o c) (o 13) 3 = iI (c.1 13 3) := c_i0 h (by decide) 3
  have := hL.1
  rw [e, show (0 : Int32) = iI 0 from rfl, iI_lt (by decide) (by decide) (by omega) (by omega)]
  refine ⟨fun q => ?_, fun q => ⟨o 11, c_r h rfl, (c_m h (by decide)).mpr trivial, c_k h (by decide), ?_⟩⟩
  · rw [hL.2 q] at k; exact ⟨nr1, k⟩
  · refine q_isLawful h hB isP11 hv hb hA ?_
    cases w : properB F R v
    · rw [w] at k; exact ⟨fun _ => ⟨nr0, k⟩, fun z => absurd rfl z⟩
    · rw [w] at k; exact ⟨fun z => absurd z (by decide), fun _ => ⟨nr1, k⟩⟩
theorem q_mustBeLawful {post : wS → Prop} (h : CC D S o) (hB : BG c F R) (hv : okV F R v) (hb : brd F R v) (hA : PAt c 11 v) (hL : GL c F R v) (k0 : properB F R v = false → xp "java/lang/IllegalStateException" (cS S o c)) (k1 : properB F R v = true → post (cS S o c)) :
    wp_X11_mustBeLawful D post xp (cS S o c) (o 0) := by
  unfold wp_X11_mustBeLawful wp_X11_mustBeLawful_0
  refine q_isFirstLawful h hB hv hb hA hL ?_
  rw [bI_0]
  exact ⟨fun q => k1 (by simpa using q), k0⟩
theorem q_pieceAtC (h : CC D S o) (hB : BG c F R) (hv : okP v) (hA : PAt c 11 v) {a : Int} (ha : i32 a) (k0 : inB a 0 (F * R - 1) = false → xp "java/lang/IndexOutOfBoundsException" (cS S o c)) (k1 : inB a 0 (F * R - 1) = true → post (iI (v a)) (cS S o c)) :
    wp_X11_pieceAt D post xp (cS S o c) (o 0) (iI a) := by
  have hm := hB.m
  unfold wp_X11_pieceAt wp_X11_pieceAt_0
  refine q_mustBeSquare h hB ha k0 fun q => ?_
  refine ⟨o 11, c_r h rfl, (c_m h (by decide)).mpr trivial, c_k h (by decide), ?_⟩
  have q2 := (inB_iff).mp q
  rw [q_pieceOn h isP11 hv hA (by omega)]
  exact k1 q
theorem q_isWhiteC (h : CC D S o) (hA : PAt c 11 v) (hs : 0 ≤ v 64 ∧ v 64 ≤ 1) (k : post (iI (v 64)) (cS S o c)) : wp_X11_isWhiteToMove D post (cS S o c) (o 0) := by
  unfold wp_X11_isWhiteToMove wp_X11_isWhiteToMove_0
  refine ⟨o 11, c_r h rfl, (c_m h (by decide)).mpr trivial, c_k h (by decide), ?_⟩
  rw [show sI (cS S o c) (o 11) 5 = iI (v 64) from by rw [c_i0 h (by decide)]; exact congrArg iI hA.2.2.2.2.1]
  refine ⟨?_, k⟩
  rcases (show v 64 = 0 ∨ v 64 = 1 by omega) with e | e <;> rw [e]
  · exact nr0
  · exact nr1
theorem q_rightsC (h : CC D S o) (hA : PAt c 11 v) (k : post (iI (v 65)) (cS S o c)) : wp_X11_rights D post (cS S o c) (o 0) := by
  unfold wp_X11_rights wp_X11_rights_0
  refine ⟨o 11, c_r h rfl, (c_m h (by decide)).mpr trivial, c_k h (by decide), ?_⟩
  rw [show sI (cS S o c) (o 11) 6 = iI (v 65) from by rw [c_i0 h (by decide)]; exact congrArg iI hA.2.2.2.2.2.1]
  exact k
theorem q_passingC (h : CC D S o) (hA : PAt c 11 v) (k : post (iI (v 66)) (cS S o c)) : wp_X11_passingSquare D post (cS S o c) (o 0) := by
  unfold wp_X11_passingSquare wp_X11_passingSquare_0
  refine ⟨o 11, c_r h rfl, (c_m h (by decide)).mpr trivial, c_k h (by decide), ?_⟩
  rw [show sI (cS S o c) (o 11) 7 = iI (v 66) from by rw [c_i0 h (by decide)]; exact congrArg iI hA.2.2.2.2.2.2]
  exact k
theorem q_isProperC (h : CC D S o) (hB : BG c F R) (hv : okV F R v) (hb : brd F R v) (hA : PAt c 11 v) (k : post (iI (bI (properB F R v))) (cS S o c)) : wp_X11_isProper D post (cS S o c) (o 0) := by
  unfold wp_X11_isProper wp_X11_isProper_0
  refine ⟨o 11, c_r h rfl, (c_m h (by decide)).mpr trivial, c_k h (by decide), ?_⟩
  exact q_isLawful h hB isP11 hv hb hA ⟨nr_b _, k⟩
theorem q_isAttackedC (h : CC D S o) (hB : BG c F R) (hv : okV F R v) (hb : brd F R v) (hA : PAt c 11 v) {a s : Int} (ha : i32 a) (hs : s = 0 ∨ s = 1) (k0 : inB a 0 (F * R - 1) = false → xp "java/lang/IndexOutOfBoundsException" (cS S o c)) (k1 : inB a 0 (F * R - 1) = true → post (iI (bI (atkB F R v a s))) (cS S o c)) :
    wp_X11_isAttacked D post xp (cS S o c) (o 0) (iI a) (iI s) := by
  have hm := hB.m
  unfold wp_X11_isAttacked wp_X11_isAttacked_0
  refine q_mustBeSquare h hB ha k0 fun q => ?_
  have q2 := (inB_iff).mp q
  refine ⟨o 11, c_r h rfl, (c_m h (by decide)).mpr trivial, c_k h (by decide), o 11, c_r h rfl, (c_m h (by decide)).mpr trivial, c_k h (by decide), ?_⟩
  rw [q_occupied h isP11 hv.p hA]
  refine q_attackers h hB isP11 hv.p hA (by omega) hs ?_
  simp only [lg_cmp_eq]
  rw [found_zero hB hv.p hb (by omega) (by omega)]
  unfold wp_X11_isAttacked_31
  have k := k1 q
  cases w : atkB F R v a s
  · rw [w] at k; exact ⟨fun _ => ⟨nr0, k⟩, fun z => absurd rfl z⟩
  · rw [w] at k; exact ⟨fun z => absurd z (by decide), fun _ => ⟨nr1, k⟩⟩
theorem q_checkersC (h : CC D S o) (hB : BG c F R) (hv : okV F R v) (hb : brd F R v) (hA : PAt c 11 v) (hL : GL c F R v) (k0 : properB F R v = false → xp "java/lang/IllegalStateException" (cS S o c)) (k1 : properB F R v = true → post (iI (chksB F R v)) (cS S o c)) :
    wp_X11_checkers D post xp (cS S o c) (o 0) := by
  have hm := hB.m
  have hs : v 64 = 0 ∨ v 64 = 1 := by have := hv.s; omega
  unfold wp_X11_checkers wp_X11_checkers_0
  refine q_mustBeLawful h hB hv hb hA hL k0 fun q => ?_
  have hk := (kings_of (show 0 ≤ F * R by omega) q hs).1
  have hr := kingB_r v (v 64) (show 0 ≤ F * R by omega)
  refine ⟨o 11, c_r h rfl, (c_m h (by decide)).mpr trivial, c_k h (by decide), o 11, c_r h rfl, (c_m h (by decide)).mpr trivial, c_k h (by decide), ?_⟩
  have e : sI (cS S o c) (o 11) 5 = iI (v 64) := by rw [c_i0 h (by decide)]; exact congrArg iI hA.2.2.2.2.1
  rw [e]
  refine q_kingOfC h ⟨by omega, hm.2⟩ isP11 hv.p hb hA hs ?_
  refine ⟨o 11, c_r h rfl, (c_m h (by decide)).mpr trivial, c_k h (by decide), o 11, c_r h rfl, (c_m h (by decide)).mpr trivial, c_k h (by decide), ?_⟩
  unfold kingC
  rw [if_pos hk, e]
  have at39 : ∀ u : Int, u = 1 - v 64 → wp_X11_checkers_39 D post xp (cS S o c) (o 0) (o 11) (iI (kingB F R v (v 64))) (iI u) := by
    intro u hu
    unfold wp_X11_checkers_39
    refine ⟨o 11, c_r h rfl, (c_m h (by decide)).mpr trivial, c_k h (by decide), ?_⟩
    rw [q_occupied h isP11 hv.p hA]
    refine q_attackers h hB isP11 hv.p hA ⟨hr.1, hk⟩ (by omega) ?_
    rw [q_bitCount, hu, chks_z hB hv hb hk]
    exact k1 q
  have hz : (iI (v 64) = 0) = (v 64 = 0) := by rw [show (0 : Int32) = iI 0 from rfl, iI_eq (by omega) (by omega) (by decide) (by decide)]
  rw [hz]
  exact ⟨fun z => at39 0 (by omega), fun z => at39 1 (by omega)⟩
theorem q_isPinnedC (h : CC D S o) (hB : BG c F R) (hv : okV F R v) (hk : clV v) (hb : brd F R v) (he : epS F R v) (hA : PAt c 11 v) (hL : GL c F R v) {a : Int} (ha : i32 a) (k0 : inB a 0 (F * R - 1) = false → xp "java/lang/IndexOutOfBoundsException" (cS S o c))
    (k1 : inB a 0 (F * R - 1) = true → properB F R v = false → xp "java/lang/IllegalStateException" (cS S o c)) (k2 : inB a 0 (F * R - 1) = true → properB F R v = true → post (iI (bI (pinB F R v a))) (cS S o c)) :
    wp_X11_isPinned D post xp (cS S o c) (o 0) (iI a) := by
  have h4 := hB.f4; have h8 := hB.f8; have r4 := hB.r4; have r8 := hB.r8
  unfold wp_X11_isPinned wp_X11_isPinned_0
  refine q_mustBeSquare h hB ha k0 fun q => ?_
  refine q_mustBeLawful h hB hv hb hA hL (k1 q) fun w => ?_
  refine ⟨o 11, c_r h rfl, (c_m h (by decide)).mpr trivial, c_k h (by decide), ?_⟩
  have q2 := (inB_iff).mp q
  exact q_shieldsKing h hB isP11 (PV.k h4 h8 r4 r8 ⟨hv, hk, hb, he, w⟩) hA (by omega) ⟨nr_b _, k2 q w⟩
end
