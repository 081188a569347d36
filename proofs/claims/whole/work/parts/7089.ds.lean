section
variable {D : wD} {S : wS} {o : Nat → Nat} {c : cM} {F R : Int} {p : Nat} {v : Int → Int} {post : Int32 → wS → Prop} {xp : String → wS → Prop}
/-- all that the class's calls ask of the present position -/
abbrev NOW (c : cM) (F R : Int) (v : Int → Int) : Prop := BG c F R ∧ okV F R v ∧ clV v ∧ brd F R v ∧ epS F R v ∧ PAt c 11 v ∧ GL c F R v
theorem NOW.pv (h : NOW c F R v) (q : properB F R v = true) : PV F R v := ⟨h.2.1, h.2.2.1, h.2.2.2.1, h.2.2.2.2.1, q⟩
theorem move_at {i : Int} (hn : 0 ≤ F * R ∧ F * R ≤ 64) (hi : inB i 0 ((movesL F R v).length - 1) = true) : okMv F R v ((movesL F R v).getD i.toNat (0, 0, 0)) ∧ mOK ((movesL F R v).getD i.toNat (0, 0, 0)) := by
  have q := inB_iff.mp hi
  have ok := movesL_mem (F := F) (R := R) (v := v) hn.1 (getD_mem (L := movesL F R v) (k := i) ⟨q.1, by omega⟩)
  exact ⟨ok, ok.m hn.2⟩
theorem q_moveFromC (h : CC D S o) (hN : NOW c F R v) (hf : properB F R v = true → few F R v) {i : Int} (hi : i32 i)
    (k0 : properB F R v = false → xp "java/lang/IllegalStateException" (cS S o c)) (k1 : properB F R v = true → inB i 0 ((movesL F R v).length - 1) = false → xp "java/lang/IndexOutOfBoundsException" (cS S o (lkM c F R v)))
    (k2 : properB F R v = true → inB i 0 ((movesL F R v).length - 1) = true → post (iI ((movesL F R v).getD i.toNat (0, 0, 0)).1) (cS S o (lkM c F R v))) : wp_X11_moveFrom D post xp (cS S o c) (o 0) (iI i) := by
  obtain ⟨hB, hv, hc, hb, he, hA, hL⟩ := id hN
  have hm := hB.m
  unfold wp_X11_moveFrom wp_X11_moveFrom_0
  refine q_codeOfC h hB hv hc hb he hA hL hf hi k0 k1 fun q z => ?_
  rw [q_fromOf (move_at (by omega) z).2]
  exact k2 q z
theorem q_moveToC (h : CC D S o) (hN : NOW c F R v) (hf : properB F R v = true → few F R v) {i : Int} (hi : i32 i)
    (k0 : properB F R v = false → xp "java/lang/IllegalStateException" (cS S o c)) (k1 : properB F R v = true → inB i 0 ((movesL F R v).length - 1) = false → xp "java/lang/IndexOutOfBoundsException" (cS S o (lkM c F R v)))
    (k2 : properB F R v = true → inB i 0 ((movesL F R v).length - 1) = true → post (iI ((movesL F R v).getD i.toNat (0, 0, 0)).2.1) (cS S o (lkM c F R v))) : wp_X11_moveTo D post xp (cS S o c) (o 0) (iI i) := by
  obtain ⟨hB, hv, hc, hb, he, hA, hL⟩ := id hN
  have hm := hB.m
  unfold wp_X11_moveTo wp_X11_moveTo_0
  refine q_codeOfC h hB hv hc hb he hA hL hf hi k0 k1 fun q z => ?_
  rw [q_toOf (move_at (by omega) z).2]
  exact k2 q z
theorem q_moveBecomesC (h : CC D S o) (hN : NOW c F R v) (hf : properB F R v = true → few F R v) {i : Int} (hi : i32 i)
    (k0 : properB F R v = false → xp "java/lang/IllegalStateException" (cS S o c)) (k1 : properB F R v = true → inB i 0 ((movesL F R v).length - 1) = false → xp "java/lang/IndexOutOfBoundsException" (cS S o (lkM c F R v)))
    (k2 : properB F R v = true → inB i 0 ((movesL F R v).length - 1) = true → post (iI ((movesL F R v).getD i.toNat (0, 0, 0)).2.2) (cS S o (lkM c F R v))) : wp_X11_moveBecomes D post xp (cS S o c) (o 0) (iI i) := by
  obtain ⟨hB, hv, hc, hb, he, hA, hL⟩ := id hN
  have hm := hB.m
  unfold wp_X11_moveBecomes wp_X11_moveBecomes_0
  refine q_codeOfC h hB hv hc hb he hA hL hf hi k0 k1 fun q z => ?_
  rw [q_becomesOf (move_at (by omega) z).2]
  exact k2 q z
theorem makeM_B (hB : BG c F R) (n : Int) (t : Mv) : BG (makeM F R c n v t) F R := (makeM_sim F R c n v t).B (fun n hn => by simp; omega) hB
theorem lkM_B (hB : BG c F R) : BG (lkM c F R v) F R := (lkM_sim c F R v).B (fun n hn => by simp; omega) hB
theorem q_playC {n : Int} {w : Int → Int → Int} {mv : Int → Mv} (h : CC D S o) (hN : NOW c F R v) (hG : PG c n w mv) (hf : properB F R v = true → few F R v) {i : Int} (hi : i32 i)
    (k0 : properB F R v = false → xp "java/lang/IllegalStateException" (cS S o c)) (k1 : properB F R v = true → n = 80 → xp "java/lang/IllegalStateException" (cS S o c))
    (k2 : properB F R v = true → n < 80 → inB i 0 ((movesL F R v).length - 1) = false → xp "java/lang/IndexOutOfBoundsException" (cS S o (lkM c F R v)))
    (k3 : properB F R v = true → n < 80 → inB i 0 ((movesL F R v).length - 1) = true → ∀ t, t = (movesL F R v).getD i.toNat (0, 0, 0) → okMv F R v t → mOK t →
      post (iI (stateC F R (n + 1) (fun k => if k = n + 1 then mkT F R v t else w k) (fun k => if k = n then t else mv k) (mkT F R v t))) (cS S o (lookM (makeM F R (lkM c F R v) n v t) F R (mkT F R v t)))) : wp_X11_play D post xp (cS S o c) (o 0) (iI i) := by
  obtain ⟨hB, hv, hc, hb, he, hA, hL⟩ := id hN
  have h4 := hB.f4; have h8 := hB.f8; have r4 := hB.r4; have r8 := hB.r8
  have hm := hB.m
  have hn := hG.2.1
  unfold wp_X11_play wp_X11_play_0
  refine q_mustBeLawful h hB hv hb hA hL k0 fun q => ?_
  refine ⟨o 13, c_r h rfl, (c_m h (by decide)).mpr trivial, c_k h (by decide), ?_⟩
  rw [c_i1 h (by decide) (show ((3 : Nat) : Int) = 3 from rfl), hG.1, show (80 : Int32) = iI 80 from rfl, iI_lt (by omega) (by omega) (by decide) (by decide)]
  refine ⟨fun z => ?_, fun z => k1 q (by omega)⟩
  refine q_codeOfC h hB hv hc hb he hA hL hf hi k0 (fun q => k2 q z) fun q y => ?_
  have ok := move_at (v := v) (F := F) (R := R) (by omega) y
  have k3 := k3 q z y _ rfl ok.1 ok.2
  generalize (movesL F R v).getD i.toNat (0, 0, 0) = t at ok k3 ⊢
  have hP := hN.pv q
  have sim := lkM_sim c F R v
  have hG' : PG (lkM c F R v) n w mv := PG.sim sim (by decide) (by decide) (by decide) hG
  have hv' := PV_mk h4 h8 r4 r8 hP ok.1
  refine q_makeC h (lkM_B hB) hP (sim.P (by decide) hA) hG' z ok.1 ?_
  exact q_stateNowC h (makeM_B (lkM_B hB) n t) hv' (makeM_P F R _ n v t) (makeM_G hG' z (hv'.1.rg hm.2) ok.2) k3
theorem q_takeBackC {n : Int} {w : Int → Int → Int} {mv : Int → Mv} (h : CC D S o) (hG : PG c n w mv)
    (k0 : n = 0 → xp "java/lang/IllegalStateException" (cS S o c)) (k1 : 0 < n → post (iI (n - 1)) (cS S o (putP (cI c 13 3 (n - 1)) 11 (w (n - 1))))) : wp_X11_takeBack D post xp (cS S o c) (o 0) := by
  have hn := hG.2.1
  unfold wp_X11_takeBack wp_X11_takeBack_0
  refine ⟨o 13, c_r h rfl, (c_m h (by decide)).mpr trivial, c_k h (by decide), ?_⟩
  rw [c_i1 h (by decide) (show ((3 : Nat) : Int) = 3 from rfl), hG.1, show (0 : Int32) = iI 0 from rfl, iI_eq (by omega) (by omega) (by decide) (by decide)]
  refine ⟨fun z => ⟨o 13, c_r h rfl, (c_m h (by decide)).mpr trivial, c_k h (by decide), ?_⟩, k0⟩
  intro S4 e4
  rw [c_i1 h (by decide) (show ((3 : Nat) : Int) = 3 from rfl), hG.1, show (1 : Int32) = iI 1 from rfl, iI_sub, c_u1 h (by decide) (show ((3 : Nat) : Int) = 3 from rfl)] at e4
  rw [e4]
  refine ⟨o 11, c_r h rfl, (c_m h (by decide)).mpr trivial, c_k h (by decide), o 13, c_r h rfl, (c_m h (by decide)).mpr trivial, c_k h (by decide), o 14, c_r h rfl, (c_m h (by decide)).mpr trivial, c_k h (by decide), o 13, c_r h rfl, (c_m h (by decide)).mpr trivial, c_k h (by decide), ?_⟩
  rw [c_i1 h (by decide) (show ((3 : Nat) : Int) = 3 from rfl), cI_1, up_at]
  have hw := hG.2.2.1 (n - 1) (by omega) (by omega)
  have hS : RS (cI c 13 3 (n - 1)) 14 (n - 1) (w (n - 1)) := hw.1
  refine q_load h isP11 (fun c' hc' => ?_) hw.2 (RS.sv h (by decide) (by omega) hS) ?_ ?_ ?_
  · funext j
    rw [c_j0 h (by decide), c_j0 h (by decide), hc' 14 (by decide)]
  · have : sN S (o 14) = 405 := (h.1 14 (by decide)).2.2
    rw [this]; omega
  · have : sN S (o 14) = 405 := (h.1 14 (by decide)).2.2
    rw [this]; decide
  · refine ⟨o 13, c_r h rfl, (c_m h (by decide)).mpr trivial, c_k h (by decide), ?_⟩
    rw [c_i1 h (by decide) (show ((3 : Nat) : Int) = 3 from rfl), putP_1 _ _ (by decide), cI_1, up_at]
    exact k1 (by omega)
/-- the position, its followers and theirs have few moves -/
abbrev few3 (F R : Int) (v : Int → Int) : Prop := few F R v ∧ (∀ t ∈ movesL F R v, few F R (mkT F R v t)) ∧ ∀ t ∈ movesL F R v, ∀ u ∈ movesL F R (mkT F R v t), few F R (mkT F R (mkT F R v t) u)
theorem q_countMovesC (h : CC D S o) (hN : NOW c F R v) (hf : properB F R v = true → few3 F R v) {d : Int} (hd : i32 d) {x2 : Int32}
    (k0 : inB d 1 3 = false → xp "java/lang/IllegalArgumentException" (cS S o c)) (k1 : inB d 1 3 = true → properB F R v = false → xp "java/lang/IllegalStateException" (cS S o c))
    (k2 : inB d 1 3 = true → properB F R v = true → ∀ c', cSim [10, 39, 40, 42, 43] c c' → post (iI (countB F R v d)) (cS S o c')) : wp_X11_countMoves D post xp (cS S o c) (o 0) (iI d) x2 := by
  obtain ⟨hB, hv, hc, hb, he, hA, hL⟩ := id hN
  unfold wp_X11_countMoves wp_X11_countMoves_0 wp_X11_countMoves_10
  rw [show (1 : Int32) = iI 1 from rfl, show (3 : Int32) = iI 3 from rfl, iI_lt hd.1 hd.2 (by decide) (by decide), iI_le hd.1 hd.2 (by decide) (by decide)]
  refine ⟨fun z => k0 ?_, fun z => ⟨fun y => ?_, fun y => k0 ?_⟩⟩
  · unfold inB; rw [decide_eq_false (by omega)]; rfl
  · have hin : inB d 1 3 = true := inB_iff.mpr ⟨by omega, y⟩
    refine q_mustBeLawful h hB hv hb hA hL (k1 hin) fun q => ?_
    refine ⟨o 38, c_r h rfl, (c_m h (by decide)).mpr trivial, c_k h (by decide), o 11, c_r h rfl, (c_m h (by decide)).mpr trivial, c_k h (by decide), ?_⟩
    exact q_rowsOfMovesC h hB isP11 (by decide) (by decide) (hN.pv q) (hf q).1 (hf q).2.1 hA ⟨by omega, y⟩ (k2 hin q)
  · unfold inB; rw [decide_eq_false (show ¬ d ≤ 3 from y), Bool.and_false]
theorem q_forcesMateC (h : CC D S o) (hN : NOW c F R v) (hf : properB F R v = true → few3 F R v)
    (k0 : properB F R v = false → xp "java/lang/IllegalStateException" (cS S o c)) (k1 : properB F R v = true → ∀ c', cSim [10, 38, 39, 40, 41, 42, 43, 44] c c' → post (iI (matesB F R v)) (cS S o c')) : wp_X11_forcesMate D post xp (cS S o c) (o 0) := by
  obtain ⟨hB, hv, hc, hb, he, hA, hL⟩ := id hN
  unfold wp_X11_forcesMate wp_X11_forcesMate_0
  refine q_mustBeLawful h hB hv hb hA hL k0 fun q => ?_
  refine ⟨o 38, c_r h rfl, (c_m h (by decide)).mpr trivial, c_k h (by decide), o 11, c_r h rfl, (c_m h (by decide)).mpr trivial, c_k h (by decide), ?_⟩
  refine q_findKeysC h hB isP11 (by decide) (by decide) (by decide) (hN.pv q) (hf q).1 (hf q).2.1 (hf q).2.2 hA fun c' hs h7 h8 h9 => ?_
  refine ⟨o 38, c_r h rfl, (c_m h (by decide)).mpr trivial, c_k h (by decide), ?_⟩
  rw [c_i1 h (by decide) (show ((7 : Nat) : Int) = 7 from rfl), h7]
  exact k1 q c' hs
theorem q_keyCountC (h : CC D S o) (hN : NOW c F R v) (hf : properB F R v = true → few3 F R v)
    (k0 : properB F R v = false → xp "java/lang/IllegalStateException" (cS S o c)) (k1 : properB F R v = true → ∀ c', cSim [10, 38, 39, 40, 41, 42, 43, 44] c c' → post (iI (keyCountB F R v)) (cS S o c')) : wp_X11_keyCount D post xp (cS S o c) (o 0) := by
  obtain ⟨hB, hv, hc, hb, he, hA, hL⟩ := id hN
  unfold wp_X11_keyCount wp_X11_keyCount_0
  refine q_mustBeLawful h hB hv hb hA hL k0 fun q => ?_
  refine ⟨o 38, c_r h rfl, (c_m h (by decide)).mpr trivial, c_k h (by decide), o 11, c_r h rfl, (c_m h (by decide)).mpr trivial, c_k h (by decide), ?_⟩
  refine q_findKeysC h hB isP11 (by decide) (by decide) (by decide) (hN.pv q) (hf q).1 (hf q).2.1 (hf q).2.2 hA fun c' hs h7 h8 h9 => ?_
  refine ⟨o 38, c_r h rfl, (c_m h (by decide)).mpr trivial, c_k h (by decide), ?_⟩
  rw [c_i1 h (by decide) (show ((8 : Nat) : Int) = 8 from rfl), h8]
  exact k1 q c' hs
end
