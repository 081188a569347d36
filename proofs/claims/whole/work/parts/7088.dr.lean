/-- what looking at a position leaves in the list of moves (17..20) -/
def lkM (c : cM) (F R : Int) (v : Int → Int) : cM := cI (cI (putR (lookM (putP c 18 v) F R v) 20 (movesL F R v)) 17 7 (movesL F R v).length) 17 6 0
theorem lkM_sim (c : cM) (F R : Int) (v : Int → Int) : cSim [10, 17, 18, 20] c (lkM c F R v) :=
  (((putP_sim c 18 _).mono (by decide)).trans ((lookM_sim _ F R _).mono (by decide))).trans ((((putR_sim _ 20 _).mono (by decide)).trans ((cI_sim _ 17 _ _).mono (by decide))).trans ((cI_sim _ 17 _ _).mono (by decide)))
/-- the list of moves as it stands after a look -/
abbrev LK (c : cM) (F R : Int) (v : Int → Int) : Prop := PAt c 18 v ∧ RAt c 20 (movesL F R v) ∧ c.1 17 7 = (movesL F R v).length
theorem lkM_LK (c : cM) (F R : Int) (v : Int → Int) : LK (lkM c F R v) F R v := by
  have s1 : cSim [10, 17, 20] (putP c 18 v) (lkM c F R v) := ((lookM_sim _ F R _).mono (by decide)).trans ((((putR_sim _ 20 _).mono (by decide)).trans ((cI_sim _ 17 _ _).mono (by decide))).trans ((cI_sim _ 17 _ _).mono (by decide)))
  have s2 : cSim [17] (putR (lookM (putP c 18 v) F R v) 20 (movesL F R v)) (lkM c F R v) := ((cI_sim _ 17 _ _).mono (by decide)).trans ((cI_sim _ 17 _ _).mono (by decide))
  refine ⟨s1.P (by decide) (putP_at c 18 v), s2.R (by decide) (putR_at _ _ _), ?_⟩
  unfold lkM
  rw [cI_1, up_ne _ (Or.inr (by decide)), cI_1, up_at]
section
variable {D : wD} {S : wS} {o : Nat → Nat} {c : cM} {F R : Int} {p : Nat} {v : Int → Int} {post : Int32 → wS → Prop} {xp : String → wS → Prop}
theorem LK.sim {K : List Nat} {c c' : cM} (h : cSim K c c') (h17 : 17 ∉ K) (h18 : 18 ∉ K) (h20 : 20 ∉ K) (hL : LK c F R v) : LK c' F R v :=
  ⟨h.P h18 hL.1, h.R h20 hL.2.1, by rw [(h 17 h17).1]; exact hL.2.2⟩
theorem q_lookL {post : wS → Prop} (h : CC D S o) (hB : BG c F R) (hp : isP p) (hp18 : p ≠ 18) (hv : PK F R v) (hA : PAt c p v) (hL : ((movesL F R v).length : Int) ≤ 1728) (k : post (cS S o (lkM c F R v))) : wp_X4_look D post (cS S o c) (o 17) (o p) := by
  have hs : v 64 = 0 ∨ v 64 = 1 := by have := hv.1.s; omega
  unfold wp_X4_look wp_X4_look_0
  refine ⟨o 18, c_r h rfl, (c_m h (by decide)).mpr trivial, c_k h (by decide), ?_⟩
  refine q_copyP h (p := 18) (by decide) hp hp18 hs hA ?_
  refine ⟨o 10, c_r h rfl, (c_m h (by decide)).mpr trivial, c_k h (by decide), o 18, c_r h rfl, (c_m h (by decide)).mpr trivial, c_k h (by decide), o 20, c_r h rfl, (c_m h (by decide)).mpr trivial, c_k h (by decide), ?_⟩
  refine q_generate h (r := 20) (by decide) (hB.put (p := 18) (by decide) _) (by decide) hv (putP_at c 18 v) hL ?_
  intro S9 e9
  rw [c_u1 h (by decide) (show ((7 : Nat) : Int) = 7 from rfl)] at e9
  rw [e9]
  refine ⟨nr0, by decide, ?_⟩
  intro S10 e10
  rw [show (0 : Int32) = iI 0 from rfl, c_u1 h (by decide) (show ((6 : Nat) : Int) = 6 from rfl)] at e10
  rw [e10]
  exact k
theorem q_codeAt (h : CC D S o) (hL : LK c F R v) (hn : ((movesL F R v).length : Int) ≤ 1728) {i : Int} (hi : 0 ≤ i ∧ i < (movesL F R v).length) (k : post (iI (mcode ((movesL F R v).getD i.toNat (0, 0, 0)))) (cS S o c)) : wp_X4_codeAt D post (cS S o c) (o 17) (iI i) := by
  unfold wp_X4_codeAt wp_X4_codeAt_0 wp_X4_codeAt_30 wp_X4_codeAt_31
  rw [c_i1 h (by decide) (show ((7 : Nat) : Int) = 7 from rfl), hL.2.2, show (0 : Int32) = iI 0 from rfl]
  refine ⟨fun q => absurd ((iI_lt (by omega) (by omega) (by decide) (by decide)).mp q) (by omega), fun _ => ⟨fun q => absurd ((iI_le (by omega) (by omega) (by omega) (by omega)).mp q) (by omega), fun _ => ⟨o 20, c_r h rfl, (c_m h (by decide)).mpr trivial, c_k h (by decide), ?_⟩⟩⟩
  rw [c_n h (by decide), show Int32.ofNat (cln 20) = iI 1728 from rfl]
  refine ⟨fun q => absurd ((iI_le (by decide) (by decide) (by omega) (by omega)).mp q) (by omega), fun _ => ⟨o 20, c_r h rfl, (c_m h (by decide)).mpr trivial, c_k h (by decide), ?_, ?_⟩⟩
  · rw [c_n h (by decide)]; exact iI_in (by omega) (by omega) (by have : ((cln 20 : Nat) : Int) = 1728 := rfl; omega)
  · rw [c_i h (by decide) hi.1 (by omega), hL.2.1 i hi.1 hi.2]
    exact k
theorem q_codeOfC (h : CC D S o) (hB : BG c F R) (hv : okV F R v) (hc : clV v) (hb : brd F R v) (he : epS F R v) (hA : PAt c 11 v) (hL : GL c F R v) (hf : properB F R v = true → few F R v) {i : Int} (hi : i32 i)
    (k0 : properB F R v = false → xp "java/lang/IllegalStateException" (cS S o c)) (k1 : properB F R v = true → inB i 0 ((movesL F R v).length - 1) = false → xp "java/lang/IndexOutOfBoundsException" (cS S o (lkM c F R v)))
    (k2 : properB F R v = true → inB i 0 ((movesL F R v).length - 1) = true → post (iI (mcode ((movesL F R v).getD i.toNat (0, 0, 0)))) (cS S o (lkM c F R v))) : wp_X11_codeOf D post xp (cS S o c) (o 0) (iI i) := by
  have h4 := hB.f4; have h8 := hB.f8; have r4 := hB.r4; have r8 := hB.r8
  unfold wp_X11_codeOf wp_X11_codeOf_0 wp_X11_codeOf_30
  refine q_mustBeLawful h hB hv hb hA hL k0 fun q => ?_
  have hf := hf q
  refine ⟨o 17, c_r h rfl, (c_m h (by decide)).mpr trivial, c_k h (by decide), o 11, c_r h rfl, (c_m h (by decide)).mpr trivial, c_k h (by decide), ?_⟩
  refine q_lookL h hB isP11 (by decide) (PV.k h4 h8 r4 r8 ⟨hv, hc, hb, he, q⟩) hA (by omega) ?_
  have lk := lkM_LK c F R v
  rw [show (0 : Int32) = iI 0 from rfl, iI_lt hi.1 hi.2 (by decide) (by decide)]
  refine ⟨fun z => k1 q ?_, fun z => ⟨o 17, c_r h rfl, (c_m h (by decide)).mpr trivial, c_k h (by decide), ?_⟩⟩
  · unfold inB; rw [decide_eq_false (by omega)]; rfl
  · rw [c_i1 h (by decide) (show ((7 : Nat) : Int) = 7 from rfl), lk.2.2, iI_lt hi.1 hi.2 (by omega) (by omega)]
    refine ⟨fun y => ⟨o 17, c_r h rfl, (c_m h (by decide)).mpr trivial, c_k h (by decide), ?_⟩, fun y => k1 q ?_⟩
    · refine q_codeAt h lk (by omega) ⟨by omega, y⟩ (k2 q ?_)
      exact inB_iff.mpr ⟨by omega, by omega⟩
    · unfold inB; rw [decide_eq_false (show ¬ i ≤ _ by omega), Bool.and_false]
end
