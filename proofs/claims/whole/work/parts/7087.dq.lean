section
variable {D : wD} {S : wS} {o : Nat → Nat} {c : cM} {F R : Int} {p : Nat} {v : Int → Int} {post : Int32 → wS → Prop} {xp : String → wS → Prop}
/-- the class's state of a position of the present game -/
def stateC (F R n : Int) (w : Int → Int → Int) (mv : Int → Mv) (v : Int → Int) : Int :=
  if (movesL F R v).length = 0 then (if chkB F R v (v 64) then 1 else 2)
  else if deadB F R v then 3 else if 3 ≤ sumL (fun k => if sameB (w k) v then 1 else 0) 0 (n + 1).toNat then 4 else if 40 ≤ calmW w mv (n - 1) 0 n.toNat then 5 else 0
theorem calmW_r (w : Int → Int → Int) (mv : Int → Mv) : ∀ (d : Nat) (i c : Int), c ≤ calmW w mv i c d ∧ calmW w mv i c d ≤ c + d := by
  intro d
  induction d with
  | zero => intro i c; simp [calmW]
  | succ d ih => intro i c; have := ih (i - 1) (c + 1); unfold calmW; split <;> omega
theorem PG.sim {K : List Nat} {c c' : cM} {n : Int} {w : Int → Int → Int} {mv : Int → Mv} (h : cSim K c c') (h13 : 13 ∉ K) (h14 : 14 ∉ K) (h15 : 15 ∉ K) (hG : PG c n w mv) : PG c' n w mv := by
  unfold PG RS
  rw [(h 13 h13).1, (h 14 h14).2, (h 15 h15).1]
  exact hG
theorem q_stateNowC {n : Int} {w : Int → Int → Int} {mv : Int → Mv} (h : CC D S o) (hB : BG c F R) (hv : PV F R v) (hA : PAt c 11 v) (hG : PG c n w mv) (k : post (iI (stateC F R n w mv v)) (cS S o (lookM c F R v))) : wp_X11_stateNow D post (cS S o c) (o 0) := by
  have h4 := hB.f4; have h8 := hB.f8; have r4 := hB.r4; have r8 := hB.r8
  have hm := hB.m
  have hk := PV.k h4 h8 r4 r8 hv
  unfold stateC at k
  have sim := lookM_sim c F R v
  have hB' := hB.look v
  have hA' : PAt (lookM c F R v) 11 v := sim.P (by decide) hA
  have hG' := PG.sim sim (by decide) (by decide) (by decide) hG
  unfold wp_X11_stateNow wp_X11_stateNow_0 wp_X11_stateNow_29 wp_X11_stateNow_76
  refine ⟨o 10, c_r h rfl, (c_m h (by decide)).mpr trivial, c_k h (by decide), o 11, c_r h rfl, (c_m h (by decide)).mpr trivial, c_k h (by decide), ?_⟩
  refine q_hasMove h hB isP11 hk hA ?_
  rw [bI_0]
  refine ⟨fun q => ⟨o 11, c_r h rfl, (c_m h (by decide)).mpr trivial, c_k h (by decide), ?_⟩, fun q => ⟨o 11, c_r h rfl, (c_m h (by decide)).mpr trivial, c_k h (by decide), ?_⟩⟩
  · rw [if_neg (show ¬ (movesL F R v).length = 0 by simpa using q)] at k
    refine q_isDeadC h ⟨by omega, hm.2⟩ isP11 hv.1.p hv.2.2.1 hA' ?_
    rw [bI_0]
    refine ⟨fun z => ⟨o 13, c_r h rfl, (c_m h (by decide)).mpr trivial, c_k h (by decide), o 11, c_r h rfl, (c_m h (by decide)).mpr trivial, c_k h (by decide), ?_⟩, fun z => ?_⟩
    · rw [z, if_neg (by decide)] at k
      refine q_timesOf (PG.go h hG') (PAt.po h isP11 hA') (hv.1.rg hm.2) ?_
      have ts := sumL_r (f := fun k => if sameB (w k) v = true then 1 else 0) (fun j => by split <;> decide) 0 (n + 1).toNat
      have hn := hG.2.1
      rw [show (3 : Int32) = iI 3 from rfl, iI_lt (by omega) (by omega) (by decide) (by decide)]
      refine ⟨fun z3 => ⟨o 13, c_r h rfl, (c_m h (by decide)).mpr trivial, c_k h (by decide), ?_⟩, fun z3 => ?_⟩
      · rw [if_neg (by omega)] at k
        refine q_calmMoves (PG.go h hG') ?_
        have cr := calmW_r w mv n.toNat (n - 1) 0
        rw [show (40 : Int32) = iI 40 from rfl, iI_lt (by omega) (by omega) (by decide) (by decide)]
        refine ⟨fun z4 => ?_, fun z4 => ?_⟩
        · rw [if_neg (by omega)] at k; exact k
        · rw [if_pos (by omega)] at k; exact k
      · rw [if_pos (by omega)] at k; exact k
    · rw [if_pos (show deadB F R v = true by simpa using z)] at k
      exact k
  · rw [if_pos (show (movesL F R v).length = 0 by simpa using q)] at k
    refine q_isInCheckC h hB' isP11 hv.1 hv.2.2.1 hA' hk.2.2.2.2.2.1 ?_
    rw [bI_0]
    refine ⟨fun z => ?_, fun z => ?_⟩
    · rw [z, if_neg (by decide)] at k; exact k
    · rw [if_pos (show chkB F R v (v 64) = true by simpa using z)] at k; exact k
theorem q_stateCl {n : Int} {w : Int → Int → Int} {mv : Int → Mv} (h : CC D S o) (hB : BG c F R) (hv : okV F R v) (hc : clV v) (hb : brd F R v) (he : epS F R v) (hA : PAt c 11 v) (hL : GL c F R v) (hG : PG c n w mv)
    (k0 : properB F R v = false → xp "java/lang/IllegalStateException" (cS S o c)) (k1 : properB F R v = true → post (iI (stateC F R n w mv v)) (cS S o (lookM c F R v))) : wp_X11_state D post xp (cS S o c) (o 0) := by
  unfold wp_X11_state wp_X11_state_0
  refine q_mustBeLawful h hB hv hb hA hL k0 fun q => ?_
  exact q_stateNowC h hB ⟨hv, hc, hb, he, q⟩ hA hG (k1 q)
theorem q_moveCountC (h : CC D S o) (hB : BG c F R) (hv : okV F R v) (hc : clV v) (hb : brd F R v) (he : epS F R v) (hA : PAt c 11 v) (hL : GL c F R v)
    (k0 : properB F R v = false → xp "java/lang/IllegalStateException" (cS S o c)) (k1 : properB F R v = true → post (iI (movesL F R v).length) (cS S o (lookM c F R v))) : wp_X11_moveCount D post xp (cS S o c) (o 0) := by
  have h4 := hB.f4; have h8 := hB.f8; have r4 := hB.r4; have r8 := hB.r8
  unfold wp_X11_moveCount wp_X11_moveCount_0
  refine q_mustBeLawful h hB hv hb hA hL k0 fun q => ?_
  refine ⟨o 10, c_r h rfl, (c_m h (by decide)).mpr trivial, c_k h (by decide), o 11, c_r h rfl, (c_m h (by decide)).mpr trivial, c_k h (by decide), ?_⟩
  exact q_numberOfMoves h hB isP11 (PV.k h4 h8 r4 r8 ⟨hv, hc, hb, he, q⟩) hA (k1 q)
theorem q_repetitionsC {n : Int} {w : Int → Int → Int} {mv : Int → Mv} (h : CC D S o) (hv : rgV v) (hA : PAt c 11 v) (hG : PG c n w mv) (k : post (iI (sumL (fun k => if sameB (w k) v then 1 else 0) 0 (n + 1).toNat)) (cS S o c)) : wp_X11_repetitions D post (cS S o c) (o 0) := by
  unfold wp_X11_repetitions wp_X11_repetitions_0
  refine ⟨o 13, c_r h rfl, (c_m h (by decide)).mpr trivial, c_k h (by decide), o 11, c_r h rfl, (c_m h (by decide)).mpr trivial, c_k h (by decide), ?_⟩
  exact q_timesOf (PG.go h hG) (PAt.po h isP11 hA) hv k
theorem q_madeCountC {n : Int} {w : Int → Int → Int} {mv : Int → Mv} (h : CC D S o) (hG : PG c n w mv) (k : post (iI n) (cS S o c)) : wp_X11_madeCount D post (cS S o c) (o 0) := by
  unfold wp_X11_madeCount wp_X11_madeCount_0
  refine ⟨o 13, c_r h rfl, (c_m h (by decide)).mpr trivial, c_k h (by decide), ?_⟩
  rw [c_i1 h (by decide) (show ((3 : Nat) : Int) = 3 from rfl), hG.1]
  exact k
theorem q_makeC {post : wS → Prop} {n : Int} {w : Int → Int → Int} {mv : Int → Mv} (h : CC D S o) (hB : BG c F R) (hv : PV F R v) (hA : PAt c 11 v) (hG : PG c n w mv) (hn : n < 80) {t : Mv} (ht : okMv F R v t)
    (k : post (cS S o (putS (cI (cI (putP c 11 (mkT F R v t)) 15 n (mcode t)) 13 3 (n + 1)) 14 (n + 1) (mkT F R v t)))) : wp_X11_make D post (cS S o c) (o 0) (iI (mcode t)) := by
  have h4 := hB.f4; have h8 := hB.f8; have r4 := hB.r4; have r8 := hB.r8
  have hm := hB.m
  have hk := PV.k h4 h8 r4 r8 hv
  have hv' := PV_mk h4 h8 r4 r8 hv ht
  unfold wp_X11_make wp_X11_make_0
  refine ⟨o 11, c_r h rfl, (c_m h (by decide)).mpr trivial, c_k h (by decide), ?_⟩
  refine q_apply h hB isP11 hv.1 hv.2.1 hv.2.2.1 hv.2.2.2.1 (proper_parts hv.2.2.2.2).2.2.1 hA ht ?_
  refine ⟨o 13, c_r h rfl, (c_m h (by decide)).mpr trivial, c_k h (by decide), o 11, c_r h rfl, (c_m h (by decide)).mpr trivial, c_k h (by decide), ?_⟩
  exact q_addMove h (PG.sim (putP_sim c 11 _) (by decide) (by decide) (by decide) hG) hn isP11 (putP_at c 11 _) (hv'.1.rg hm.2) k
/-- what a made move leaves -/
def makeM (F R : Int) (c : cM) (n : Int) (v : Int → Int) (t : Mv) : cM := putS (cI (cI (putP c 11 (mkT F R v t)) 15 n (mcode t)) 13 3 (n + 1)) 14 (n + 1) (mkT F R v t)
theorem putS_sim (c : cM) (r : Nat) (i : Int) (v : Int → Int) : cSim [r] c (putS c r i v) := fun n hn => ⟨rfl, putS_r c i v (by simpa using hn)⟩
theorem makeM_sim (F R : Int) (c : cM) (n : Int) (v : Int → Int) (t : Mv) : cSim [11, 13, 14, 15] c (makeM F R c n v t) :=
  (((putP_sim c 11 _).mono (by decide)).trans ((cI_sim _ 15 _ _).mono (by decide))).trans (((cI_sim _ 13 _ _).mono (by decide)).trans ((putS_sim _ 14 _ _).mono (by decide)))
theorem makeM_P (F R : Int) (c : cM) (n : Int) (v : Int → Int) (t : Mv) : PAt (makeM F R c n v t) 11 (mkT F R v t) := by
  have s : cSim [13, 14, 15] (putP c 11 (mkT F R v t)) (makeM F R c n v t) := (((cI_sim _ 15 _ _).mono (by decide)).trans ((cI_sim _ 13 _ _).mono (by decide))).trans ((putS_sim _ 14 _ _).mono (by decide))
  exact s.P (by decide) (putP_at c 11 _)
theorem makeM_G {n : Int} {w : Int → Int → Int} {mv : Int → Mv} (hG : PG c n w mv) (hn : n < 80) {t : Mv} (hv : rgV (mkT F R v t)) (ht : mOK t) : PG (makeM F R c n v t) (n + 1) (fun k => if k = n + 1 then mkT F R v t else w k) (fun k => if k = n then t else mv k) :=
  PG.add (PG.sim (putP_sim c 11 _) (by decide) (by decide) (by decide) hG) hn hv ht
theorem okMv.m {F R : Int} {v : Int → Int} {t : Mv} (hn : F * R ≤ 64) (h : okMv F R v t) : mOK t := by
  obtain ⟨h1, h2, h3, -⟩ := h; exact ⟨by omega, by omega, by omega⟩
end
