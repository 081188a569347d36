section
variable {D : wD} {S U : wS} {o : Nat → Nat} {c c' : cM} {x : Nat} {A : Nat → Nat} {m m' m1 : xM} {F R F' R' : Int} {v v' u : Int → Int} {n n' : Int} {w w' : Int → Int → Int} {mv mv' : Int → Mv} {L W : List Int} {yb : Nat → Nat} {yl : Int → Nat} {d : Int → SDt} {ye lw K : List Nat} {q q' : Int} {b Ln : Nat} {xs : Nat → Int32} {a3 a4 : Nat} {P Q : wS → Prop} {ε : Bool} {t : Mv} {M : List Mv}
/-- the reference's present game -/
abbrev GAo (m : xM) (n : Int) (w : Int → Int → Int) (mv : Int → Mv) : Prop := m 50 11 = n ∧ (∀ k : Int, 0 ≤ k → k ≤ n → gv m k = w k) ∧ (∀ k : Int, 0 ≤ k → k < n → m 9 k = codeT (mv k)) ∧ ∀ k : Int, 0 ≤ k → k < n → (quietC w mv k = true ↔ m 10 k = 0)
abbrev GXo (m : xM) (F R : Int) : Prop := ((0 ≤ m 50 11 ∧ m 50 11 ≤ 80) ∧ ∀ k, 0 ≤ k → k ≤ m 50 11 → okV F R (gv m k)) ∧ ∀ k, 0 ≤ k → k < 80 → (0 ≤ m 10 k ∧ m 10 k ≤ 1) ∧ i32 (m 9 k)
/-- one move more -/
abbrev w1o (F R : Int) (n : Int) (w : Int → Int → Int) (v : Int → Int) (t : Mv) : Int → Int → Int := fun k => if k = n + 1 then mkT F R v t else w k
abbrev mv1o (n : Int) (mv : Int → Mv) (t : Mv) : Int → Mv := fun k => if k = n then t else mv k
theorem GAo.pv (hg : GAo m n w mv) (hn : 0 ≤ n) (wn : w n = v) : pv m = v := by
  unfold Jvm.Pilot.COpeningsCabinetLaw_law_r5693_3db0e9.pv
  rw [hg.1, hg.2.1 n hn (Int.le_refl _), wn]
theorem GMo.step (bb : BFR F R) (gm : GMo F R n w mv) (hn : 0 ≤ n) (wn : w n = v) (hv : PV F R v) (ok : okMv F R v t) : GMo F R (n + 1) (w1o F R n w v t) (mv1o n mv t) ∧ w1o F R n w v t (n + 1) = mkT F R v t := by
  have p := PV_mk bb.1.1 bb.1.2 bb.2.1 bb.2.2 hv ok
  refine ⟨⟨fun k k0 k1 => ?_, fun k k0 k1 => ?_⟩, if_pos rfl⟩
  · by_cases z : k = n
    · subst z
      dsimp only [w1o, mv1o]
      rw [if_neg (show ¬ k = k + 1 by omega), if_pos rfl, if_pos rfl, wn]
      exact ⟨hv, ok, rfl⟩
    · dsimp only [w1o, mv1o]
      rw [if_neg (show ¬ k = n + 1 by omega), if_neg z, if_neg (show ¬ k + 1 = n + 1 by omega)]
      exact gm.1 k k0 (by omega)
  · by_cases z : k = n + 1
    · dsimp only [w1o]; rw [if_pos z]; exact ⟨p.2.1, p.1⟩
    · dsimp only [w1o]; rw [if_neg z]; exact gm.2 k k0 (by omega)
theorem play_step (bb : BFR F R) (hn : 0 ≤ n ∧ n < 80) (hg : GAo m n w mv) (hx : GXo m F R) (wn : w n = v) (hv : PV F R v) (ok : okMv F R v t) : GAo (playM F R m M t) (n + 1) (w1o F R n w v t) (mv1o n mv t) ∧ GXo (playM F R m M t) F R ∧ KGo m (playM F R m M t) := by
  have pe := hg.pv hn.1 wn
  have p := PV_mk bb.1.1 bb.1.2 bb.2.1 bb.2.2 hv ok
  have hu : clV (mkT F R (pv m) t) := by rw [pe]; exact p.2.1
  have e11 := hg.1
  have hm := FR_r bb.1.1 bb.1.2 bb.2.1 bb.2.2
  have om := ok.m hm.2
  refine ⟨⟨by rw [playM_made, e11], fun k k0 k1 => ?_, fun k k0 k1 => ?_, fun k k0 k1 => ?_⟩, ⟨⟨by rw [playM_made, e11]; omega, fun k k0 k1 => ?_⟩, fun k k0 k1 => ?_⟩, fun r hr => funext fun j => playM_f j (by
    rcases (show r = 12 ∨ r = 14 ∨ r = 30 ∨ r = 31 ∨ r = 32 ∨ r = 33 ∨ r = 34 ∨ r = 35 ∨ r = 36 ∨ r = 37 ∨ r = 38 ∨ r = 40 ∨ r = 41 ∨ r = 42 by omega) with rfl | rfl | rfl | rfl | rfl | rfl | rfl | rfl | rfl | rfl | rfl | rfl | rfl | rfl <;> rfl), fun j hj => playM_50 (by omega)⟩
  · rw [playM_gv hu, e11, pe]
    by_cases z : k = n + 1
    · rw [if_pos z]; exact (if_pos z).symm
    · rw [if_neg z, hg.2.1 k k0 (by omega)]; exact (if_neg z).symm
  · rw [playM_9, e11]
    by_cases z : k = n
    · rw [if_pos z]; dsimp only [mv1o]; rw [if_pos z]
    · rw [if_neg z, hg.2.2.1 k k0 (by omega)]; dsimp only [mv1o]; rw [if_neg z]
  · rw [playM_10, e11]
    by_cases z : k = n
    · subst z
      rw [if_pos rfl, pe]
      have qi := quiet_iff bb.1.1 bb.1.2 bb.2.1 bb.2.2 hv ok
      have qq : quietC (w1o F R k w v t) (mv1o k mv t) k = !loudB F v t := by
        rw [← qi]
        have a1 : w1o F R k w v t k = v := by
          dsimp only [w1o]
          rw [if_neg (show ¬ k = k + 1 by omega), wn]
        have a2 : w1o F R k w v t (k + 1) = mkT F R v t := if_pos rfl
        have a3 : mv1o k mv t k = t := if_pos rfl
        unfold quietC
        simp only [a1, a2, a3]
      rw [qq]
      cases loudB F v t
      · exact ⟨fun _ => rfl, fun _ => rfl⟩
      · exact ⟨fun y => (nomatch y), fun y => absurd (show bI true = 0 from y) (by decide)⟩
    · rw [if_neg z, ← hg.2.2.2 k k0 (by omega)]
      have qq : quietC (w1o F R n w v t) (mv1o n mv t) k = quietC w mv k := by
        have a1 : w1o F R n w v t k = w k := if_neg (show ¬ k = n + 1 by omega)
        have a2 : w1o F R n w v t (k + 1) = w (k + 1) := if_neg (show ¬ k + 1 = n + 1 by omega)
        have a3 : mv1o n mv t k = mv k := if_neg z
        unfold quietC
        simp only [a1, a2, a3]
      rw [qq]
  · rw [playM_gv hu, e11, pe]
    rw [playM_made, e11] at k1
    by_cases z : k = n + 1
    · rw [if_pos z]; exact p.1
    · rw [if_neg z]; exact hx.1.2 k k0 (by omega)
  · rw [playM_10, playM_9]
    have h := hx.2 k k0 k1
    split
    · refine ⟨?_, ?_⟩
      · cases loudB F (pv m) t <;> decide
      · unfold codeT i32
        omega
    · exact h
/-- many moves more -/
theorem play_many (bb : BFR F R) : ∀ (ts : List Mv) (n : Int) (w : Int → Int → Int) (mv : Int → Mv) (v : Int → Int) (m : xM), 0 ≤ n → n + ts.length ≤ 80 → GAo m n w mv → GXo m F R → GMo F R n w mv → w n = v → PV F R v → linB F R v ts →
    (GAo (playMs F R m ts) (n + ts.length) (addW F R n w v ts) (addMv n mv ts) ∧ GXo (playMs F R m ts) F R ∧ KGo m (playMs F R m ts)) ∧ GMo F R (n + ts.length) (addW F R n w v ts) (addMv n mv ts) ∧ addW F R n w v ts (n + ts.length) = posL F R v ts ∧ PV F R (posL F R v ts)
  | [], n, w, mv, v, m, hn, hl, hg, hx, gm, wn, hv, _ => by
    have e : n + (([] : List Mv).length : Int) = n := by simp
    rw [e]
    exact ⟨⟨hg, hx, fun _ _ => rfl, fun _ _ => rfl⟩, gm, wn, hv⟩
  | t :: ts, n, w, mv, v, m, hn, hl, hg, hx, gm, wn, hv, lb => by
    have hm := FR_r bb.1.1 bb.1.2 bb.2.1 bb.2.2
    have ok := movesL_mem (by omega) lb.1
    rw [List.length_cons] at hl
    have g1 := play_step (M := movesL F R (pv m)) bb ⟨hn, by omega⟩ hg hx wn hv ok
    have g2 := gm.step bb hn wn hv ok
    have r := play_many bb ts (n + 1) (w1o F R n w v t) (mv1o n mv t) (mkT F R v t) (playM F R m (movesL F R (pv m)) t) (by omega) (by omega) g1.1 g1.2.1 g2.1 g2.2 (PV_mk bb.1.1 bb.1.2 bb.2.1 bb.2.2 hv ok) lb.2
    have e : n + ((t :: ts).length : Int) = n + 1 + (ts.length : Int) := by rw [List.length_cons]; omega
    rw [e]
    exact ⟨⟨r.1.1, r.1.2.1, fun j hj => (r.1.2.2.1 j hj).trans (g1.2.2.1 j hj), fun j hj => (r.1.2.2.2 j hj).trans (g1.2.2.2 j hj)⟩, r.2⟩
theorem GAo.sim (hg : GAo m n w mv) (s : SIM m m') : GAo m' n w mv := ⟨(s.o rfl).trans hg.1, fun k k0 k1 => (s.gv k).trans (hg.2.1 k k0 k1), fun k k0 k1 => by rw [s.row (r := 9) rfl]; exact hg.2.2.1 k k0 k1, fun k k0 k1 => by rw [s.row (r := 10) rfl]; exact hg.2.2.2 k k0 k1⟩
theorem GXo.sim (hg : GXo m F R) (s : SIM m m') : GXo m' F R := ⟨⟨by rw [s.o (j := 11) rfl]; exact hg.1.1, fun k k0 k1 => by rw [s.o (j := 11) rfl] at k1; rw [s.gv]; exact hg.1.2 k k0 k1⟩, fun k k0 k1 => by rw [s.row (r := 9) rfl, s.row (r := 10) rfl]; exact hg.2 k k0 k1⟩
theorem KGo.sim (s : SIM m m') : KGo m m' := ⟨fun r hr => s.row (by rcases (show r = 12 ∨ r = 14 ∨ r = 30 ∨ r = 31 ∨ r = 32 ∨ r = 33 ∨ r = 34 ∨ r = 35 ∨ r = 36 ∨ r = 37 ∨ r = 38 ∨ r = 40 ∨ r = 41 ∨ r = 42 by omega) with rfl | rfl | rfl | rfl | rfl | rfl | rfl | rfl | rfl | rfl | rfl | rfl | rfl | rfl <;> rfl), fun j hj => s.o (by rcases hj with rfl | rfl | rfl | rfl | rfl | rfl <;> rfl)⟩
theorem KGo.trans {m2 : xM} (s : KGo m m') (t : KGo m' m2) : KGo m m2 := ⟨fun r hr => (t.1 r hr).trans (s.1 r hr), fun j hj => (t.2 j hj).trans (s.2 j hj)⟩
theorem XRo.gx (h : XRo m F R) : GXo m F R := ⟨⟨h.1.2.1, h.1.2.2⟩, h.2.2.2.2.2.2.2.1⟩
/-- a board's tables lie in rows 1 to 9 -/
theorem BG_of1 (h1 : ∀ n, 1 ≤ n → n < 10 → c'.1 n = c.1 n) (h2 : ∀ n, 1 ≤ n → n < 10 → c'.2 n = c.2 n) (h : BG c F R) : BG c' F R := by
  unfold BG
  rw [h1 1 (by decide) (by decide), h1 2 (by decide) (by decide), h1 3 (by decide) (by decide), h2 1 (by decide) (by decide), h2 4 (by decide) (by decide), h2 5 (by decide) (by decide), h2 6 (by decide) (by decide), h2 7 (by decide) (by decide), h2 8 (by decide) (by decide), h2 9 (by decide) (by decide)]
  exact h
/-- behind a change of the class's game -/
theorem HFo.game (hf : HFo D S o x A lw c m F R v n w mv L W yb yl d ye q F' R') (h0 : sL D.2.2.2 = []) (sm : cSim K c c') (hK : ∀ k ∈ [1, 2, 3, 4, 5, 6, 7, 8, 9, 46, 47, 48, 51], k ∉ K) (r0 : i32 (c'.1 0 16) ∧ c'.1 0 17 = c.1 0 17) (hv : PV F R v') (pa : PAt c' 11 v') (pg : PG c' n' w' mv') (wn : w' n' = v') (gm : GMo F R n' w' mv') :
    HFo D (cS S o c') o x A lw c' m F R v' n' w' mv' L W yb yl d ye q F' R' := by
  have cl := hf.2.2.2.1
  obtain ⟨p1, p2, p3⟩ := cl.2.2.2.1
  have k9 : ∀ k, 1 ≤ k → k < 10 → k ∉ K := fun k k0 k1 => hK k (by
    rcases (show k = 1 ∨ k = 2 ∨ k = 3 ∨ k = 4 ∨ k = 5 ∨ k = 6 ∨ k = 7 ∨ k = 8 ∨ k = 9 by omega) with rfl | rfl | rfl | rfl | rfl | rfl | rfl | rfl | rfl <;> decide)
  have nw : NOW c' F R v' := ⟨BG_of1 (fun k k0 k1 => (sm k (k9 k k0 k1)).1) (fun k k0 k1 => (sm k (k9 k k0 k1)).2) cl.1.1.1, hv.1, hv.2.1, hv.2.2.1, hv.2.2.2.1, pa, ⟨by rw [pg.1]; exact pg.2.1, fun _ => hv.2.2.2.2⟩⟩
  exact hf.cls h0 (cl.book hf.1.1.1 hf.1.1.2 (clsL_nd hf.2.2.1) ⟨nw, pg, wn, gm⟩ (sm 46 (hK 46 (by decide))).1 (sm 47 (hK 47 (by decide))).1 (sm 48 (hK 48 (by decide))).1 ⟨by rw [(sm 51 (hK 51 (by decide))).1]; exact p1, r0.1, by rw [r0.2]; exact p3⟩)
/-- both games are the same again -/
theorem game_fin (hD : wDok D b Ln xs) (h5 : HFo D U o x A lw c' m F R v' n' w' mv' L W yb yl d ye q F R) (lk : LKo m c F R n w mv L W d ye ε) (sm : cSim K c c') (hK : ∀ k ∈ [0, 46, 51], k ∉ K) (kg : KGo m m') (hg : GAo m' n' w' mv') (hx : GXo m' F R) (hP : ∀ S', RELo D S' o x A lw (q + 1) ε → P S') : P (xS U x A m') :=
  hP _ (REL.mk ((h5.ref hD.2.2.1.1 hD.2.2.2.2 (h5.2.2.2.2.game kg.gx hx.1 hx.2)).succ (by omega)) (lk.game kg (sm 0 (hK 0 (by decide))).1 (sm 51 (hK 51 (by decide))).1 (sm 46 (hK 46 (by decide))).1 hg))
end
