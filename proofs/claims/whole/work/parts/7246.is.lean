section
variable {D : wD} {U S : wS} {o : Nat → Nat} {c c' : cM} {x : Nat} {A : Nat → Nat} {m m' : xM} {F R F' R' : Int} {v v' : Int → Int} {n n' : Int} {w w' : Int → Int → Int} {mv mv' : Int → Mv} {L W : List Int} {yb : Nat → Nat} {yl : Int → Nat} {d : Int → SDt} {ye lw : List Nat} {q q' : Int} {b Ln : Nat} {xs : Nat → Int32} {ε : Bool}
theorem NOW.csim {K : List Nat} (h : NOW c F R v) (s : cSim K c c') (hK : ∀ k ∈ sgK, k ∉ K) : NOW c' F R v := by
  obtain ⟨h1, h2, h3, h4, h5, h6, h7⟩ := h
  have k10 : ∀ k, k < 10 → k ∈ sgK := by decide
  refine ⟨BG_of (fun k hk => (s k (hK k (k10 k hk))).1) (fun k hk => (s k (hK k (k10 k hk))).2) h1, h2, h3, h4, h5, ?_, ?_⟩
  · unfold PAt at h6 ⊢
    rw [(s 11 (hK 11 (by decide))).1, (s 11 (hK 11 (by decide))).2]
    exact h6
  · unfold GL at h7 ⊢
    rw [(s 13 (hK 13 (by decide))).1]
    exact h7
theorem CLo.succ (h : CLo D U o c F R v n w mv L W yb yl d ye q) (hq : q ≤ q') : CLo D U o c F R v n w mv L W yb yl d ye q' := by
  obtain ⟨a, b, s, ⟨p1, p2, p3, p4⟩, e1, e2⟩ := h
  refine ⟨a, b, fun i hi => ⟨(s i hi).1, (s i hi).2.1, fun g g0 g1 => ?_⟩, ⟨p1, p2, p3, by omega⟩, e1, ?_⟩
  · obtain ⟨i1, i2, i3, i4, i5, i6⟩ := (s i hi).2.2 g g0 g1
    exact ⟨i1, i2, i3, i4, i5, by omega⟩
  · rcases e2 with e2 | ⟨y, y1, y2, y3, y4⟩
    · exact .inl e2
    · exact .inr ⟨y, y1, y2, y3.mono (Int.le_refl _) (by omega), y4⟩
theorem HFo.query {K : List Nat} (h : HFo D U o x A lw c m F R v n w mv L W yb yl d ye q F' R') (h0 : sL D.2.2.2 = []) (s : cSim K c c') (hK : ∀ k ∈ sgK, k ∉ K) : HFo D (cS U o c') o x A lw c' m F R v n w mv L W yb yl d ye q F' R' := by
  have cl := h.2.2.2.1
  obtain ⟨a1, a2, a3, a4⟩ := cl.1
  refine h.cls h0 (cl.book h.1.1.1 h.1.1.2 (clsL_nd h.2.2.1) ⟨a1.csim s hK, PG.sim s (hK 13 (by decide)) (hK 14 (by decide)) (hK 15 (by decide)) a2, a3, a4⟩ (s 46 (hK 46 (by decide))).1 (s 47 (hK 47 (by decide))).1 (s 48 (hK 48 (by decide))).1 ?_)
  obtain ⟨p1, p2, p3⟩ := cl.2.2.2.1
  rw [(s 51 (hK 51 (by decide))).1, (s 0 (hK 0 (by decide))).1]
  exact ⟨p1, p2, p3⟩
/-- the relation, put together again -/
theorem REL.mk (h : HFo D U o x A lw c m F R v n w mv L W yb yl d ye q F R) (hl : LKo m c F R n w mv L W d ye ε) : RELo D U o x A lw q ε :=
  ⟨c, m, F, R, v, n, w, mv, L, W, yb, yl, d, ye, h.1, h.2.1, h.2.2.1, h.2.2.2.1, h.2.2.2.2, hl⟩
theorem HFo.succ (h : HFo D U o x A lw c m F R v n w mv L W yb yl d ye q F' R') (hq : q ≤ q') : HFo D U o x A lw c m F R v n w mv L W yb yl d ye q' F' R' := ⟨h.1, h.2.1, h.2.2.1, h.2.2.2.1.succ hq, h.2.2.2.2⟩
/-- a call of the reference that keeps what the relation speaks of -/
theorem HFo.refq (h : HFo D U o x A lw c m F R v n w mv L W yb yl d ye q F R) (hD : wDok D b Ln xs) (s : SIM m m') : HFo D (xS U x A m') o x A lw c m' F R v n w mv L W yb yl d ye q F R := h.ref hD.2.2.1.1 hD.2.2.2.2 (h.2.2.2.2.sim s)
theorem pv_eq (h : LKo m c F R n w mv L W d ye ε) (hn : 0 ≤ n) : pv m = w n := by
  unfold pv
  rw [h.2.1.1]
  exact h.2.1.2.1 n hn (Int.le_refl _)
/-- CALL: isWhiteToMove -/
theorem call_white (hD : wDok D b Ln xs) (hR : RELo D S o x A lw q ε) {P Q : wS → Prop} (hP : ∀ S', RELo D S' o x A lw (q + 1) ε → P S') :
    wp_X11_isWhiteToMove D (fun r S2 => wp_X12_isWhiteToMove D (fun r2 S4 => (r = r2 → P S4) ∧ (¬ r = r2 → Q S4)) S2 x) S (o 0) := by
  obtain ⟨c, m, F, R, v, n, w, mv, L, W, yb, yl, d, ye, bf, cs, hp, cl, xr, lk⟩ := hR
  have hf : HFo D S o x A lw c m F R v n w mv L W yb yl d ye q F R := ⟨bf, cs, hp, cl, xr⟩
  have e1 := bf.1.2
  have pn := cl.1.2.1.2.1
  have ev : pv m = v := (pv_eq lk pn.1).trans cl.1.2.2.1
  have hs := cl.1.1.2.1.2.1
  rw [e1]
  refine q_isWhiteC bf.1.1 cl.1.1.2.2.2.2.2.1 hs ?_
  rw [← e1]
  rw [bf.2.1.2]
  refine q_isWhiteToMove bf.2.1.1 xr.1 ?_
  have ea : iI (v 64) = iI (bI (decide (pv m 64 = 1))) := by
    rw [ev]
    rcases (show v 64 = 0 ∨ v 64 = 1 by omega) with z | z <;> rw [z] <;> rfl
  have s0 : SIM m (up m 50 0 0) := (SIM.rf m).up0 0
  refine ⟨fun _ => hP _ (REL.mk ((hf.refq hD s0).succ (by omega)) (lk.sim s0)), fun z => absurd ea z⟩
end
