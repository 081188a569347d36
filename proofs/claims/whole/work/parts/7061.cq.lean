/-! PHASE 3, the class's rules: what is looked at, the aims and targets of a piece -/
def reachC (F R : Int) (occ : Int → Bool) (kd a t : Int) : Bool :=
  if kd = 1 then kstepB F R a t else if kd = 2 then slideB F R occ a true t || slideB F R occ a false t else if kd = 3 then slideB F R occ a true t else if kd = 4 then slideB F R occ a false t else if kd = 5 then nstepB F R a t else false
def sh0 (F R : Int) (v : Int → Int) (t : Int) : Bool := reachC F R (occB v) 2 (kingB F R v (v 64)) t && isOfB (v t) (v 64)
def noneB (P : Int → Bool) : Bool := allL (fun t => !P t) 0 64
def shB (F R : Int) (v : Int → Int) (t : Int) : Bool := !noneB (foundB F R v (fun u => occB v u && !sh0 F R v u) (1 - v 64) (kingB F R v (v 64))) && sh0 F R v t
def pawnAB (F R : Int) (v : Int → Int) (a b : Int) : Bool :=
  (inB (a + upB (v 64) * F) 0 (F * R - 1) && !occB v (a + upB (v 64) * F) && (decide (b = a + upB (v 64) * F) ||
    (decide (a / F = if v 64 = 1 then 1 else R - 2) && decide (6 ≤ R) && !occB v (a + upB (v 64) * F + upB (v 64) * F) && decide (b = a + upB (v 64) * F + upB (v 64) * F)))) ||
  (aimB F R a (upB (v 64)) b && (isOfB (v b) (1 - v 64) || (!decide (v 66 = -1) && decide (b = v 66))))
def aimsB (F R : Int) (v : Int → Int) (a b : Int) : Bool := if kindO (v a) = 6 then pawnAB F R v a b else reachC F R (occB v) (kindO (v a)) a b && !isOfB (v b) (v 64)
def goneB (F : Int) (v : Int → Int) (cp : Bool) (b u : Int) : Bool := decide (u = b) || (cp && decide (b = v 66) && decide (u = b - upB (v 64) * F))
def thenB (F : Int) (v : Int → Int) (cp : Bool) (a b u : Int) : Bool := ((occB v u && !goneB F v cp b u) && !decide (u = a)) || decide (u = b)
def passC (v : Int → Int) (a : Int) : Bool := decide (kindO (v a) = 6) && !decide (v 66 = -1)
def safeB (F R : Int) (v : Int → Int) (a b : Int) : Bool :=
  noneB (fun t => foundB F R v (thenB F v (passC v a) a b) (1 - v 64) (if kindO (v a) = 1 then b else kingB F R v (v 64)) t && !goneB F v (passC v a) b t)
def fastB (F R : Int) (v : Int → Int) (a : Int) : Bool := !chkB F R v (v 64) && !passC v a && !decide (kindO (v a) = 1) && !shB F R v a
def tgtB (F R : Int) (v : Int → Int) (a b : Int) : Bool := if fastB F R v a then aimsB F R v a b else aimsB F R v a b && safeB F R v a b
theorem none_z (P : Int → Bool) : (zS P = 0) = (noneB P = true) := by
  rw [zS_0]
  unfold noneB
  apply propext
  rw [allL_iff]
  constructor
  · intro h j h0 h1; rw [h j h0 (by omega)]; rfl
  · intro h k h0 h1
    have := h k h0 (by omega)
    simpa using this
/-- what the rules hold behind a look -/
abbrev RA (c : cM) (F R : Int) (v : Int → Int) : Prop := c.1 10 1 = kingB F R v (v 64) ∧ c.2 10 2 = zS (occB v) ∧ c.2 10 3 = zS (fun k => isOfB (v k) (v 64)) ∧ c.1 10 4 = bI (chkB F R v (v 64)) ∧ c.2 10 5 = zS (shB F R v)
def lookM (c : cM) (F R : Int) (v : Int → Int) : cM :=
  cJ (cI (cJ (cJ (cI c 10 1 (kingB F R v (v 64))) 10 2 (zS (occB v))) 10 3 (zS (fun k => isOfB (v k) (v 64)))) 10 4 (bI (chkB F R v (v 64)))) 10 5 (zS (shB F R v))
theorem lookM_RA (c : cM) (F R : Int) (v : Int → Int) : RA (lookM c F R v) F R v := by
  refine ⟨?_, ?_, ?_, ?_, ?_⟩ <;> simp [lookM, cI_at, cJ_at, cI_2, cJ_1]
theorem lookM_1 (c : cM) (F R : Int) (v : Int → Int) {n : Nat} (h : n ≠ 10) : (lookM c F R v).1 n = c.1 n := by
  funext j; simp [lookM, cI_at, cJ_1, h]
theorem lookM_2 (c : cM) (F R : Int) (v : Int → Int) {n : Nat} (h : n ≠ 10) : (lookM c F R v).2 n = c.2 n := by
  funext j; simp [lookM, cJ_at, cI_2, h]
theorem lookM_P {c : cM} {F R : Int} {v w : Int → Int} {n : Nat} (hn : isP n) (hA : PAt c n w) : PAt (lookM c F R v) n w := by
  have : n ≠ 10 := fun e => by have := hn.2.1; rw [e] at this; exact absurd this (by decide)
  unfold PAt
  rw [lookM_1 c F R v this, lookM_2 c F R v this]
  exact hA
theorem BG_of {c c' : cM} {F R : Int} (h1 : ∀ n, n < 10 → c'.1 n = c.1 n) (h2 : ∀ n, n < 10 → c'.2 n = c.2 n) (h : BG c F R) : BG c' F R := by
  unfold BG
  rw [h1 1 (by decide), h1 2 (by decide), h1 3 (by decide), h2 1 (by decide), h2 4 (by decide), h2 5 (by decide), h2 6 (by decide), h2 7 (by decide), h2 8 (by decide), h2 9 (by decide)]
  exact h
section
variable {D : wD} {S : wS} {o : Nat → Nat} {c : cM} {F R : Int} {p : Nat} {v : Int → Int}
theorem BG.look (hB : BG c F R) (v : Int → Int) : BG (lookM c F R v) F R := BG_of (fun n hn => lookM_1 c F R v (by omega)) (fun n hn => lookM_2 c F R v (by omega)) hB
theorem q_reach {post : Int64 → wS → Prop} (h : CC D S o) (hB : BG c F R) {a kd : Int} {occ : Int → Bool} (ha : 0 ≤ a ∧ a < F * R) (hk : 0 ≤ kd ∧ kd ≤ 6) (k : post (zS (reachC F R occ kd a)) (cS S o c)) : wp_X0_reach D post (cS S o c) (o 1) (iI kd) (iI a) (zS occ) := by
  have hm := hB.m
  unfold wp_X0_reach wp_X0_reach_0
  have hin : inB a 0 (F * R - 1) = true := by unfold inB; rw [decide_eq_true (by omega), decide_eq_true (by omega)]; rfl
  rw [q_has h hB ⟨by omega, by omega⟩, hin]
  refine ⟨fun _ => ?_, fun hh => absurd hh (by decide)⟩
  have hvi : vp_in (iI a) 64 := iI_in (by omega) (by omega) (by omega)
  have hz : ∀ P : Int → Bool, (∀ t, reachC F R occ kd a t = P t) → post (zS P) (cS S o c) := fun P hP => by
    have : reachC F R occ kd a = P := funext hP
    rw [← this]; exact k
  refine ⟨fun e => ?_, fun e => ?_, fun e => ?_, fun e => ?_, fun e => ?_, fun e1 e2 e3 e4 e5 => ?_⟩
  · have e : kd = 1 := by rcases (show kd = 0 ∨ kd = 1 ∨ kd = 2 ∨ kd = 3 ∨ kd = 4 ∨ kd = 5 ∨ kd = 6 by omega) with q | q | q | q | q | q | q <;> rw [q] at e ⊢ <;> revert e <;> decide
    refine ⟨o 5, c_r h rfl, (c_m h (by decide)).mpr trivial, c_k h (by decide), (c_n h (n := 5) (by decide)).symm ▸ hvi, ?_⟩
    rw [c_j h (by decide) (by omega) (by omega), hB.ks ha.1 ha.2]
    exact hz _ fun t => by unfold reachC; rw [if_pos e]
  · have e : kd = 2 := by rcases (show kd = 0 ∨ kd = 1 ∨ kd = 2 ∨ kd = 3 ∨ kd = 4 ∨ kd = 5 ∨ kd = 6 by omega) with q | q | q | q | q | q | q <;> rw [q] at e ⊢ <;> revert e <;> decide
    refine q_slides (st := true) h hB ha (q_slides (st := false) h hB ha ?_)
    rw [zS_or]
    exact hz _ fun t => by unfold reachC; rw [if_neg (by omega), if_pos e]
  · have e : kd = 3 := by rcases (show kd = 0 ∨ kd = 1 ∨ kd = 2 ∨ kd = 3 ∨ kd = 4 ∨ kd = 5 ∨ kd = 6 by omega) with q | q | q | q | q | q | q <;> rw [q] at e ⊢ <;> revert e <;> decide
    refine q_slides (st := true) h hB ha ?_
    exact hz _ fun t => by unfold reachC; rw [if_neg (by omega), if_neg (by omega), if_pos e]
  · have e : kd = 4 := by rcases (show kd = 0 ∨ kd = 1 ∨ kd = 2 ∨ kd = 3 ∨ kd = 4 ∨ kd = 5 ∨ kd = 6 by omega) with q | q | q | q | q | q | q <;> rw [q] at e ⊢ <;> revert e <;> decide
    refine q_slides (st := false) h hB ha ?_
    exact hz _ fun t => by unfold reachC; rw [if_neg (by omega), if_neg (by omega), if_neg (by omega), if_pos e]
  · have e : kd = 5 := by rcases (show kd = 0 ∨ kd = 1 ∨ kd = 2 ∨ kd = 3 ∨ kd = 4 ∨ kd = 5 ∨ kd = 6 by omega) with q | q | q | q | q | q | q <;> rw [q] at e ⊢ <;> revert e <;> decide
    refine ⟨o 6, c_r h rfl, (c_m h (by decide)).mpr trivial, c_k h (by decide), (c_n h (n := 6) (by decide)).symm ▸ hvi, ?_⟩
    rw [c_j h (by decide) (by omega) (by omega), hB.ns ha.1 ha.2]
    exact hz _ fun t => by unfold reachC; rw [if_neg (by omega), if_neg (by omega), if_neg (by omega), if_neg (by omega), if_pos e]
  · have e : kd = 0 ∨ kd = 6 := by
      rcases (show kd = 0 ∨ kd = 1 ∨ kd = 2 ∨ kd = 3 ∨ kd = 4 ∨ kd = 5 ∨ kd = 6 by omega) with q | q | q | q | q | q | q
      · exact Or.inl q
      · exact absurd (by rw [q]; rfl) e1
      · exact absurd (by rw [q]; rfl) e2
      · exact absurd (by rw [q]; rfl) e3
      · exact absurd (by rw [q]; rfl) e4
      · exact absurd (by rw [q]; rfl) e5
      · exact Or.inr q
    rw [zS_f]
    exact hz _ fun t => by unfold reachC; rw [if_neg (by omega), if_neg (by omega), if_neg (by omega), if_neg (by omega), if_neg (by omega)]
theorem cJ_cJ (c : cM) (n : Nat) (j : Int) (x y : Int64) : cJ (cJ c n j x) n j y = cJ c n j y := by
  unfold cJ
  congr 1
  funext g i
  unfold upJ
  dsimp only
  split <;> rfl
theorem found_none (hB : BG c F R) (hv : okP v) (hb : brd F R v) {s a : Int} (hs : s = 0 ∨ s = 1) (ha : 0 ≤ a ∧ a < F * R) : (noneB (foundB F R v (occB v) s a) = true) = (atkB F R v a s = false) := by
  rw [← none_z]; exact found_zero hB hv hb hs ha
theorem q_look {post : wS → Prop} (h : CC D S o) (hB : BG c F R) (hp : isP p) (hv : okV F R v) (hb : brd F R v) (hA : PAt c p v) (hk : kingB F R v (v 64) < F * R) (k : post (cS S o (lookM c F R v))) : wp_X8_look D post (cS S o c) (o 10) (o p) := by
  have hm := hB.m
  have hs : v 64 = 0 ∨ v 64 = 1 := by have := hv.s; omega
  have hr := kingB_r v (v 64) (show 0 ≤ F * R by omega)
  have hz : (iI (v 64) = 0) = (v 64 = 0) := by rw [show (0 : Int32) = iI 0 from rfl, iI_eq (by omega) (by omega) (by decide) (by decide)]
  have hp10 : p ≠ 10 := fun e => by have := hp.2.1; rw [e] at this; exact absurd this (by decide)
  have keep : ∀ (c' : cM), (∀ n, n ≠ 10 → c'.1 n = c.1 n) → (∀ n, n ≠ 10 → c'.2 n = c.2 n) → BG c' F R ∧ PAt c' p v := fun c' h1 h2 => by
    refine ⟨BG_of (fun n hn => h1 n (by omega)) (fun n hn => h2 n (by omega)) hB, ?_⟩
    unfold PAt
    rw [h1 p hp10, h2 p hp10]; exact hA
  unfold wp_X8_look wp_X8_look_0
  intro x1 e1
  rw [c_i1 h hp.1 (show ((5 : Nat) : Int) = 5 from rfl), hA.2.2.2.2.1] at e1
  rw [e1]
  refine q_kingOfC h ⟨by omega, hm.2⟩ hp hv.p hb hA hs ?_
  unfold kingC
  rw [if_pos hk]
  intro S4 e4
  rw [c_u1 h (show cOk 10 = true by decide) (show ((1 : Nat) : Int) = 1 from rfl)] at e4
  rw [e4]
  have k1 := keep (cI c 10 1 (kingB F R v (v 64))) (fun n hn => by funext j; rw [cI_at, if_neg (by rintro ⟨a, -⟩; exact hn a)]) (fun n hn => rfl)
  rw [q_occupied h hp hv.p k1.2]
  intro S7 e7
  rw [c_w1 h (show cOk 10 = true by decide) (show ((2 : Nat) : Int) = 2 from rfl)] at e7
  rw [e7]
  have k2 := keep (cJ (cI c 10 1 (kingB F R v (v 64))) 10 2 (zS (occB v))) (fun n hn => k1.2 |> fun _ => by funext j; rw [cJ_1, cI_at, if_neg (by rintro ⟨a, -⟩; exact hn a)]) (fun n hn => by funext j; rw [cJ_at, if_neg (by rintro ⟨a, -⟩; exact hn a)]; rfl)
  rw [q_ofSide h hp hv.p k2.2 hs]
  intro S10 e10
  rw [c_w1 h (show cOk 10 = true by decide) (show ((3 : Nat) : Int) = 3 from rfl)] at e10
  rw [e10]
  generalize hc3 : cJ (cJ (cI c 10 1 (kingB F R v (v 64))) 10 2 (zS (occB v))) 10 3 (zS (fun k => isOfB (v k) (v 64))) = c3
  have k3 := keep c3 (fun n hn => by rw [← hc3]; funext j; rw [cJ_1, cJ_1, cI_at, if_neg (by rintro ⟨a, -⟩; exact hn a)]) (fun n hn => by rw [← hc3]; funext j; rw [cJ_at, if_neg (by rintro ⟨a, -⟩; exact hn a), cJ_at, if_neg (by rintro ⟨a, -⟩; exact hn a)]; rfl)
  have g1 : c3.1 10 1 = kingB F R v (v 64) := by rw [← hc3, cJ_1, cJ_1, cI_at, if_pos ⟨rfl, rfl⟩]
  have g2 : c3.2 10 2 = zS (occB v) := by rw [← hc3]; simp [cJ_at]
  have g3 : c3.2 10 3 = zS (fun k => isOfB (v k) (v 64)) := by rw [← hc3]; simp [cJ_at]
  have r1 : ∀ c' : cM, c'.1 10 1 = kingB F R v (v 64) → sI (cS S o c') (o 10) 1 = iI (kingB F R v (v 64)) := fun c' e => by rw [c_i1 h (by decide) (show ((1 : Nat) : Int) = 1 from rfl), e]
  have r2 : ∀ c' : cM, c'.2 10 2 = zS (occB v) → sJ (cS S o c') (o 10) 2 = zS (occB v) := fun c' e => by rw [c_j1 h (by decide) (show ((2 : Nat) : Int) = 2 from rfl), e]
  -- the last step
  have at105 : ∀ c5 : cM, c5 = cJ (cI c3 10 4 (bI (chkB F R v (v 64)))) 10 5 (zS (sh0 F R v)) → ∀ u : Int, u = 1 - v 64 → wp_X8_look_105 D post (cS S o c5) (o 10) (o p) (iI (kingB F R v (v 64))) (iI u) := by
    intro c5 hc5 u hu
    have k5 := keep c5 (fun n hn => by rw [hc5]; funext j; rw [cJ_1, cI_at, if_neg (by rintro ⟨a, -⟩; exact hn a), ← hc3, cJ_1, cJ_1, cI_at, if_neg (by rintro ⟨a, -⟩; exact hn a)]) (fun n hn => by rw [hc5]; funext j; rw [cJ_at, if_neg (by rintro ⟨a, -⟩; exact hn a), cI_2, ← hc3, cJ_at, if_neg (by rintro ⟨a, -⟩; exact hn a), cJ_at, if_neg (by rintro ⟨a, -⟩; exact hn a)]; rfl)
    have f2 : c5.2 10 2 = zS (occB v) := by rw [hc5]; simp [cJ_at, cI_2, g2]
    have f5 : sJ (cS S o c5) (o 10) 5 = zS (sh0 F R v) := by rw [c_j1 h (by decide) (show ((5 : Nat) : Int) = 5 from rfl), hc5, cJ_at, if_pos ⟨rfl, rfl⟩]
    unfold wp_X8_look_105 wp_X8_look_131
    rw [r2 c5 f2, f5, zS_not, zS_and]
    refine q_attackers h k5.1 hp hv.p k5.2 ⟨hr.1, hk⟩ (by omega) ?_
    simp only [lg_cmp_eq, none_z]
    rw [hu]
    have eL : ∀ P : Int → Bool, P = shB F R v → post (cS S o (cJ (cI c3 10 4 (bI (chkB F R v (v 64)))) 10 5 (zS P))) := fun P hP => by
      rw [hP, ← hc3]; exact k
    refine ⟨fun hn => ?_, fun hn S4 e4 => ?_⟩
    · rw [hc5]
      refine eL _ ?_
      funext t
      unfold shB
      have : noneB (foundB F R v (fun u => occB v u && !sh0 F R v u) (1 - v 64) (kingB F R v (v 64))) = false := by simpa using hn
      rw [this]; simp
    · rw [zS_f, c_w1 h (by decide) (show ((5 : Nat) : Int) = 5 from rfl), hc5, cJ_cJ] at e4
      rw [e4]
      refine eL _ ?_
      funext t
      unfold shB
      rw [hn]; simp
  have at63 : ∀ x : Int, x = bI (chkB F R v (v 64)) → wp_X8_look_63 D post (cS S o c3) (o 10) (o p) (iI (v 64)) (o 10) (iI x) := by
    intro x hx
    unfold wp_X8_look_63
    have hx01 : x = 0 ∨ x = 1 := by rw [hx]; cases chkB F R v (v 64); exact Or.inl rfl; exact Or.inr rfl
    refine ⟨(bool_fit hx01).1, (bool_fit hx01).2, fun S1 es => ?_⟩
    rw [c_u1 h (by decide) (show ((4 : Nat) : Int) = 4 from rfl)] at es
    rw [es, hx]
    have k4 := keep (cI c3 10 4 (bI (chkB F R v (v 64)))) (fun n hn => by funext j; rw [cI_at, if_neg (by rintro ⟨a, -⟩; exact hn a), ← hc3, cJ_1, cJ_1, cI_at, if_neg (by rintro ⟨a, -⟩; exact hn a)]) (fun n hn => by rw [cI_2]; funext j; rw [← hc3, cJ_at, if_neg (by rintro ⟨a, -⟩; exact hn a), cJ_at, if_neg (by rintro ⟨a, -⟩; exact hn a)]; rfl)
    have f1 : (cI c3 10 4 (bI (chkB F R v (v 64)))).1 10 1 = kingB F R v (v 64) := by rw [cI_at, if_neg (by omega)]; exact g1
    rw [r1 _ f1, r2 _ (show (cI c3 10 4 (bI (chkB F R v (v 64)))).2 10 2 = _ from g2)]
    refine ⟨o 1, c_r h rfl, (c_m h (by decide)).mpr trivial, c_k h (by decide), ?_⟩
    rw [show (2 : Int32) = iI 2 from rfl]
    refine q_reach h k4.1 ⟨hr.1, hk⟩ (by decide) ?_
    intro S6 e6
    rw [c_j1 h (show cOk 10 = true by decide) (show ((3 : Nat) : Int) = 3 from rfl), show (cI c3 10 4 (bI (chkB F R v (v 64)))).2 10 3 = _ from g3, zS_and, c_w1 h (by decide) (show ((5 : Nat) : Int) = 5 from rfl)] at e6
    rw [show (fun k => reachC F R (occB v) 2 (kingB F R v (v 64)) k && isOfB (v k) (v 64)) = sh0 F R v from rfl] at e6
    rw [e6]
    have f1' : (cJ (cI c3 10 4 (bI (chkB F R v (v 64)))) 10 5 (zS (sh0 F R v))).1 10 1 = kingB F R v (v 64) := by rw [cJ_1]; exact f1
    rw [r1 _ f1']
    rw [hz]
    exact ⟨fun z => at105 _ rfl 0 (by omega), fun z => at105 _ rfl 1 (by omega)⟩
  have at46 : ∀ u : Int, u = 1 - v 64 → wp_X8_look_46 D post (cS S o c3) (o 10) (o p) (iI (v 64)) (o 10) (o p) (iI (kingB F R v (v 64))) (iI u) := by
    intro u hu
    unfold wp_X8_look_46
    rw [r2 c3 g2]
    refine q_attackers h k3.1 hp hv.p k3.2 ⟨hr.1, hk⟩ (by omega) ?_
    simp only [lg_cmp_eq]
    rw [found_zero k3.1 hv.p hb (by omega) ⟨hr.1, hk⟩, hu]
    have ech : chkB F R v (v 64) = atkB F R v (kingB F R v (v 64)) (1 - v 64) := rfl
    rw [← ech]
    refine ⟨fun q => at63 0 (by rw [q]; rfl), fun q => at63 1 ?_⟩
    have : chkB F R v (v 64) = true := by simpa using q
    rw [this]; rfl
  rw [r1 c3 g1]
  rw [hz]
  exact ⟨fun z => at46 0 (by omega), fun z => at46 1 (by omega)⟩
end
