/-! PHASE 3, the search -/
/-- the same but for some objects -/
def cSim (K : List Nat) (c c' : cM) : Prop := ∀ n, n ∉ K → c'.1 n = c.1 n ∧ c'.2 n = c.2 n
theorem cSim.refl (K : List Nat) (c : cM) : cSim K c c := fun _ _ => ⟨rfl, rfl⟩
theorem cSim.trans {K : List Nat} {c c' c'' : cM} (h : cSim K c c') (h2 : cSim K c' c'') : cSim K c c'' := fun n hn => ⟨(h2 n hn).1.trans (h n hn).1, (h2 n hn).2.trans (h n hn).2⟩
theorem cSim.mono {K K' : List Nat} {c c' : cM} (h : cSim K c c') (hs : ∀ n, n ∈ K → n ∈ K') : cSim K' c c' := fun n hn => h n (fun z => hn (hs n z))
theorem putP_sim (c : cM) (p : Nat) (v : Int → Int) : cSim [p] c (putP c p v) := fun n hn => by
  have : n ≠ p := by simpa using hn
  exact ⟨putP_1 c v this, putP_2 c v this⟩
theorem lookM_sim (c : cM) (F R : Int) (v : Int → Int) : cSim [10] c (lookM c F R v) := fun n hn => by
  have : n ≠ 10 := by simpa using hn
  exact ⟨lookM_1 c F R v this, lookM_2 c F R v this⟩
theorem putR_sim (c : cM) (r : Nat) (L : List Mv) : cSim [r] c (putR c r L) := fun n hn => by
  have : n ≠ r := by simpa using hn
  exact ⟨putR_1 c L this, rfl⟩
theorem cSim.P {K : List Nat} {c c' : cM} {p : Nat} {v : Int → Int} (h : cSim K c c') (hp : p ∉ K) (hA : PAt c p v) : PAt c' p v := by
  unfold PAt
  rw [(h p hp).1, (h p hp).2]; exact hA
theorem cSim.B {K : List Nat} {c c' : cM} {F R : Int} (h : cSim K c c') (hk : ∀ n, n < 10 → n ∉ K) (hB : BG c F R) : BG c' F R :=
  BG_of (fun n hn => (h n (hk n hn)).1) (fun n hn => (h n (hk n hn)).2) hB
/-- a row of moves holds a list -/
def RAt (c : cM) (r : Nat) (L : List Mv) : Prop := ∀ j : Int, 0 ≤ j → j < L.length → c.1 r j = mcode (L.getD j.toNat (0, 0, 0))
theorem putR_at (c : cM) (r : Nat) (L : List Mv) : RAt (putR c r L) r L := fun j h0 h1 => by
  simp only [putR]; rw [if_pos ⟨trivial, h0, h1⟩]
theorem cSim.R {K : List Nat} {c c' : cM} {r : Nat} {L : List Mv} (h : cSim K c c') (hr : r ∉ K) (hL : RAt c r L) : RAt c' r L := fun j h0 h1 => by
  rw [(h r hr).1]; exact hL j h0 h1
/-- a position whose moves and those behind them are few enough -/
abbrev few (F R : Int) (v : Int → Int) : Prop := ((movesL F R v).length : Int) ≤ 320
section
variable {D : wD} {S : wS} {o : Nat → Nat} {c : cM} {F R : Int} {p r : Nat} {v : Int → Int}
/-- from a row the next move is made on another position -/
theorem q_step {post : wS → Prop} (h : CC D S o) (hB : BG c F R) (hp : isP p) {q : Nat} (hq : isP q) (hne : q ≠ p) (hv : PV F R v) (hA : PAt c q v) (hr : isR r) (hL : RAt c r (movesL F R v)) {j : Int} (h0 : 0 ≤ j) (h1 : j < (movesL F R v).length)
    {j2 : Int32} (hj2 : j2 = iI j) (hjl : j < 2147483648) {K2 : wS → Prop} (k : post (cS S o (putP c p (mkT F R v ((movesL F R v).getD j.toNat (0, 0, 0)))))) :
    wp_X7_copy D (fun S6 => wp_X7_apply D post S6 (o p) (sI S6 (o r) (j2).toNatClampNeg)) (cS S o c) (o p) (o q) := by
  have hm := hB.m
  have h4 := hB.f4; have h8 := hB.f8; have r4 := hB.r4; have r8 := hB.r8
  have hs : v 64 = 0 ∨ v 64 = 1 := by have := hv.1.s; omega
  refine q_copyP h hp hq hne hs hA ?_
  have hrp : r ≠ p := fun e => by have := hp.2.1; rw [← e, (isR_k hr).2.1] at this; exact absurd this (by decide)
  rw [hj2, c_i h (isR_k hr).1 h0 hjl, putP_1 c v hrp, hL j h0 h1]
  have ok := movesL_mem (F := F) (R := R) (v := v) (by omega) (getD_mem ⟨h0, h1⟩)
  refine q_apply h (hB.put hp v) hp hv.1 hv.2.1 hv.2.2.1 hv.2.2.2.1 (proper_parts hv.2.2.2.2).2.2.1 (putP_at c p v) ok ?_
  rw [putP_putP]
  exact k
theorem sN_R (h : CC D S o) (hr : isR r) : Int32.ofNat (sN (cS S o c) (o r)) = iI 1728 := by rw [c_n h (isR_k hr).2.2.2, (isR_k hr).2.2.1]; rfl
theorem getD_dropL {L : List Mv} {j : Nat} (hj : j < L.length) : L.drop j = L.getD j (0, 0, 0) :: L.drop (j + 1) := by
  rw [List.drop_eq_getElem_cons hj, List.getD_eq_getElem?_getD, List.getElem?_eq_getElem hj]; rfl
theorem q_two_18 {post : Int32 → wS → Prop} (h : CC D S o) (hp : isP p) (hp43 : p ≠ 43) (hv : PV F R v) (hf : few F R v) {c0 : cM} (k : ∀ c', cSim [10, 40, 43] c0 c' → post (iI (rows2 F R v)) (cS S o c')) :
    ∀ (n d j : Nat) (s : Int) (c : cM), d < n → j + d = (movesL F R v).length → BG c F R → PAt c p v → RAt c 40 (movesL F R v) → cSim [10, 40, 43] c0 c →
    s + (((movesL F R v).drop j).map fun t => ((movesL F R (mkT F R v t)).length : Int)).sum = rows2 F R v →
    wp_X9_rowsOfTwo_18 D post n (cS S o c) (o 38) (o p) (iI s) (iI (movesL F R v).length) (iI j) := by
  intro n
  induction n with
  | zero => intro d j s c hd; omega
  | succ n ih =>
    intro d j s c hd hjd hB hA hL hS hsum
    have hm := hB.m
    have h4 := hB.f4; have h8 := hB.f8; have r4 := hB.r4; have r8 := hB.r8
    unfold wp_X9_rowsOfTwo_18 wp_X9_rowsOfTwo_76
    have l1 : (iI (movesL F R v).length ≤ iI (j : Int)) = ((movesL F R v).length ≤ (j : Int)) := by rw [iI_le (by omega) (by omega) (by omega) (by omega)]
    rw [l1]
    refine ⟨fun q => ?_, fun q => ⟨o 40, c_r h rfl, (c_m h (by decide)).mpr trivial, c_k h (by decide), ?_⟩⟩
    · rw [List.drop_eq_nil_of_le (by omega)] at hsum
      have : s = rows2 F R v := by rw [← hsum]; simp
      rw [this]; exact k c hS
    · have l2 : (iI 1728 ≤ iI (j : Int)) = False := by rw [iI_le (by decide) (by decide) (by omega) (by omega)]; exact eq_false (by omega)
      rw [sN_R h (Or.inr (Or.inr (Or.inl rfl))), l2]
      refine ⟨fun z => z.elim, fun _ => ⟨o 43, c_r h rfl, (c_m h (by decide)).mpr trivial, c_k h (by decide), ?_⟩⟩
      have hj : j < (movesL F R v).length := by omega
      have ok := movesL_mem (F := F) (R := R) (v := v) (by omega) (getD_mem (L := movesL F R v) (k := (j : Int)) ⟨by omega, by omega⟩)
      have hs : v 64 = 0 ∨ v 64 = 1 := by have := hv.1.s; omega
      refine q_copyP h (p := 43) (by decide) hp hp43 hs hA ?_
      refine ⟨o 43, c_r h rfl, (c_m h (by decide)).mpr trivial, c_k h (by decide), o 40, c_r h rfl, (c_m h (by decide)).mpr trivial, c_k h (by decide), (c_n h (n := 40) (by decide)).symm ▸ (iI_in (by omega) (by omega) (by show (j : Int) < ((1728 : Nat) : Int); omega) : vp_in (iI (j : Int)) 1728), ?_⟩
      rw [c_i h (n := 40) (by decide) (by omega) (by omega), putP_1 c v (show 40 ≠ 43 by decide), hL j (by omega) (by omega)]
      refine q_apply h (hB.put (p := 43) (by decide) v) (by decide) hv.1 hv.2.1 hv.2.2.1 hv.2.2.2.1 (proper_parts hv.2.2.2.2).2.2.1 (putP_at c 43 v) ok ?_
      rw [putP_putP]
      have hv2 := PV_mk h4 h8 r4 r8 hv ok
      rw [show ((j : Int)).toNat = j by omega] at hv2 ⊢
      rw [getD_dropL hj] at hsum
      generalize (movesL F R v).getD j (0, 0, 0) = t at hv2 hsum ⊢
      refine ⟨o 10, c_r h rfl, (c_m h (by decide)).mpr trivial, c_k h (by decide), o 43, c_r h rfl, (c_m h (by decide)).mpr trivial, c_k h (by decide), ?_⟩
      refine q_numberOfMoves h (hB.put (p := 43) (by decide) _) (by decide) (PV.k h4 h8 r4 r8 hv2) (putP_at c 43 _) ?_
      intro x16 e16 x17 e17
      rw [e16, e17, iI_add, show (1 : Int32) = iI 1 from rfl, iI_add]
      have sim : cSim [10, 40, 43] c (lookM (putP c 43 (mkT F R v t)) F R (mkT F R v t)) := ((putP_sim c 43 _).mono (by decide)).trans ((lookM_sim _ F R _).mono (by decide))
      have simr : cSim [10, 43] c (lookM (putP c 43 (mkT F R v t)) F R (mkT F R v t)) := ((putP_sim c 43 _).mono (by decide)).trans ((lookM_sim _ F R _).mono (by decide))
      have hpn : p ∉ [10, 40, 43] := by
        intro z
        have := hp.2.1
        simp at z
        rcases z with rfl | rfl | rfl
        · exact absurd this (by decide)
        · exact absurd this (by decide)
        · exact hp43 rfl
      refine ih (d - 1) (j + 1) _ _ (by omega) (by omega) (sim.B (by decide) hB) (sim.P hpn hA) (simr.R (by decide) hL) (hS.trans sim) ?_
      rw [← hsum]
      simp only [List.map_cons, List.sum_cons]
      omega
theorem q_rowsOfTwoC {post : Int32 → wS → Prop} (h : CC D S o) (hB : BG c F R) (hp : isP p) (hp43 : p ≠ 43) (hv : PV F R v) (hf : few F R v) (hA : PAt c p v) (k : ∀ c', cSim [10, 40, 43] c c' → post (iI (rows2 F R v)) (cS S o c')) :
    wp_X9_rowsOfTwo D post (cS S o c) (o 38) (o p) := by
  have h4 := hB.f4; have h8 := hB.f8; have r4 := hB.r4; have r8 := hB.r8
  have hpn : p ∉ [10, 40] := by
    intro z
    have := hp.2.1
    simp at z
    rcases z with rfl | rfl
    · exact absurd this (by decide)
    · exact absurd this (by decide)
  unfold wp_X9_rowsOfTwo wp_X9_rowsOfTwo_0
  refine ⟨o 10, c_r h rfl, (c_m h (by decide)).mpr trivial, c_k h (by decide), o 40, c_r h rfl, (c_m h (by decide)).mpr trivial, c_k h (by decide), ?_⟩
  refine q_generate (r := 40) h (by decide) hB hp (PV.k h4 h8 r4 r8 hv) hA (by omega) ?_
  refine ⟨(movesL F R v).length + 1, ?_⟩
  have sim : cSim [10, 40] c (putR (lookM c F R v) 40 (movesL F R v)) := ((lookM_sim c F R v).mono (by decide)).trans ((putR_sim _ 40 _).mono (by decide))
  rw [show (0 : Int32) = iI ((0 : Nat) : Int) from rfl]
  exact q_two_18 h hp hp43 hv hf (c0 := c) k ((movesL F R v).length + 1) (movesL F R v).length 0 0 _ (by omega) (by omega) (sim.B (by decide) hB) (sim.P hpn hA) (putR_at _ 40 _) (sim.mono (by decide)) (by rw [List.drop_zero]; unfold rows2; simp)
end
