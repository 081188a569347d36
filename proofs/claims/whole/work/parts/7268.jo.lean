section
variable {D : wD} {S U : wS} {o : Nat → Nat} {c c' : cM} {x : Nat} {A : Nat → Nat} {m m' : xM} {F R F' R' : Int} {v v' : Int → Int} {n n' : Int} {w w' : Int → Int → Int} {mv mv' : Int → Mv} {L W : List Int} {yb : Nat → Nat} {yl : Int → Nat} {d : Int → SDt} {ye lw : List Nat} {q q' : Int} {b Ln : Nat} {xs : Nat → Int32} {a3 a4 : Nat} {P Q : wS → Prop} {ε : Bool}
theorem quietC_cong {k : Int} (h0 : w k = w' k) (h1 : w (k + 1) = w' (k + 1)) : quietC w mv k = quietC w' mv k := by
  unfold quietC; rw [h0, h1]
theorem calmW_cong : ∀ (dd : Nat) (i k : Int), (dd : Int) ≤ i + 1 → (∀ j, 0 ≤ j → j ≤ i + 1 → w j = w' j) → calmW w mv i k dd = calmW w' mv i k dd
  | 0, i, k, _, _ => rfl
  | dd + 1, i, k, hd, h => by
    unfold calmW
    rw [quietC_cong (w := w) (w' := w') (h i (by omega) (by omega)) (h (i + 1) (by omega) (by omega)), calmW_cong dd (i - 1) (k + 1) (by omega) (fun j j0 j1 => h j j0 (by omega))]
theorem stateC_cong (hn : 0 ≤ n) (h : ∀ k : Int, 0 ≤ k → k ≤ n → w k = w' k) : stateC F R n w mv v = stateC F R n w' mv v := by
  unfold stateC
  rw [sumL_congr (f := fun k => if sameB (w k) v then 1 else 0) (g := fun k => if sameB (w' k) v then 1 else 0) _ _ (fun j j0 j1 => by rw [h j j0 (by omega)]), calmW_cong (w := w) (w' := w') n.toNat (n - 1) 0 (by omega) (fun j j0 j1 => h j j0 (by omega))]
/-- the state of the class's game is the reference's -/
theorem state_same (hn : 0 ≤ n) (e11 : m 50 11 = n) (hg : ∀ k : Int, 0 ≤ k → k ≤ n → gv m k = w k) (hq : ∀ k : Int, 0 ≤ k → k < n → (quietC w mv k = true ↔ m 10 k = 0)) (ev : pv m = v) : stateC F R n w mv v = stateB F R m := by
  subst e11
  rw [← state_eq (F := F) (R := R) (m := m) (mv := mv) hn (fun k k0 k1 => by rw [quietC_cong (w := gv m) (w' := w) (hg k k0 (by omega)) (hg (k + 1) (by omega) (by omega))]; exact hq k k0 k1), ev]
  exact (stateC_cong hn hg).symm
theorem call_state (hD : wDok D b Ln xs) (hR : RELo D S o x A [a3, a4] q ε) (hP : ∀ S', RELo D S' o x A [a3, a4] (q + 1) ε → P S') :
    wp_L_state D (fun r1 S2 => wp_X12_state D (fun r3 S4 => CMPo D x a3 P Q r1 r3 S4) S2 x) S (o 0) a3 := by
  refine REL.elim hR fun c m F R v n w mv L W yb yl d ye hf lk ev => ?_
  unfold wp_L_state wp_L_state_0
  have e1 := hf.1.1.2
  obtain ⟨w1, w2, w3, w4, w5, w6, w7⟩ := hf.2.2.2.1.1.1
  have pg := hf.2.2.2.1.1.2.1
  have pe := prop_eq hf lk
  have hK : properB F R (gv m 0) = true → stOK F R (pv m) := fun z => by
    rw [pe] at z; rw [ev]
    exact (hf.2.2.2.1.1.1.pv z).st (bfr_of hf)
  have h10 : ∀ k, 0 ≤ k → k < 80 → 0 ≤ m 10 k ∧ m 10 k ≤ 1 := fun k k0 k1 => (hf.2.2.2.2.2.2.2.2.2.2.2.1 k k0 k1).1
  rw [e1]
  refine q_stateCl hf.1.1.1 w1 w2 w3 w4 w5 w6 w7 pg (fun z => ⟨rfl, ?_⟩) (fun z => ?_)
  · rw [← e1]
    show wp_X12_state D _ S x
    rw [hf.1.2.1.2]
    exact q_state hf.1.2.1.1 hf.2.2.2.2.1 h10 hK (fun _ => err_ok hD hf lk (.inl rfl) ((SIM.rf m).ldm.up0 1) rfl hP) (fun y => by rw [pe, z] at y; exact nomatch y)
  · have sm : cSim [10] c (lookM c F R v) := fun k hk => ⟨lookM_1 c F R v (by simpa using hk), lookM_2 c F R v (by simpa using hk)⟩
    have hf' := hf.query hD.2.2.2.2 sm (by decide)
    have lk' := lk.csim sm (by decide)
    refine store_ok hD hf' (fun S5 h5 e5 => ?_)
    show wp_X12_state D _ S5 x
    rw [h5.1.2.1.2]
    have sa : SIM m (askM m) := (SIM.rf m).ldm.up0 0
    refine q_state h5.1.2.1.1 h5.2.2.2.2.1 h10 hK (fun y => by rw [pe, z] at y; exact nomatch y) (fun _ w0 _ => end_ok hD h5 lk' (sa.ls _ _) ?_ hP ?_)
    · rw [lsM_f _ _ _ _ _ rfl]; rfl
    · rw [e5, state_same (F := F) (R := R) (m := askM m) pg.2.1.1 ((sa.o rfl).trans lk.2.1.1) (fun k k0 k1 => (sa.gv k).trans (lk.2.1.2.1 k k0 k1)) (fun k k0 k1 => by rw [sa.row (r := 10) rfl]; exact lk.2.1.2.2.2 k k0 k1) (sa.pv.trans ev)]
/-- the law's comparison of two doubles -/
abbrev CMPd (D : wD) (x a4 : Nat) (P Q : wS → Prop) (r1 : Int32) (r3 : UInt64) (S4 : wS) : Prop := wp_X12_thrown D (fun r5 S6 =>
    ((r5 = r1 → ((¬ r1 = 0 → P S6) ∧
     (r1 = 0 → vp_in (0 : Int32) (sN S6 a4) ∧
    (((Op.cmpValue (FP.dcmp ((sJ S6 a4 ((0 : Int32)).toNatClampNeg).toUInt64) r3) .l) = 0 → P S6) ∧
     (¬ (Op.cmpValue (FP.dcmp ((sJ S6 a4 ((0 : Int32)).toNatClampNeg).toUInt64) r3) .l) = 0 → vp_in (0 : Int32) (sN S6 a4) ∧
    vp_in (0 : Int32) (sN S6 a4) ∧
    (((Op.cmpValue (FP.dcmp ((sJ S6 a4 ((0 : Int32)).toNatClampNeg).toUInt64) ((sJ S6 a4 ((0 : Int32)).toNatClampNeg).toUInt64)) .l) = 0 → Q S6) ∧
     (¬ (Op.cmpValue (FP.dcmp ((sJ S6 a4 ((0 : Int32)).toNatClampNeg).toUInt64) ((sJ S6 a4 ((0 : Int32)).toNatClampNeg).toUInt64)) .l) = 0 → ((¬ (Op.cmpValue (FP.dcmp r3 r3) .l) = 0 → P S6) ∧
     ((Op.cmpValue (FP.dcmp r3 r3) .l) = 0 → Q S6))))))))) ∧
     (¬ r5 = r1 → Q S6))) S4 x
theorem cmpd_ok {r1 : Int32} {r3 : UInt64} {S4 : wS} (h : sI S4 x 0 = r1) (hP : P S4) (h0 : r1 = 0 → sN S4 a4 = 1 ∧ sJ S4 a4 0 = UInt64.toInt64 r3) : CMPd D x a4 P Q r1 r3 S4 := by
  unfold CMPd wp_X12_thrown wp_X12_thrown_0
  refine ⟨fun _ => ⟨fun _ => hP, fun z => ?_⟩, fun z => absurd h z⟩
  obtain ⟨g1, g2⟩ := h0 z
  have vin : vp_in (0 : Int32) (sN S4 a4) := by rw [g1]; exact iI_in (a := 0) (by decide) (by decide) (by decide)
  have e : (sJ S4 a4 ((0 : Int32)).toNatClampNeg).toUInt64 = r3 := by rw [show ((0 : Int32)).toNatClampNeg = 0 from rfl, g2]; rfl
  rw [e]
  exact ⟨vin, fun _ => hP, fun y => ⟨vin, vin, fun y2 => absurd y2 y, fun _ => ⟨fun _ => hP, fun y2 => absurd y2 y⟩⟩⟩
/-- the answer comes into the law's second row -/
theorem store4_ok {G : wS → Prop} (hD : wDok D b Ln xs) (hf : HFo D S o x A [a3, a4] c m F R v n w mv L W yb yl d ye q F' R') {z : Int64} (K : ∀ S5, HFo D S5 o x A [a3, a4] c m F R v n w mv L W yb yl d ye q F' R' → sJ S5 a4 0 = z → G S5) : a4 ∈ sL S ∧ vp_in (0 : Int32) (sN S a4) ∧ ∀ S4 : wS, S4 = uJ S a4 ((0 : Int32)).toNatClampNeg z → G S4 := by
  have e : EX D S (uJ S a4 ((0 : Int32)).toNatClampNeg z) [a4] := EX.rf.uJ (fun _ => List.mem_singleton.mpr rfl) _ _
  have in4 : a4 ∈ ownL D o x A yb yl d ye [a3, a4] := own_mem.mpr (.inr (.inr (by simp)))
  have n1 := (hf.2.1.2 a4 (by simp)).2
  refine ⟨(hf.2.2.1.2 a4 in4).1, by rw [n1]; exact iI_in (a := 0) (by decide) (by decide) (by decide), fun S4 e4 => ?_⟩
  rw [e4]
  refine K _ (hf.law hD.2.2.1.1 hD.2.2.2.2 e (fun a ha => by rw [List.mem_singleton.mp ha]; simp)) ?_
  show va_up (sJ S) a4 (va_up (sJ S a4) 0 z) a4 0 = z
  rw [va_up_self, va_up_self]
theorem call_meanLength (hD : wDok D b Ln xs) (hR : RELo D S o x A [a3, a4] q ε) {s : Int} (hs : i32 s) {r : wS → Int32} {hv : wS → Prop} (hvv : ∀ S', CST D S' → hv S' ∧ r S' = iI s) (hP : ∀ S', RELo D S' o x A [a3, a4] (q + 1) ε → P S') :
    wp_L_meanLength D (fun r1 S2 => hv S2 ∧ wp_X12_meanLength D (fun r3 S4 => CMPd D x a4 P Q r1 r3 S4) S2 x (r S2)) S (o 0) (iI s) a4 := by
  refine REL.elim hR fun c m F R v n w mv L W yb yl d ye hf lk ev => ?_
  unfold wp_L_meanLength wp_L_meanLength_0
  have e1 := hf.1.1.2
  have hSH := shl_of hf
  rw [e1]
  refine q_meanLengthC hf.1.1.1 hSH hs (fun z => ⟨rfl, ?_⟩) (fun z => ?_)
  · rw [← e1]
    obtain ⟨h1, h2⟩ := hvv _ hf.2.1.1
    refine ⟨h1, ?_⟩
    rw [h2, hf.1.2.1.2]
    exact q_meanLength hf.1.2.1.1 hf.2.2.2.2.2.1 hs (fun _ zz => cmpd_ok (by rw [x_i0]; rfl) (REL.fin hD hf lk ((SIM.rf m).up0 1) hP) (fun y => absurd y (by decide))) (fun y => by rw [z] at y; exact nomatch y)
  · rw [← e1]
    refine store4_ok hD hf (fun S5 h5 e5 => ?_)
    obtain ⟨h1, h2⟩ := hvv _ h5.2.1.1
    refine ⟨h1, ?_⟩
    rw [h2, h5.1.2.1.2]
    have i1 := in01.mp z
    refine q_meanLength h5.1.2.1.1 h5.2.2.2.2.2.1 hs (fun y => by rw [z] at y; exact nomatch y) (fun _ => cmpd_ok (by rw [x_i0]; rfl) (REL.fin hD h5 lk ((SIM.rf m).up0 0) hP) (fun _ => ⟨(h5.2.1.2 a4 (by simp)).2, ?_⟩))
    show sJ S5 a4 0 = _
    rw [e5, (shm_of lk i1).mLen]
/-- shares as doubles are numbers -/
def fdU (a b : Nat) : Bool := decide (FP.f2d (FP.fdiv (FP.i2f (iI a)) (FP.i2f (iI b))) &&& 0x7fffffffffffffff ≤ 0x7ff0000000000000) && decide (Op.cmpValue (FP.dcmp (FP.f2d (FP.fdiv (FP.i2f (iI a)) (FP.i2f (iI b)))) (FP.f2d (FP.fdiv (FP.i2f (iI a)) (FP.i2f (iI b))))) .l = 0)
theorem fdU_ok : ∀ b : Nat, b < 41 → ∀ a : Nat, a < 41 → (b = 0 ∨ fdU a b = true) := by decide +kernel
theorem fd0_ok : (FP.f2d FP.fconst0 &&& 0x7fffffffffffffff ≤ 0x7ff0000000000000) ∧ Op.cmpValue (FP.dcmp (FP.f2d FP.fconst0) (FP.f2d FP.fconst0)) .l = 0 := by decide +kernel
theorem won_num {nn : Int → Int} {ww : Int → Int → Int → Int} {inf : Int → Nat → Int} {l : Nat} (hl : l ≤ 40) : vf_n64 (FP.f2d (shWonC nn ww inf v l)) ∧ Op.cmpValue (FP.dcmp (FP.f2d (shWonC nn ww inf v l)) (FP.f2d (shWonC nn ww inf v l))) .l = 0 := by
  unfold shWonC
  have p1 := passN_r nn ww inf v (-1) l
  have p0 := passN_r nn ww inf v 0 l
  by_cases z : passN nn ww inf v (-1) l = 0
  · rw [if_pos z]
    exact fd0_ok
  · rw [if_neg z]
    generalize passN nn ww inf v (-1) l = bb at *
    generalize passN nn ww inf v 0 l = aa at *
    rcases fdU_ok bb.toNat (by omega) aa.toNat (by omega) with q | q
    · omega
    · unfold fdU at q
      rw [show ((aa.toNat : Nat) : Int) = aa by omega, show ((bb.toNat : Nat) : Int) = bb by omega, Bool.and_eq_true] at q
      refine ⟨?_, of_decide_eq_true q.2⟩
      unfold vf_n64
      exact of_decide_eq_true q.1
/-- the law's comparison of a double and a float -/
abbrev CMPf (D : wD) (x a4 : Nat) (P Q : wS → Prop) (r1 : Int32) (r3 : UInt32) (S4 : wS) : Prop := wp_X12_thrown D (fun r5 S6 =>
    ((r5 = r1 → ((¬ r1 = 0 → P S6) ∧
     (r1 = 0 → vp_in (0 : Int32) (sN S6 a4) ∧
    vf_n64 (FP.f2d r3) ∧
    (((Op.cmpValue (FP.dcmp ((sJ S6 a4 ((0 : Int32)).toNatClampNeg).toUInt64) (FP.f2d r3)) .l) = 0 → P S6) ∧
     (¬ (Op.cmpValue (FP.dcmp ((sJ S6 a4 ((0 : Int32)).toNatClampNeg).toUInt64) (FP.f2d r3)) .l) = 0 → vp_in (0 : Int32) (sN S6 a4) ∧
    vp_in (0 : Int32) (sN S6 a4) ∧
    (((Op.cmpValue (FP.dcmp ((sJ S6 a4 ((0 : Int32)).toNatClampNeg).toUInt64) ((sJ S6 a4 ((0 : Int32)).toNatClampNeg).toUInt64)) .l) = 0 → Q S6) ∧
     (¬ (Op.cmpValue (FP.dcmp ((sJ S6 a4 ((0 : Int32)).toNatClampNeg).toUInt64) ((sJ S6 a4 ((0 : Int32)).toNatClampNeg).toUInt64)) .l) = 0 → ((¬ (Op.cmpValue (FP.fcmp r3 r3) .l) = 0 → P S6) ∧
     ((Op.cmpValue (FP.fcmp r3 r3) .l) = 0 → Q S6))))))))) ∧
     (¬ r5 = r1 → Q S6))) S4 x
theorem cmpf_ok {r1 : Int32} {r3 : UInt32} {S4 : wS} (h : sI S4 x 0 = r1) (hP : P S4) (h0 : r1 = 0 → (sN S4 a4 = 1 ∧ sJ S4 a4 0 = UInt64.toInt64 (FP.f2d r3)) ∧ vf_n64 (FP.f2d r3) ∧ Op.cmpValue (FP.dcmp (FP.f2d r3) (FP.f2d r3)) .l = 0) : CMPf D x a4 P Q r1 r3 S4 := by
  unfold CMPf wp_X12_thrown wp_X12_thrown_0
  refine ⟨fun _ => ⟨fun _ => hP, fun z => ?_⟩, fun z => absurd h z⟩
  obtain ⟨⟨g1, g2⟩, g3, g4⟩ := h0 z
  have vin : vp_in (0 : Int32) (sN S4 a4) := by rw [g1]; exact iI_in (a := 0) (by decide) (by decide) (by decide)
  have e : (sJ S4 a4 ((0 : Int32)).toNatClampNeg).toUInt64 = FP.f2d r3 := by rw [show ((0 : Int32)).toNatClampNeg = 0 from rfl, g2]; rfl
  rw [e]
  exact ⟨vin, g3, fun _ => hP, fun y => absurd g4 y⟩
theorem call_shareWon (hD : wDok D b Ln xs) (hR : RELo D S o x A [a3, a4] q ε) {s : Int} (hs : i32 s) {r : wS → Int32} {hv : wS → Prop} (hvv : ∀ S', CST D S' → hv S' ∧ r S' = iI s) (hP : ∀ S', RELo D S' o x A [a3, a4] (q + 1) ε → P S') :
    wp_L_shareWon D (fun r1 S2 => hv S2 ∧ wp_X12_shareWon D (fun r3 S4 => CMPf D x a4 P Q r1 r3 S4) S2 x (r S2)) S (o 0) (iI s) a4 := by
  refine REL.elim hR fun c m F R v n w mv L W yb yl d ye hf lk ev => ?_
  unfold wp_L_shareWon wp_L_shareWon_0
  have e1 := hf.1.1.2
  have hSH := shl_of hf
  rw [e1]
  refine q_shareWonC hf.1.1.1 hf.2.2.2.1.1.1.2.2.2.2.2.1 (rg_of hf) hSH hs (fun z => ⟨rfl, ?_⟩) (fun z => ?_)
  · rw [← e1]
    obtain ⟨h1, h2⟩ := hvv _ hf.2.1.1
    refine ⟨h1, ?_⟩
    rw [h2, hf.1.2.1.2]
    exact q_shareWon hf.1.2.1.1 hf.2.2.2.2.1 hf.2.2.2.2.2.1 hs (fun _ zz => cmpf_ok (by rw [x_i0]; rfl) (REL.fin hD hf lk ((SIM.rf m).up0 1) hP) (fun y => absurd y (by decide))) (fun y => by rw [z] at y; exact nomatch y)
  · rw [← e1]
    have i1 := in01.mp z
    have wn := won_num (v := v) (nn := (d s).2.1) (ww := (d s).2.2.1) (inf := (d s).2.2.2.2.2.1) (hSH s i1).2.1.1
    refine ⟨wn.1, ?_⟩
    refine store4_ok hD hf (fun S5 h5 e5 => ?_)
    obtain ⟨h1, h2⟩ := hvv _ h5.2.1.1
    refine ⟨h1, ?_⟩
    rw [h2, h5.1.2.1.2]
    refine q_shareWon h5.1.2.1.1 h5.2.2.2.2.1 h5.2.2.2.2.2.1 hs (fun y => by rw [z] at y; exact nomatch y) (fun _ => cmpf_ok (by rw [x_i0]; rfl) (REL.fin hD h5 lk ((SIM.rf m).up0 0) hP) (fun _ => ?_))
    have es : shWonB m s = shWonC (d s).2.1 (d s).2.2.1 (d s).2.2.2.2.2.1 v (d s).1.length := by rw [(shm_of lk i1).won (yr_of hf i1), ev]
    rw [es]
    exact ⟨⟨(h5.2.1.2 a4 (by simp)).2, e5⟩, wn⟩
end
