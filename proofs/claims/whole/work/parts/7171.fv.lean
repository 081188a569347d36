/-! PHASE 3: readPaper -/
section
variable {D : wD} {S : wS} {o : Nat → Nat} {c : cM} {F R : Int} {v w : Int → Int} {xp : String → wS → Prop}
theorem pR_sim (c : cM) (w : Int → Int) (a : Int) : cSim [12, 28] c (pR c w a) := fun n hn => by
  have h1 : n ≠ 12 := fun e => hn (by simp [e])
  have h2 : n ≠ 28 := fun e => hn (by simp [e])
  unfold pR
  rw [putP_1 _ w h1, putP_2 _ w h1, cI_1, cI_2]
  exact ⟨funext fun j => up_ne _ (Or.inl h2), rfl⟩
theorem zcnt_occ (hn : 0 ≤ F * R ∧ F * R ≤ 64) (hb : brd F R w) : zcnt (occB w) = cntP F R w := by
  rw [zcnt_board hn.1 hn.2 (fun k a b => by unfold occB; rw [decide_eq_true (hb k a b)]; rfl)]
  unfold cntP
  congr 1
  funext k
  unfold occB
  by_cases q : w k = 0
  · rw [decide_eq_true q, if_pos q]; rfl
  · rw [decide_eq_false q, if_neg q]; rfl
theorem q_readPaperC {post : Int32 → wS → Prop} {n : Int} {ws : Int → Int → Int} {mv : Int → Mv} (h : CC D S o) (hB : BG c F R) (hG : PG c n ws mv) (hP : ∀ c, ST D (cS S o c) (D.2.2.1 1) pcsL) (hQ : ∀ c, ST D (cS S o c) (D.2.2.1 10) [75, 81, 107, 113]) {y z : Nat} {L Z : List Int} (hT : SB (cS S o c) (o 49) y L) (hc : sN S y < 1000000) (hZ : SB (cS S o c) (o 29) z Z)
    (hk : ∀ c, KS D (cS S o c) (o 29) z) (hyz : y ≠ z) {M : Nat} (hM : 180 ≤ M ∧ M < 20000) {bc bs : Nat} (hr' : RBD (sN S z) bc bs M) (h16 : 16 ≤ sN S z)
    (k0 : okB F R L = false → ∀ a c1 U1 U' z', c1 = pR c (rcB F R (tx L)) a → BL D (cS S o c1) U1 (o 29) z z' (paperP F R (rcB F R (tx L))) → EX D U1 U' [o 49] → SB U' (o 49) y [] → 16 ≤ sN U1 z' ∧ sN U1 z' ≤ M → xp "java/lang/IllegalArgumentException" U')
    (k1 : okB F R L = true → 0 < n → ∀ a c1 U1 U' z', c1 = pR c (rcB F R (tx L)) a → BL D (cS S o c1) U1 (o 29) z z' (paperP F R (rcB F R (tx L))) → EX D U1 U' [o 49] → SB U' (o 49) y [] → 16 ≤ sN U1 z' ∧ sN U1 z' ≤ M → xp "java/lang/IllegalStateException" U')
    (k2 : okB F R L = true → n = 0 → ∀ a c1 U1 U' z', c1 = pR c (rcB F R (tx L)) a → BL D (cS S o c1) U1 (o 29) z z' (paperP F R (rcB F R (tx L))) → EX D U1 U' [o 49] → SB U' (o 49) y [] → 16 ≤ sN U1 z' ∧ sN U1 z' ≤ M → CC D U' o → U' = cS U' o c1 →
      post (iI (cntP F R (rcB F R (tx L)))) (cS U' o (putS (cI (putP c1 11 (rcB F R (tx L))) 13 3 0) 14 0 (rcB F R (tx L))))) :
    wp_X11_readPaper D post xp (bc + 1) (bs + 6) (cS S o c) (o 0) := by
  have hm := hB.m
  have V3 := rcB_VG hB (tx L)
  unfold wp_X11_readPaper wp_X11_readPaper_0
  refine ⟨o 28, c_r h rfl, (c_m h (by decide)).mpr trivial, c_k h (by decide), o 49, c_r h rfl, (c_m h (by decide)).mpr trivial, c_k h (by decide), o 12, c_r h rfl, (c_m h (by decide)).mpr trivial, c_k h (by decide), bc, bs, Nat.le_add_right _ _, Nat.le_add_right _ _, ?_⟩
  refine q_readsC h hB hP hQ hT hc hZ hk hyz hM hr' h16 fun a U1 z' hb g1 g2 => ?_
  have hZ1 : SB (cS S o (pR c (rcB F R (tx L)) a)) (o 29) z Z := hZ.over h _ _ (o_ne h (by decide) (by decide))
  have hT1 : SB (cS S o (pR c (rcB F R (tx L)) a)) (o 49) y L := hT.over h _ _ (o_ne h (by decide) (by decide))
  have hK := ap_of h (by decide) (by decide) hZ1
  have h1 := bl_c h hK hb
  have yo : y ≠ o 29 := fun e => by
    have k1 := (h.1 29 (by decide)).2.1
    have k2 : sK S y = 20 := hT.2.1.2.2.1
    rw [← e, k2] at k1; exact absurd k1 (by decide)
  have oz : o 49 ≠ z := fun e => by
    have k1 := (h.1 49 (by decide)).2.1
    have k2 : sK S z = 20 := hZ.2.1.2.2.1
    rw [e, k2] at k1; exact absurd k1 (by decide)
  have o49 : o 49 ≠ o 29 := fun e => absurd (h.2.1 49 (by decide) 29 (by decide) e) (by decide)
  have hTU : SB U1 (o 49) y L := hT1.ex hb.1 (by simp; exact ⟨o49, oz⟩) (by simp; exact ⟨yo, hyz⟩)
  have nU : sN U1 y = sN S y := hb.1.n (Or.inl hT1.2.1.2.1)
  have r1 : sR U1 (o 0) 13 = some (o 49) ∧ wM D U1 (o 49) ∧ sK U1 (o 49) = 1 := by rw [h1.2]; exact ⟨c_r h1.1 rfl, (c_m h1.1 (by decide)).mpr trivial, c_k h1.1 (by decide)⟩
  refine ⟨o 49, r1.1, r1.2.1, r1.2.2, 0, 0, Nat.zero_le _, Nat.zero_le _, ?_⟩
  refine q_clearB hTU (by rw [nU]; exact hc) fun U' hE hS => ?_
  have hap : ∀ n, cOk n = true → o n ∉ [o 49] := fun n hn => by simpa using o_ne h (by decide) (by decide) n hn
  have h2 : CC D U' o ∧ U' = cS U' o (pR c (rcB F R (tx L)) a) := by
    have e := h1.2
    have h0 : CC D U1 o := h1.1
    have hE' : EX D (cS U1 o (pR c (rcB F R (tx L)) a)) U' [o 49] := by rw [← e]; exact hE
    exact ex_c h0 hE' hap
  rw [show (0 : Int32) = iI 0 from rfl, bI_z]
  refine ⟨fun q => ⟨by omega, by omega, ?_⟩, fun q => ⟨by omega, by omega, k0 q a _ U1 U' z' rfl hb hE hS ⟨g1, g2⟩⟩⟩
  have q := (Bool.not_eq_false _).mp q
  have k1 := fun hn => k1 q hn a _ U1 U' z' rfl hb hE hS ⟨g1, g2⟩
  have k2 := fun hn => k2 q hn a _ U1 U' z' rfl hb hE hS ⟨g1, g2⟩ h2.1 h2.2
  have hG' : PG (pR c (rcB F R (tx L)) a) n ws mv := PG.sim (pR_sim c _ a) (by decide) (by decide) (by decide) hG
  rw [h2.2]
  rw [h2.2] at k1
  refine q_mustBeUnmoved h2.1 hG' k1 fun hn => ?_
  have k2 := k2 hn
  refine ⟨o 11, c_r h2.1 rfl, (c_m h2.1 (by decide)).mpr trivial, c_k h2.1 (by decide), o 12, c_r h2.1 rfl, (c_m h2.1 (by decide)).mpr trivial, c_k h2.1 (by decide), ?_⟩
  refine q_copyP h2.1 (by decide) (by decide) (by decide) (by have := V3.1.2.1; omega) (putP_at _ 12 _) ?_
  refine ⟨o 13, c_r h2.1 rfl, (c_m h2.1 (by decide)).mpr trivial, c_k h2.1 (by decide), o 11, c_r h2.1 rfl, (c_m h2.1 (by decide)).mpr trivial, c_k h2.1 (by decide), ?_⟩
  refine q_begin h2.1 (by decide) (putP_at _ 11 _) (V3.1.rg hm.2) ?_
  refine ⟨o 11, c_r h2.1 rfl, (c_m h2.1 (by decide)).mpr trivial, c_k h2.1 (by decide), ?_⟩
  have hA11 : PAt (putS (cI (putP (pR c (rcB F R (tx L)) a) 11 (rcB F R (tx L))) 13 3 0) 14 0 (rcB F R (tx L))) 11 (rcB F R (tx L)) := by
    have z := putP_at (pR c (rcB F R (tx L)) a) 11 (rcB F R (tx L))
    have i1 : ∀ j, (putS (cI (putP (pR c (rcB F R (tx L)) a) 11 (rcB F R (tx L))) 13 3 0) 14 0 (rcB F R (tx L))).1 11 j = (putP (pR c (rcB F R (tx L)) a) 11 (rcB F R (tx L))).1 11 j := fun j => by rw [putS_i, cI_1, up_ne _ (Or.inl (by decide))]
    have i2 : ∀ j, (putS (cI (putP (pR c (rcB F R (tx L)) a) 11 (rcB F R (tx L))) 13 3 0) 14 0 (rcB F R (tx L))).2 11 j = (putP (pR c (rcB F R (tx L)) a) 11 (rcB F R (tx L))).2 11 j := fun j => by rw [putS_r _ _ _ (by decide), cI_2]
    unfold PAt
    rw [i1, i1, i1, i2, i2, i2, i2]
    exact z
  rw [q_occupied (v := rcB F R (tx L)) h2.1 (by decide) V3.1.1 hA11, q_bitCount, zcnt_occ ⟨by omega, hm.2⟩ V3.2.2]
  exact k2
end
