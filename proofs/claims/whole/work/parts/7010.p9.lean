/-- a level's position is laid anew -/
def putV (m : xM) (a : Int) (w : Int → Int) : xM := fun r j => if r = 3 ∧ a ≤ j ∧ j < a + 67 then w (j - a) else m r j
def upV (w : Int → Int) (k v : Int) : Int → Int := fun j => if j = k then v else w j
theorem putV_f (m : xM) (a : Int) (w : Int → Int) {r : Nat} (j : Int) (h : (r == 3) = false) : putV m a w r j = m r j := by
  unfold putV; rw [if_neg]; rintro ⟨e, -⟩; rw [e] at h; cases h
theorem putV_r (m : xM) (a : Int) (w : Int → Int) {r : Nat} (h : (r == 3) = false) : putV m a w r = m r := funext fun j => putV_f m a w j h
theorem up_putV (m : xM) {a k v : Int} (w : Int → Int) (hk : 0 ≤ k ∧ k < 67) : up (putV m a w) 3 (a + k) v = putV m a (upV w k v) := by
  funext r j
  unfold up putV upV
  by_cases c : r = 3 ∧ j = a + k
  · rw [if_pos c, if_pos ⟨c.1, by omega, by omega⟩, if_pos (by omega)]
  · rw [if_neg c]
    by_cases c2 : r = 3 ∧ a ≤ j ∧ j < a + 67
    · rw [if_pos c2, if_pos c2, if_neg]; intro e; exact c ⟨c2.1, by omega⟩
    · rw [if_neg c2, if_neg c2]
theorem lv_putV_ne (m : xM) {l l' : Int} (w : Int → Int) (h : l ≠ l') : lv (putV m (67 * l') w) l = lv m l := by
  funext k
  unfold lv vec
  by_cases c : 0 ≤ k ∧ k < 67
  · rw [if_pos c, if_pos c]; unfold putV; rw [if_neg]; omega
  · rw [if_neg c, if_neg c]
theorem putV_l (m : xM) {l l' k : Int} (w : Int → Int) (h : l ≠ l') (hk : 0 ≤ k ∧ k < 67) : putV m (67 * l') w 3 (67 * l + k) = lv m l k := by
  rw [← lvec_at (putV m (67 * l') w) hk, lv_putV_ne m w h]
/-- a vector of a position is nothing outside -/
def clV (w : Int → Int) : Prop := ∀ k, ¬ (0 ≤ k ∧ k < 67) → w k = 0
theorem lv_clV (m : xM) (l : Int) : clV (lv m l) := fun k h => if_neg h
theorem clV_up {w : Int → Int} {k v : Int} (h : clV w) (hk : 0 ≤ k ∧ k < 67) : clV (upV w k v) := fun j hj => by
  unfold upV; rw [if_neg (by omega)]; exact h j hj
theorem lv_putV (m : xM) {l : Int} {w : Int → Int} (h : clV w) : lv (putV m (67 * l) w) l = w := by
  funext k
  unfold lv vec
  by_cases c : 0 ≤ k ∧ k < 67
  · rw [if_pos c]; unfold putV; rw [if_pos ⟨rfl, by omega, by omega⟩]; congr 1; omega
  · rw [if_neg c, h k c]
theorem cpy_putV (m : xM) (l l' : Int) : cpy m 3 (67 * l) 3 (67 * l') 67 = putV m (67 * l') (lv m l) := by
  funext r j
  unfold cpy putV
  by_cases c : r = 3 ∧ 67 * l' ≤ j ∧ j < 67 * l' + 67
  · rw [if_pos c, if_pos c, lvec_at m (by omega)]
  · rw [if_neg c, if_neg c]
theorem okV_p {F R : Int} {w : Int → Int} {k v : Int} (h : okV F R w) (hk : 0 ≤ k ∧ k < 64) (hv : 0 ≤ v ∧ v ≤ 12) : okV F R (upV w k v) := by
  refine ⟨fun j h1 h2 => ?_, ?_, ?_, ?_⟩ <;> unfold upV
  · by_cases c : j = k
    · rw [if_pos c]; exact hv
    · rw [if_neg c]; exact h.p j h1 h2
  · rw [if_neg (by omega)]; exact h.s
  · rw [if_neg (by omega)]; exact h.r
  · rw [if_neg (by omega)]; exact h.e
theorem okV_s {F R : Int} {w : Int → Int} {v : Int} (h : okV F R w) (hv : 0 ≤ v ∧ v ≤ 1) : okV F R (upV w 64 v) := by
  refine ⟨fun j h1 h2 => ?_, ?_, ?_, ?_⟩ <;> unfold upV
  · rw [if_neg (by omega)]; exact h.p j h1 h2
  · exact hv
  · rw [if_neg (by decide)]; exact h.r
  · rw [if_neg (by decide)]; exact h.e
theorem okV_g {F R : Int} {w : Int → Int} {v : Int} (h : okV F R w) (hv : 0 ≤ v ∧ v ≤ 15) : okV F R (upV w 65 v) := by
  refine ⟨fun j h1 h2 => ?_, ?_, ?_, ?_⟩ <;> unfold upV
  · rw [if_neg (by omega)]; exact h.p j h1 h2
  · rw [if_neg (by decide)]; exact h.s
  · exact hv
  · rw [if_neg (by decide)]; exact h.e
theorem okV_e {F R : Int} {w : Int → Int} {v : Int} (h : okV F R w) (hv : -1 ≤ v ∧ v < F * R) : okV F R (upV w 66 v) := by
  refine ⟨fun j h1 h2 => ?_, ?_, ?_, ?_⟩ <;> unfold upV
  · rw [if_neg (by omega)]; exact h.p j h1 h2
  · rw [if_neg (by decide)]; exact h.s
  · rw [if_neg (by decide)]; exact h.r
  · exact hv
/-- rights without some of them -/
def clr (r k : Int) : Int := ((r.toNat &&& (k.toNat ^^^ 15) : Nat) : Int)
theorem clr_I {r k : Int} (hr : 0 ≤ r ∧ r ≤ 15) (hk : 0 ≤ k ∧ k ≤ 15) : iI r &&& (iI k ^^^ iI (-1)) = iI (clr r k) ∧ 0 ≤ clr r k ∧ clr r k ≤ 15 := by
  obtain ⟨n, hn, rfl⟩ : ∃ n : Nat, n < 16 ∧ r = n := ⟨r.toNat, by omega, by omega⟩
  obtain ⟨q, hq, rfl⟩ : ∃ n : Nat, n < 16 ∧ k = n := ⟨k.toNat, by omega, by omega⟩
  clear hr hk
  have key : ∀ n : Nat, n < 16 → ∀ q : Nat, q < 16 → iI (n : Int) &&& (iI (q : Int) ^^^ iI (-1)) = iI (clr (n : Int) (q : Int)) ∧ 0 ≤ clr (n : Int) (q : Int) ∧ clr (n : Int) (q : Int) ≤ 15 := by decide +kernel
  exact key n hn q hq
theorem lostB_r {F R a : Int} : 0 ≤ lostB F R a ∧ lostB F R a ≤ 15 := by
  unfold lostB
  repeat' split
  all_goals decide
def mk1 (F : Int) (v : Int → Int) (a b : Int) : Int → Int := if kindO (v a) = 6 ∧ takesB F v a b = true ∧ v b = 0 then upV v (F * (a / F) + b % F) 0 else v
def mk2 (F R : Int) (v : Int → Int) (a b : Int) : Int → Int :=
  if castingB F v a b = true then upV (upV (mk1 F v a b) (homeB F R (v 64) (if a < b then 7 else 0)) 0) (homeB F R (v 64) (if a < b then 5 else 3)) (pieceOfB 3 (v 64)) else mk1 F v a b
def mk4 (F R : Int) (v : Int → Int) (a b bec : Int) : Int → Int := upV (upV (mk2 F R v a b) a 0) b (if bec = 0 then v a else pieceOfB bec (v 64))
def mkR (F R : Int) (v : Int → Int) (a b : Int) : Int := clr (clr (clr (v 65) (lostB F R a)) (lostB F R b)) (if kindO (v a) = 1 then (if v 64 = 1 then 3 else 12) else 0)
def mk6 (F R : Int) (v : Int → Int) (a b bec : Int) : Int → Int := upV (upV (mk4 F R v a b bec) 64 (1 - v 64)) 65 (mkR F R v a b)
def mkE (F R : Int) (v : Int → Int) (a b bec : Int) : Int := if kindO (v a) = 6 ∧ dist (a / F) (b / F) = 2 ∧ besideB F (mk6 F R v a b bec) b (pieceOfB 6 (1 - v 64)) = true then (a + b) / 2 else -1
/-- the position behind a move -/
def mkV (F R : Int) (v : Int → Int) (a b bec : Int) : Int → Int := upV (mk6 F R v a b bec) 66 (mkE F R v a b bec)
section
variable {D : wD} {S : wS} {x : Nat} {A : Nat → Nat} {m : xM} {F R : Int}
theorem XB.put (hB : XB m F R) (a : Int) (w : Int → Int) : XB (putV m a w) F R := ⟨by rw [putV_f m a w 1 rfl]; exact hB.f, by rw [putV_f m a w 2 rfl]; exact hB.r, hB.f4, hB.f8, hB.r4, hB.r8⟩
theorem q_lay {post : wS → Prop} (h : XC D S x A) {l k v : Int} {w : Int → Int} (hl : 0 ≤ l ∧ l < 8) (hk : 0 ≤ k ∧ k < 67) : wp_X12_lay D post (xS S x A (putV m (67 * l) w)) x (iI l) (iI k) (iI v) = post (xS S x A (putV m (67 * l) (upV w k v))) := by
  simp (discharger := first | decide | omega) only [x_own h, x_kd h, x_r h, x_m h, x_l h, x_k h, x_n h, x_i0, x_i h, x_u0 h, x_u h, xLen, xKd, nlit, iI_lit, iI_add, iI_sub, iI_mul, iI_neg, bI_z, bI_o, i10, i01, eq_self, bI_nar, nar_0, nar_1, up_at, up_f, Option.some.injEq, exists_eq_left', true_and, and_true, forall_eq, not_true_eq_false, not_false_eq_true, forall_const, false_implies, true_implies, Classical.not_not, if_true, if_false, Int.reduceEq, Int.reduceLT, Int.reduceLE, Int.reduceGT, Int.reduceGE, Int.reduceAdd, Int.reduceSub, Int.reduceMul, Int.reduceNeg, Int.reduceNe, wp_X12_lay, wp_X12_lay_0, eq_true (iI_in (a := 67 * l + k) (n := 536) (by omega) (by omega) (by omega))]
  rw [up_putV m w hk]
theorem homeB_r2 {its f : Int} (h1 : 4 ≤ F) (h2 : F ≤ 8) (h3 : 4 ≤ R) (h4 : R ≤ 8) (hf : 0 ≤ f ∧ f < 8) : 0 ≤ homeB F R its f ∧ homeB F R its f < 64 := by
  unfold homeB
  rcases (show F = 4 ∨ F = 5 ∨ F = 6 ∨ F = 7 ∨ F = 8 by omega) with rfl | rfl | rfl | rfl | rfl <;> omega
theorem ep_r {a b : Int} (h1 : 4 ≤ F) (h2 : F ≤ 8) (h3 : 4 ≤ R) (h4 : R ≤ 8) (ha : 0 ≤ a ∧ a < F * R) (hb : 0 ≤ b) : 0 ≤ F * (a / F) + b % F ∧ F * (a / F) + b % F < 64 := by
  rcases (show F = 4 ∨ F = 5 ∨ F = 6 ∨ F = 7 ∨ F = 8 by omega) with rfl | rfl | rfl | rfl | rfl <;> omega
theorem mk1_ok {v : Int → Int} {a b : Int} (h1 : 4 ≤ F) (h2 : F ≤ 8) (h3 : 4 ≤ R) (h4 : R ≤ 8) (hv : okV F R v) (hc : clV v) (ha : 0 ≤ a ∧ a < F * R) (hb : 0 ≤ b) : okV F R (mk1 F v a b) ∧ clV (mk1 F v a b) := by
  have e := ep_r h1 h2 h3 h4 ha hb
  unfold mk1
  split
  · exact ⟨okV_p hv e (by decide), clV_up hc (by omega)⟩
  · exact ⟨hv, hc⟩
theorem mk2_ok {v : Int → Int} {a b : Int} (h1 : 4 ≤ F) (h2 : F ≤ 8) (h3 : 4 ≤ R) (h4 : R ≤ 8) (hv : okV F R v) (hc : clV v) (ha : 0 ≤ a ∧ a < F * R) (hb : 0 ≤ b) : okV F R (mk2 F R v a b) ∧ clV (mk2 F R v a b) := by
  obtain ⟨o, c⟩ := mk1_ok (b := b) h1 h2 h3 h4 hv hc ha hb
  unfold mk2
  split
  · have e1 := homeB_r2 (its := v 64) (f := if a < b then 7 else 0) h1 h2 h3 h4 (by split <;> decide)
    have e2 := homeB_r2 (its := v 64) (f := if a < b then 5 else 3) h1 h2 h3 h4 (by split <;> decide)
    exact ⟨okV_p (okV_p o e1 (by decide)) e2 (pieceOfB_r (by decide)), clV_up (clV_up c (by omega)) (by omega)⟩
  · exact ⟨o, c⟩
theorem mk6_ok {v : Int → Int} {a b bec : Int} (h1 : 4 ≤ F) (h2 : F ≤ 8) (h3 : 4 ≤ R) (h4 : R ≤ 8) (hv : okV F R v) (hc : clV v) (ha : 0 ≤ a ∧ a < F * R) (hb : 0 ≤ b ∧ b < F * R) (hbec : 0 ≤ bec ∧ bec ≤ 6) :
    okV F R (mk4 F R v a b bec) ∧ clV (mk4 F R v a b bec) ∧ okV F R (mk6 F R v a b bec) ∧ clV (mk6 F R v a b bec) ∧ 0 ≤ mkR F R v a b ∧ mkR F R v a b ≤ 15 := by
  have hn := FR_r h1 h2 h3 h4
  obtain ⟨o, c⟩ := mk2_ok (b := b) h1 h2 h3 h4 hv hc ha hb.1
  have hp := hv.p a (by omega) (by omega)
  have hs := hv.s
  have o4 : okV F R (mk4 F R v a b bec) := okV_p (okV_p o (by omega) (by decide)) (by omega) (by split; exact hp; exact pieceOfB_r hbec)
  have c4 : clV (mk4 F R v a b bec) := clV_up (clV_up c (by omega)) (by omega)
  have r1 := clr_I hv.r (lostB_r (F := F) (R := R) (a := a))
  have r2 := clr_I r1.2 (lostB_r (F := F) (R := R) (a := b))
  have r3 := clr_I r2.2 (k := if kindO (v a) = 1 then (if v 64 = 1 then 3 else 12) else 0) (by split <;> (try split) <;> decide)
  exact ⟨o4, c4, okV_g (okV_s o4 (by omega)) r3.2, clV_up (clV_up c4 (by decide)) (by decide), r3.2⟩
theorem q_makes_282 {post : wS → Prop} (h : XC D S x A) (hB : XB m F R) {l a b bec : Int} (hl : 0 ≤ l ∧ l < 7) (hv : okV F R (lv m l)) (ha : 0 ≤ a ∧ a < F * R) (hb : 0 ≤ b ∧ b < F * R) (hbec : 0 ≤ bec ∧ bec ≤ 6)
    (k : post (xS S x A (putV m (67 * (l + 1)) (mkV F R (lv m l) a b bec)))) :
    wp_X12_makes_282 D post (xS S x A (putV m (67 * (l + 1)) (upV (mk4 F R (lv m l) a b bec) 64 (1 - lv m l 64)))) x (iI a) (iI b) (iI (l + 1)) (iI (lv m l 64)) (iI (bI (decide (kindO (lv m l a) = 6)))) x (iI (l + 1)) (iI 65) (iI (clr (clr (lv m l 65) (lostB F R a)) (lostB F R b))) (iI (if kindO (lv m l a) = 1 then (if lv m l 64 = 1 then 3 else 12) else 0)) := by
  have h4 := hB.f4; have h8 := hB.f8; have r4 := hB.r4; have r8 := hB.r8
  have hn := hB.n
  have hs := hv.s
  have ra := fr_small h4 h8 (a := a) (by omega)
  have rb := fr_small h4 h8 (a := b) (by omega)
  have r1 := clr_I hv.r (lostB_r (F := F) (R := R) (a := a))
  have r2 := clr_I r1.2 (lostB_r (F := F) (R := R) (a := b))
  have r3 := clr_I r2.2 (k := if kindO (lv m l a) = 1 then (if lv m l 64 = 1 then 3 else 12) else 0) (by split <;> (try split) <;> decide)
  obtain ⟨o4, c4, o6, c6, -⟩ := mk6_ok h4 h8 r4 r8 hv (lv_clV m l) ha hb hbec
  have l6 : lv (putV m (67 * (l + 1)) (mk6 F R (lv m l) a b bec)) (l + 1) = mk6 F R (lv m l) a b bec := lv_putV m c6
  have hd := dist_r (a := a / F) (b := b / F) (by omega) (by omega)
  have e6 : upV (upV (mk4 F R (lv m l) a b bec) 64 (1 - lv m l 64)) 65 (clr (clr (clr (lv m l 65) (lostB F R a)) (lostB F R b)) (if kindO (lv m l a) = 1 then (if lv m l 64 = 1 then 3 else 12) else 0)) = mk6 F R (lv m l) a b bec := rfl
  have fin : ∀ e : Int, mkE F R (lv m l) a b bec = e → wp_X12_makes_343 D post (xS S x A (putV m (67 * (l + 1)) (mk6 F R (lv m l) a b bec))) x (iI (l + 1)) (iI 66) (iI e) := by
    intro e he
    unfold wp_X12_makes_343
    rw [q_lay h (by omega) (by decide), ← he]
    exact k
  unfold mkE at fin
  unfold wp_X12_makes_282
  simp (discharger := omega) only [nlit, iI_lit, iI_add, iI_sub, iI_mul, iI_neg, bI_z, bI_o, i10, i01, eq_self, bI_nar, nar_0, nar_1, bI_t, bI_f, Option.some.injEq, exists_eq_left', true_and, and_true, forall_eq, not_true_eq_false, not_false_eq_true, forall_const, false_implies, true_implies, Classical.not_not, if_true, if_false, Int.reduceEq, Int.reduceLT, Int.reduceLE, Int.reduceGT, Int.reduceGE, Int.reduceAdd, Int.reduceSub, Int.reduceMul, Int.reduceNeg, Int.reduceNe, Bool.true_and, Bool.and_true, Bool.false_and, Bool.and_false, BEq.rfl, Bool.true_eq_false, Bool.false_eq_true, r3.1]
  rw [q_lay h (by omega) (by decide), e6]
  simp (discharger := omega) only [nlit, iI_lit, iI_add, iI_sub, iI_mul, iI_neg, bI_z, bI_o, i10, i01, eq_self, bI_nar, nar_0, nar_1, bI_t, bI_f, Option.some.injEq, exists_eq_left', true_and, and_true, forall_eq, not_true_eq_false, not_false_eq_true, forall_const, false_implies, true_implies, Classical.not_not, if_true, if_false, Int.reduceEq, Int.reduceLT, Int.reduceLE, Int.reduceGT, Int.reduceGE, Int.reduceAdd, Int.reduceSub, Int.reduceMul, Int.reduceNeg, Int.reduceNe, Bool.true_and, Bool.and_true, Bool.false_and, Bool.and_false, BEq.rfl, Bool.true_eq_false, Bool.false_eq_true, wp_X12_makes_342]
  by_cases c1 : kindO (lv m l a) = 6
  · simp (discharger := omega) only [nlit, iI_lit, iI_add, iI_sub, iI_mul, iI_neg, bI_z, bI_o, i10, i01, eq_self, bI_nar, nar_0, nar_1, bI_t, bI_f, Option.some.injEq, exists_eq_left', true_and, and_true, forall_eq, not_true_eq_false, not_false_eq_true, forall_const, false_implies, true_implies, Classical.not_not, if_true, if_false, Int.reduceEq, Int.reduceLT, Int.reduceLE, Int.reduceGT, Int.reduceGE, Int.reduceAdd, Int.reduceSub, Int.reduceMul, Int.reduceNeg, Int.reduceNe, Bool.true_and, Bool.and_true, Bool.false_and, Bool.and_false, BEq.rfl, Bool.true_eq_false, Bool.false_eq_true, c1, decide_true, Bool.true_eq_false]
    rw [q_rankOf (hB.put _ _) (by omega), q_rankOf (hB.put _ _) (by omega), q_distance (by omega) (by omega)]
    simp (discharger := omega) only [nlit, iI_lit, iI_add, iI_sub, iI_mul, iI_neg, bI_z, bI_o, i10, i01, eq_self, bI_nar, nar_0, nar_1, bI_t, bI_f, Option.some.injEq, exists_eq_left', true_and, and_true, forall_eq, not_true_eq_false, not_false_eq_true, forall_const, false_implies, true_implies, Classical.not_not, if_true, if_false, Int.reduceEq, Int.reduceLT, Int.reduceLE, Int.reduceGT, Int.reduceGE, Int.reduceAdd, Int.reduceSub, Int.reduceMul, Int.reduceNeg, Int.reduceNe, Bool.true_and, Bool.and_true, Bool.false_and, Bool.and_false, BEq.rfl, Bool.true_eq_false, Bool.false_eq_true, iI_eq]
    by_cases c2 : dist (a / F) (b / F) = 2
    · simp (discharger := omega) only [nlit, iI_lit, iI_add, iI_sub, iI_mul, iI_neg, bI_z, bI_o, i10, i01, eq_self, bI_nar, nar_0, nar_1, bI_t, bI_f, Option.some.injEq, exists_eq_left', true_and, and_true, forall_eq, not_true_eq_false, not_false_eq_true, forall_const, false_implies, true_implies, Classical.not_not, if_true, if_false, Int.reduceEq, Int.reduceLT, Int.reduceLE, Int.reduceGT, Int.reduceGE, Int.reduceAdd, Int.reduceSub, Int.reduceMul, Int.reduceNeg, Int.reduceNe, Bool.true_and, Bool.and_true, Bool.false_and, Bool.and_false, BEq.rfl, Bool.true_eq_false, Bool.false_eq_true, c2]
      rw [q_pieceOf (by decide) (by omega)]
      refine q_isBeside (F := F) (R := R) h (hB.put _ _) (by omega) (by rw [l6]; exact o6) hb (pieceOfB_r (by decide)) ?_
      rw [l6]
      simp (discharger := omega) only [nlit, iI_lit, iI_add, iI_sub, iI_mul, iI_neg, bI_z, bI_o, i10, i01, eq_self, bI_nar, nar_0, nar_1, bI_t, bI_f, Option.some.injEq, exists_eq_left', true_and, and_true, forall_eq, not_true_eq_false, not_false_eq_true, forall_const, false_implies, true_implies, Classical.not_not, if_true, if_false, Int.reduceEq, Int.reduceLT, Int.reduceLE, Int.reduceGT, Int.reduceGE, Int.reduceAdd, Int.reduceSub, Int.reduceMul, Int.reduceNeg, Int.reduceNe, Bool.true_and, Bool.and_true, Bool.false_and, Bool.and_false, BEq.rfl, Bool.true_eq_false, Bool.false_eq_true]
      cases c3 : besideB F (mk6 F R (lv m l) a b bec) b (pieceOfB 6 (1 - lv m l 64))
      · simp (discharger := omega) only [nlit, iI_lit, iI_add, iI_sub, iI_mul, iI_neg, bI_z, bI_o, i10, i01, eq_self, bI_nar, nar_0, nar_1, bI_t, bI_f, Option.some.injEq, exists_eq_left', true_and, and_true, forall_eq, not_true_eq_false, not_false_eq_true, forall_const, false_implies, true_implies, Classical.not_not, if_true, if_false, Int.reduceEq, Int.reduceLT, Int.reduceLE, Int.reduceGT, Int.reduceGE, Int.reduceAdd, Int.reduceSub, Int.reduceMul, Int.reduceNeg, Int.reduceNe, Bool.true_and, Bool.and_true, Bool.false_and, Bool.and_false, BEq.rfl, Bool.true_eq_false, Bool.false_eq_true]
        exact fin (-1) (by rw [if_neg]; rintro ⟨-, -, z⟩; rw [c3] at z; cases z)
      · have e2 : (iI 2 = iI 0) = False := eq_false (by decide)
        simp (discharger := omega) only [nlit, iI_lit, iI_add, iI_sub, iI_mul, iI_neg, bI_z, bI_o, i10, i01, eq_self, bI_nar, nar_0, nar_1, bI_t, bI_f, Option.some.injEq, exists_eq_left', true_and, and_true, forall_eq, not_true_eq_false, not_false_eq_true, forall_const, false_implies, true_implies, Classical.not_not, if_true, if_false, Int.reduceEq, Int.reduceLT, Int.reduceLE, Int.reduceGT, Int.reduceGE, Int.reduceAdd, Int.reduceSub, Int.reduceMul, Int.reduceNeg, Int.reduceNe, Bool.true_and, Bool.and_true, Bool.false_and, Bool.and_false, BEq.rfl, Bool.true_eq_false, Bool.false_eq_true, e2]
        rw [iI_div (by omega) (by omega) (by omega) (by omega)]
        exact fin ((a + b) / 2) (by rw [if_pos ⟨c1, c2, c3⟩])
    · simp (discharger := omega) only [nlit, iI_lit, iI_add, iI_sub, iI_mul, iI_neg, bI_z, bI_o, i10, i01, eq_self, bI_nar, nar_0, nar_1, bI_t, bI_f, Option.some.injEq, exists_eq_left', true_and, and_true, forall_eq, not_true_eq_false, not_false_eq_true, forall_const, false_implies, true_implies, Classical.not_not, if_true, if_false, Int.reduceEq, Int.reduceLT, Int.reduceLE, Int.reduceGT, Int.reduceGE, Int.reduceAdd, Int.reduceSub, Int.reduceMul, Int.reduceNeg, Int.reduceNe, Bool.true_and, Bool.and_true, Bool.false_and, Bool.and_false, BEq.rfl, Bool.true_eq_false, Bool.false_eq_true, c2]
      exact fin (-1) (by rw [if_neg]; rintro ⟨-, z, -⟩; exact c2 z)
  · simp (discharger := omega) only [nlit, iI_lit, iI_add, iI_sub, iI_mul, iI_neg, bI_z, bI_o, i10, i01, eq_self, bI_nar, nar_0, nar_1, bI_t, bI_f, Option.some.injEq, exists_eq_left', true_and, and_true, forall_eq, not_true_eq_false, not_false_eq_true, forall_const, false_implies, true_implies, Classical.not_not, if_true, if_false, Int.reduceEq, Int.reduceLT, Int.reduceLE, Int.reduceGT, Int.reduceGE, Int.reduceAdd, Int.reduceSub, Int.reduceMul, Int.reduceNeg, Int.reduceNe, Bool.true_and, Bool.and_true, Bool.false_and, Bool.and_false, BEq.rfl, Bool.true_eq_false, Bool.false_eq_true, c1, decide_false]
    exact fin (-1) (by rw [if_neg]; rintro ⟨z, -⟩; exact c1 z)
end
