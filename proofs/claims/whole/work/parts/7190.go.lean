/-! PHASE 3: the reader takes a move -/
section
variable {D : wD} {S : wS} {o : Nat → Nat} {c : cM} {F R : Int}
/-- what a move that was read leaves: the reader's state, the class's cells -/
def mvS (F R : Int) (s : RD) (t : Mv) : RD := (s.1, setR s.2.1 s.1 (mkT F R (s.2.1 s.1) t), setR s.2.2.1 s.1 (s.2.1 s.1), setR s.2.2.2.1 s.1 (s.2.2.2.1 s.1 + 1), (if s.1 = 0 then s.2.2.2.2.1 ++ [t] else s.2.2.2.2.1), (if s.1 = 0 then s.2.2.2.2.2.1 else s.2.2.2.2.2.1 + 1), false, false)
def mvX (F R : Int) (c : cM) (d : Int) (v : Int → Int) (t : Mv) : cM := putS (putP (putS c 25 d v) 23 (mkT F R v t)) 24 d (mkT F R v t)
def mvY (F R : Int) (c : cM) (d : Int) (v : Int → Int) (t : Mv) (l : Int) : cM := if d = 0 then cI (mvX F R c d v t) 27 l (mcode t) else cI (mvX F R c d v t) 22 8 (c.1 22 8 + 1)
def mvM (F R : Int) (c : cM) (d : Int) (v : Int → Int) (t : Mv) (l : Int) : cM := cI (cI (mvY F R c d v t l) 26 d (l + 1)) 22 9 0
theorem mvX_1 (F R : Int) (c : cM) (d : Int) (v : Int → Int) (t : Mv) {r : Nat} {j : Int} (h : r ≠ 23) : (mvX F R c d v t).1 r j = c.1 r j := by
  unfold mvX
  rw [putS_i, putP_1 _ _ h, putS_i]
theorem mvY_1 (F R : Int) (c : cM) (d : Int) (v : Int → Int) (t : Mv) (l : Int) {r : Nat} {j : Int} (h : r ≠ 23 ∧ (r ≠ 22 ∨ j ≠ 8) ∧ (r ≠ 27 ∨ j ≠ l)) : (mvY F R c d v t l).1 r j = c.1 r j := by
  unfold mvY
  split
  · rw [cI_1, up_ne _ h.2.2, mvX_1 _ _ _ _ _ _ h.1]
  · rw [cI_1, up_ne _ h.2.1, mvX_1 _ _ _ _ _ _ h.1]
theorem mvY_2 (F R : Int) (c : cM) (d : Int) (v : Int → Int) (t : Mv) (l : Int) : (mvY F R c d v t l).2 = (mvX F R c d v t).2 := by
  unfold mvY
  split
  · rfl
  · rfl
theorem mvM_1 (F R : Int) (c : cM) (d : Int) (v : Int → Int) (t : Mv) (l : Int) {r : Nat} {j : Int} (h : r ≠ 23 ∧ (r ≠ 22 ∨ (j ≠ 8 ∧ j ≠ 9)) ∧ (r ≠ 26 ∨ j ≠ d) ∧ (r ≠ 27 ∨ j ≠ l)) : (mvM F R c d v t l).1 r j = c.1 r j := by
  unfold mvM
  rw [cI_1, up_ne _ (by omega), cI_1, up_ne _ h.2.2.1, mvY_1 _ _ _ _ _ _ _ ⟨h.1, by omega, h.2.2.2⟩]
theorem mvM_2 (F R : Int) (c : cM) (d : Int) (v : Int → Int) (t : Mv) (l : Int) : (mvM F R c d v t l).2 = (mvX F R c d v t).2 := by
  unfold mvM
  rw [cI_2, cI_2, mvY_2]
theorem mvM_sim (F R : Int) (c : cM) (d : Int) (v : Int → Int) (t : Mv) (l : Int) : cSim [22, 23, 24, 25, 26, 27] c (mvM F R c d v t l) := fun n hn => by
  have h1 : n ≠ 22 := fun e => hn (by simp [e])
  have h2 : n ≠ 23 := fun e => hn (by simp [e])
  have h3 : n ≠ 24 := fun e => hn (by simp [e])
  have h4 : n ≠ 25 := fun e => hn (by simp [e])
  have h5 : n ≠ 26 := fun e => hn (by simp [e])
  have h6 : n ≠ 27 := fun e => hn (by simp [e])
  refine ⟨funext fun j => mvM_1 F R c d v t l ⟨h2, Or.inl h1, Or.inl h5, Or.inl h6⟩, ?_⟩
  rw [mvM_2]
  unfold mvX
  rw [putS_r _ _ _ h3, putP_2 _ _ h2, putS_r _ _ _ h4]
theorem mvM_RDC {s : RD} {t : Mv} (hR : RDC c s) (hv' : rgV (mkT F R (s.2.1 s.1) t)) (hl5 : s.2.2.2.1 s.1 < 500) (hres : s.2.2.2.2.2.2.2 = false) : RDC (mvM F R c s.1 (s.2.1 s.1) t (s.2.2.2.1 s.1)) (mvS F R s t) := by
  obtain ⟨⟨h6, hd⟩, hn, hl, hli, h8, h9, h10⟩ := id hR
  have hle := hl s.1 hd.1 (Int.le_refl _)
  have hv := (hn s.1 hd.1 (Int.le_refl _)).2
  refine ⟨⟨?_, hd⟩, fun d d0 d1 => ?_, fun d d0 d1 => ?_, ⟨?_, fun k hk => ?_⟩, ?_, ?_, ?_⟩
  · rw [mvM_1 _ _ _ _ _ _ _ ⟨by decide, Or.inr (by decide), Or.inl (by decide), Or.inl (by decide)⟩]; exact h6
  · show RS _ 24 d (setR s.2.1 s.1 (mkT F R (s.2.1 s.1) t) d) ∧ rgV (setR s.2.1 s.1 (mkT F R (s.2.1 s.1) t) d)
    unfold setR
    have g : ∀ w, RS (mvX F R c s.1 (s.2.1 s.1) t) 24 d w → RS (mvM F R c s.1 (s.2.1 s.1) t (s.2.2.2.1 s.1)) 24 d w := fun w hw => by unfold RS; rw [mvM_2]; exact hw
    by_cases q : d = s.1
    · rw [if_pos q, q]
      rw [q] at g
      exact ⟨g _ (putS_at _ 24 s.1 _), hv'⟩
    · rw [if_neg q]
      have := hn d d0 d1
      refine ⟨g _ (RS.putS _ ?_ q), this.2⟩
      unfold RS
      rw [putP_2 _ _ (by decide), putS_r _ _ _ (by decide)]; exact this.1
  · show _ = setR s.2.2.2.1 s.1 (s.2.2.2.1 s.1 + 1) d ∧ (0 ≤ setR s.2.2.2.1 s.1 (s.2.2.2.1 s.1 + 1) d ∧ setR s.2.2.2.1 s.1 (s.2.2.2.1 s.1 + 1) d ≤ 500) ∧ (setR s.2.2.2.1 s.1 (s.2.2.2.1 s.1 + 1) d ≠ 0 → RS _ 25 d (setR s.2.2.1 s.1 (s.2.1 s.1) d) ∧ rgV (setR s.2.2.1 s.1 (s.2.1 s.1) d))
    have e25 : (mvM F R c s.1 (s.2.1 s.1) t (s.2.2.2.1 s.1)).2 25 = (putS c 25 s.1 (s.2.1 s.1)).2 25 := by
      rw [mvM_2]; unfold mvX; rw [putS_r _ _ _ (by decide), putP_2 _ _ (by decide)]
    unfold setR
    by_cases q : d = s.1
    · rw [if_pos q, if_pos q, q]
      refine ⟨?_, by omega, fun _ => ⟨?_, hv⟩⟩
      · unfold mvM; rw [cI_1, up_ne _ (Or.inl (by decide)), cI_1, up_at]
      · unfold RS; rw [e25]; exact putS_at c 25 s.1 _
    · rw [if_neg q, if_neg q]
      have := hl d d0 d1
      refine ⟨?_, this.2.1, fun z => ⟨?_, (this.2.2 z).2⟩⟩
      · rw [mvM_1 _ _ _ _ _ _ _ ⟨by decide, Or.inl (by decide), Or.inr q, Or.inl (by decide)⟩]; exact this.1
      · unfold RS; rw [e25]; exact RS.putS _ (this.2.2 z).1 q
  · show (((if s.1 = 0 then s.2.2.2.2.1 ++ [t] else s.2.2.2.2.1) : List Mv).length : Int) = setR s.2.2.2.1 s.1 (s.2.2.2.1 s.1 + 1) 0
    unfold setR
    by_cases q : s.1 = 0
    · rw [if_pos q, if_pos q.symm, List.length_append, q]
      have := hli.1
      simp only [List.length_singleton]; omega
    · rw [if_neg q, if_neg (fun z => q z.symm)]; exact hli.1
  · show _ = mcode ((if s.1 = 0 then s.2.2.2.2.1 ++ [t] else s.2.2.2.2.1).getD k (0, 0, 0))
    have hk : k < ((if s.1 = 0 then s.2.2.2.2.1 ++ [t] else s.2.2.2.2.1) : List Mv).length := hk
    by_cases q : s.1 = 0
    · rw [if_pos q] at hk ⊢
      rw [List.length_append, List.length_singleton] at hk
      have e1 : ∀ j : Int, (mvM F R c s.1 (s.2.1 s.1) t (s.2.2.2.1 s.1)).1 27 j = up (mvX F R c s.1 (s.2.1 s.1) t).1 27 (s.2.2.2.1 s.1) (mcode t) 27 j := fun j => by
        unfold mvM mvY
        rw [cI_1, up_ne _ (Or.inl (by decide)), cI_1, up_ne _ (Or.inl (by decide)), if_pos q, cI_1]
      have := hli.1
      rw [e1]
      by_cases z : k = s.2.2.2.2.1.length
      · rw [z, List.getD_eq_getElem?_getD, List.getElem?_append_right (Nat.le_refl _), Nat.sub_self, show ((s.2.2.2.2.1.length : Nat) : Int) = s.2.2.2.1 s.1 by rw [q]; exact this, up_at]; rfl
      · rw [up_ne _ (Or.inr (by rw [q]; omega)), mvX_1 _ _ _ _ _ _ (by decide), List.getD_eq_getElem?_getD, List.getElem?_append_left (by omega), ← List.getD_eq_getElem?_getD]
        exact hli.2 k (by omega)
    · rw [if_neg q] at hk ⊢
      have e1 : ∀ j : Int, (mvM F R c s.1 (s.2.1 s.1) t (s.2.2.2.1 s.1)).1 27 j = c.1 27 j := fun j => by
        unfold mvM mvY
        rw [cI_1, up_ne _ (Or.inl (by decide)), cI_1, up_ne _ (Or.inl (by decide)), if_neg q, cI_1, up_ne _ (Or.inl (by decide)), mvX_1 _ _ _ _ _ _ (by decide)]
      rw [e1]
      exact hli.2 k hk
  · show _ = (if s.1 = 0 then s.2.2.2.2.2.1 else s.2.2.2.2.2.1 + 1)
    unfold mvM mvY
    rw [cI_1, up_ne _ (Or.inr (by decide)), cI_1, up_ne _ (Or.inl (by decide))]
    by_cases q : s.1 = 0
    · rw [if_pos q, if_pos q, cI_1, up_ne _ (Or.inl (by decide)), mvX_1 _ _ _ _ _ _ (by decide)]; exact h8
    · rw [if_neg q, if_neg q, cI_1, up_at, h8]
  · unfold mvM
    rw [cI_1, up_at]; rfl
  · rw [mvM_1 _ _ _ _ _ _ _ ⟨by decide, Or.inr (by decide), Or.inl (by decide), Or.inl (by decide)⟩, h10, hres]; rfl
/-- the number of the move that a word names, or -1; the class's step for a word -/
def wnB (F R : Int) (L : List Int) (v : Int → Int) (a e : Int) : Int :=
  if tx L (e - 1) = 43 ∨ tx L (e - 1) = 35 then
    (if firstL (fun i => decide (wdC F R v i = zI (if e - 1 - a ≤ 7 then pkT (tx L) 0 (e - 1 - a).toNat a else 0))) 0 (movesL F R v).length = -1 then -1
     else if endC F R (mkT F R v ((movesL F R v).getD (firstL (fun i => decide (wdC F R v i = zI (if e - 1 - a ≤ 7 then pkT (tx L) 0 (e - 1 - a).toNat a else 0))) 0 (movesL F R v).length).toNat (0, 0, 0))) = tx L (e - 1) then firstL (fun i => decide (wdC F R v i = zI (if e - 1 - a ≤ 7 then pkT (tx L) 0 (e - 1 - a).toNat a else 0))) 0 (movesL F R v).length else -1)
  else firstL (fun i => decide (wdC F R v i = zI (if e - a ≤ 7 then pkT (tx L) 0 (e - a).toNat a else 0))) 0 (movesL F R v).length
def movB (F R rm : Int) (L : List Int) (a e : Int) (s : RD) : Option RD :=
  if s.2.2.2.2.2.2.2 = true then none
  else if s.1 = 0 ∧ rm ≤ s.2.2.2.1 0 then none
  else if wnB F R L (s.2.1 s.1) a e = -1 then none
  else some (mvS F R s ((movesL F R (s.2.1 s.1)).getD (wnB F R L (s.2.1 s.1) a e).toNat (0, 0, 0)))
theorem q_takesMove_178 {post : Int32 → wS → Prop} (h : CC D S o) {s : RD} (hR : RDC c s) (hB : BG c F R) (hv : PV F R (s.2.1 s.1)) (hf : few F R (s.2.1 s.1)) (hL : LK c F R (s.2.1 s.1)) (hA : PAt c 23 (s.2.1 s.1)) (hl5 : s.2.2.2.1 s.1 < 500) (h80 : s.1 = 0 → s.2.2.2.1 0 < 80) (hres : s.2.2.2.2.2.2.2 = false) {i : Int} (hi : 0 ≤ i ∧ i < (movesL F R (s.2.1 s.1)).length)
    (k : post (iI 1) (cS S o (mvM F R c s.1 (s.2.1 s.1) ((movesL F R (s.2.1 s.1)).getD i.toNat (0, 0, 0)) (s.2.2.2.1 s.1)))) : wp_X5_takesMove_178 D post (cS S o c) (o 22) (iI i) := by
  obtain ⟨⟨h6, hd⟩, hn, hl, hli, h8, h9, h10⟩ := id hR
  have hle := hl s.1 hd.1 (Int.le_refl _)
  have hr := (hn s.1 hd.1 (Int.le_refl _)).2
  have hm := hB.m
  have h4 := hB.f4; have h8' := hB.f8; have r4 := hB.r4; have r8 := hB.r8
  have hf' : ((movesL F R (s.2.1 s.1)).length : Int) ≤ 320 := hf
  have e6 : sI (cS S o c) (o 22) 6 = iI s.1 := by rw [c_i0 h (by decide), show c.1 22 ((6 : Nat) : Int) = s.1 from h6]
  have ok := movesL_mem (F := F) (R := R) (v := s.2.1 s.1) (by omega) (getD_mem (L := movesL F R (s.2.1 s.1)) (k := i) hi)
  have hv' := PV_mk h4 h8' r4 r8 hv ok
  unfold wp_X5_takesMove_178
  rw [e6]
  refine ⟨o 23, c_r h rfl, (c_m h (by decide)).mpr trivial, c_k h (by decide), o 25, c_r h rfl, (c_m h (by decide)).mpr trivial, c_k h (by decide), ?_⟩
  refine q_save h (by decide) (by decide) (by decide) hA hr (i := s.1) (by show 0 ≤ s.1 ∧ s.1 * 5 + 5 ≤ ((25 : Nat) : Int); omega) (by decide) ?_
  have s25 := putS_sim c 25 s.1 (s.2.1 s.1)
  refine ⟨o 23, c_r h rfl, (c_m h (by decide)).mpr trivial, c_k h (by decide), o 17, c_r h rfl, (c_m h (by decide)).mpr trivial, c_k h (by decide), ?_⟩
  have hL1 : LK (putS c 25 s.1 (s.2.1 s.1)) F R (s.2.1 s.1) := hL.sim s25 (by decide) (by decide) (by decide)
  refine q_codeAt h hL1 (by omega) hi ?_
  generalize ht : (movesL F R (s.2.1 s.1)).getD i.toNat (0, 0, 0) = t at ok hv' k ⊢
  refine q_apply h (s25.B (fun m hm => by simp; omega) hB) (p := 23) (by decide) hv.1 hv.2.1 hv.2.2.1 hv.2.2.2.1 (proper_parts hv.2.2.2.2).2.2.1 (s25.P (by decide) hA) ok ?_
  have sim2 : cSim [23, 25] c (putP (putS c 25 s.1 (s.2.1 s.1)) 23 (mkT F R (s.2.1 s.1) t)) := (s25.mono (by decide)).trans ((putP_sim _ 23 _).mono (by decide))
  have e62 : sI (cS S o (putP (putS c 25 s.1 (s.2.1 s.1)) 23 (mkT F R (s.2.1 s.1) t))) (o 22) 6 = iI s.1 := by rw [c_i0 h (by decide), (sim2 22 (by decide)).1, show c.1 22 ((6 : Nat) : Int) = s.1 from h6]
  rw [e62]
  refine ⟨o 23, c_r h rfl, (c_m h (by decide)).mpr trivial, c_k h (by decide), o 24, c_r h rfl, (c_m h (by decide)).mpr trivial, c_k h (by decide), ?_⟩
  refine q_save h (by decide) (by decide) (by decide) (putP_at _ 23 _) (hv'.1.rg hm.2) (i := s.1) (by show 0 ≤ s.1 ∧ s.1 * 5 + 5 ≤ ((25 : Nat) : Int); omega) (by decide) ?_
  rw [show putS (putP (putS c 25 s.1 (s.2.1 s.1)) 23 (mkT F R (s.2.1 s.1) t)) 24 s.1 (mkT F R (s.2.1 s.1) t) = mvX F R c s.1 (s.2.1 s.1) t from rfl]
  have sx : cSim [23, 24, 25] c (mvX F R c s.1 (s.2.1 s.1) t) := (sim2.mono (by decide)).trans ((putS_sim _ 24 _ _).mono (by decide))
  have x22 : ∀ j, (mvX F R c s.1 (s.2.1 s.1) t).1 22 j = c.1 22 j := fun j => mvX_1 _ _ _ _ _ _ (by decide)
  have e63 : sI (cS S o (mvX F R c s.1 (s.2.1 s.1) t)) (o 22) 6 = iI s.1 := by rw [c_i0 h (by decide), x22, show c.1 22 ((6 : Nat) : Int) = s.1 from h6]
  have e83 : sI (cS S o (mvX F R c s.1 (s.2.1 s.1) t)) (o 22) 8 = iI (c.1 22 8) := by rw [c_i0 h (by decide), x22]; rfl
  rw [e63, e83]
  have fin : ∀ c1 : cM, c1 = mvY F R c s.1 (s.2.1 s.1) t (s.2.2.2.1 s.1) → wp_X5_takesMove_278 D post (cS S o c1) (o 22) := by
    intro c1 e1
    have y26 : c1.1 26 s.1 = s.2.2.2.1 s.1 := by rw [e1, mvY_1 _ _ _ _ _ _ _ ⟨by decide, Or.inl (by decide), Or.inl (by decide)⟩]; exact hle.1
    have e64 : sI (cS S o c1) (o 22) 6 = iI s.1 := by
      rw [c_i0 h (by decide), e1, mvY_1 _ _ _ _ _ _ _ ⟨by decide, Or.inr (by decide), Or.inl (by decide)⟩, show c.1 22 ((6 : Nat) : Int) = s.1 from h6]
    unfold wp_X5_takesMove_278
    rw [e64]
    have iv : vp_in (iI s.1) (sN (cS S o c1) (o 26)) := by rw [c_n h (by decide)]; exact iI_in (by omega) (by omega) (by show s.1 < ((5 : Nat) : Int); omega)
    refine ⟨o 26, c_r h rfl, (c_m h (by decide)).mpr trivial, c_k h (by decide), iv, (c_l h (by decide)).mpr trivial, iv, fun S4 e4 => ⟨rfl, rfl, fun S5 e5 => ⟨rfl, ?_⟩⟩⟩
    rw [c_i h (by decide) (by omega) (by omega), y26, show (1 : Int32) = iI 1 from rfl, iI_add, c_u h (by decide) (by omega) (by omega)] at e4
    rw [e4, show (0 : Int32) = iI 0 from rfl, c_u1 h (by decide) (show ((9 : Nat) : Int) = 9 from rfl)] at e5
    rw [e5, e1]
    exact k
  have n27 : sN (cS S o (mvX F R c s.1 (s.2.1 s.1) t)) (o 27) = 80 := c_n h (by decide)
  have i26 : vp_in (0 : Int32) (sN (cS S o (mvX F R c s.1 (s.2.1 s.1) t)) (o 26)) := by rw [c_n h (by decide)]; exact iI_in (a := 0) (by omega) (by omega) (by decide)
  have x26 : sI (cS S o (mvX F R c s.1 (s.2.1 s.1) t)) (o 26) ((0 : Int32)).toNatClampNeg = iI (s.2.2.2.1 0) := by
    rw [show (0 : Int32) = iI 0 from rfl, c_i h (by decide) (by decide) (by decide), mvX_1 _ _ _ _ _ _ (by decide)]
    rw [(hl 0 (by decide) hd.1).1]
  rw [show (iI s.1 ≤ (0 : Int32)) = (s.1 ≤ 0) from iI_le (b := 0) (by omega) (by omega) (by decide) (by decide)]
  refine ⟨fun q => ?_, fun q S28 e28 => ?_⟩
  · have s0 : s.1 = 0 := by omega
    have l80 := h80 s0
    have l0 := (hl 0 (by decide) hd.1).2.1
    refine ⟨o 26, c_r h rfl, (c_m h (by decide)).mpr trivial, c_k h (by decide), i26, o 27, c_r h rfl, (c_m h (by decide)).mpr trivial, c_k h (by decide), ?_⟩
    rw [x26, n27, show Int32.ofNat 80 = iI 80 from rfl, iI_le (by decide) (by decide) (by omega) (by omega)]
    refine ⟨fun q => absurd q (by omega), fun _ => ⟨o 27, c_r h rfl, (c_m h (by decide)).mpr trivial, c_k h (by decide), o 26, c_r h rfl, (c_m h (by decide)).mpr trivial, c_k h (by decide), i26, o 17, c_r h rfl, (c_m h (by decide)).mpr trivial, c_k h (by decide), ?_⟩⟩
    refine q_codeAt h (hL.sim sx (by decide) (by decide) (by decide)) (by omega) hi ?_
    rw [ht, x26, n27]
    refine ⟨(c_l h (by decide)).mpr trivial, iI_in (by omega) (by omega) (by omega), fun S27 e27 => ?_⟩
    rw [c_u h (by decide) (by omega) (by omega)] at e27
    rw [e27]
    refine fin _ ?_
    unfold mvY
    rw [if_pos s0, s0]
  · rw [show (1 : Int32) = iI 1 from rfl, iI_add, c_u1 h (by decide) (show ((8 : Nat) : Int) = 8 from rfl)] at e28
    rw [e28]
    refine fin _ ?_
    unfold mvY
    rw [if_neg (by omega)]
/-- the cells that reading texts of moves may change -/
abbrev KRd : List Nat := [10, 17, 18, 19, 20, 21, 22, 23, 24, 25, 26, 27]
theorem q_takesMove {post : Int32 → wS → Prop} {y b : Nat} {L : List Int} (h : CC D S o) (hP : ∀ c, ST D (cS S o c) (D.2.2.1 1) pcsL) (hT : ∀ c, SB (cS S o c) b y L) (hc : sN S y < 1000000) {s : RD} (hR : RDC c s) (hB : BG c F R) (hv : PV F R (s.2.1 s.1)) (hf : few F R (s.2.1 s.1)) {rm : Int} (h7 : c.1 22 7 = rm) (hrm : 0 ≤ rm ∧ rm ≤ 80) (hl5 : s.2.2.2.1 s.1 < 500) {a e : Int} (ha : 0 ≤ a) (hae : a < e ∧ e ≤ L.length)
    (k0 : movB F R rm L a e s = none → ∀ c', cSim KRd c c' → post (iI 0) (cS S o c')) (k1 : ∀ s', movB F R rm L a e s = some s' → ∀ c', cSim KRd c c' → RDC c' s' → c'.1 22 7 = rm → post (iI 1) (cS S o c')) : wp_X5_takesMove D post (cS S o c) (o 22) b (iI a) (iI e) := by
  obtain ⟨⟨h6, hd⟩, hn, hl, hli, h8, h9, h10⟩ := id hR
  have hle := hl s.1 hd.1 (Int.le_refl _)
  have hns := hn s.1 hd.1 (Int.le_refl _)
  have hl0 := hl 0 (by decide) hd.1
  have hm := hB.m
  have h4 := hB.f4; have h8' := hB.f8; have r4 := hB.r4; have r8 := hB.r8
  have hf' : ((movesL F R (s.2.1 s.1)).length : Int) ≤ 320 := hf
  have lL : L.length < 1000000 := Nat.lt_of_le_of_lt (hT c).2.1.2.2.2 hc
  have i6 : ∀ c', c'.1 22 6 = s.1 → sI (cS S o c') (o 22) 6 = iI s.1 := fun c' e => by rw [c_i0 h (by decide), show c'.1 22 ((6 : Nat) : Int) = s.1 from e]
  have e6 := i6 c h6
  have e7 : sI (cS S o c) (o 22) 7 = iI rm := by rw [c_i0 h (by decide), show c.1 22 ((7 : Nat) : Int) = rm from h7]
  have e10 : sI (cS S o c) (o 22) 10 = iI (bI s.2.2.2.2.2.2.2) := by rw [c_i0 h (by decide), show c.1 22 ((10 : Nat) : Int) = _ from h10]
  have rf : cSim KRd c c := cSim.refl _ _
  unfold movB at k0 k1
  have no : ∀ c', cSim KRd c c' → (s.2.2.2.2.2.2.2 = true ∨ (s.1 = 0 ∧ rm ≤ s.2.2.2.1 0)) → wp_X5_takesMove_67 D post (cS S o c') := fun c' hc' q => by
    refine ⟨rfl, k0 ?_ c' hc'⟩
    by_cases z : s.2.2.2.2.2.2.2 = true
    · rw [if_pos z]
    · rw [if_neg z, if_pos (q.elim (fun w => absurd w z) id)]
  have at25 : ∀ t : Int, (t = 0 ∧ ¬ (s.1 = 0 ∧ rm ≤ s.2.2.2.1 0)) ∨ (t = 1 ∧ s.1 = 0 ∧ rm ≤ s.2.2.2.1 0) → wp_X5_takesMove_25 D post (cS S o c) (o 22) b (iI a) (iI e) (iI t) := by
    intro t ht
    unfold wp_X5_takesMove_25
    rw [e6, e10, show (0 : Int32) = iI 0 from rfl, show (5 : Int32) = iI 5 from rfl, bI_z, iI_eq (by omega) (by omega) (by decide) (by decide), iI_lt (by omega) (by omega) (by decide) (by decide), iI_le (by decide) (by decide) (by omega) (by omega)]
    refine ⟨fun q => no c rf (Or.inl ((Bool.not_eq_false _).mp q)), fun qr => ⟨fun q => no c rf (Or.inr (by omega)), fun q0 => ⟨fun q => absurd q (by omega), fun _ => ⟨fun q => absurd q (by omega), fun _ => ?_⟩⟩⟩⟩
    have nfull : ¬ (s.1 = 0 ∧ rm ≤ s.2.2.2.1 0) := by omega
    rw [if_neg (by rw [qr]; decide), if_neg nfull] at k0 k1
    refine q_lenB (hT c) ?_
    rw [iI_lt (by omega) (by omega) (by omega) (by omega), iI_lt (by omega) (by omega) (by omega) (by omega)]
    refine ⟨fun q => absurd q (by omega), fun _ => ⟨fun _ => ?_, fun q => absurd hae.1 q⟩⟩
    refine ⟨o 23, c_r h rfl, (c_m h (by decide)).mpr trivial, c_k h (by decide), o 24, c_r h rfl, (c_m h (by decide)).mpr trivial, c_k h (by decide), ?_⟩
    rw [e6]
    refine q_load h (p := 23) (by decide) (w := s.2.1 s.1) (fun c' hc => by funext j; rw [c_j0 h (by decide), c_j0 h (by decide), hc 24 (by decide)]) hns.2 (RS.sv h (by decide) ⟨hd.1, by omega⟩ hns.1) (by have e : sN S (o 24) = 25 := c_n (c := c) h (by decide); rw [e]; omega) (by have e : sN S (o 24) = 25 := c_n (c := c) h (by decide); rw [e]; decide) ?_
    have s1 : cSim [23] c (putP c 23 (s.2.1 s.1)) := putP_sim c 23 _
    refine ⟨o 17, c_r h rfl, (c_m h (by decide)).mpr trivial, c_k h (by decide), o 23, c_r h rfl, (c_m h (by decide)).mpr trivial, c_k h (by decide), ?_⟩
    have hA1 := putP_at c 23 (s.2.1 s.1)
    have hB1 : BG (putP c 23 (s.2.1 s.1)) F R := s1.B (fun m hm => by simp; omega) hB
    refine q_lookL h hB1 (p := 23) (by decide) (by decide) (PV.k h4 h8' r4 r8 hv) hA1 (by omega) ?_
    have s2 : cSim [10, 17, 18, 20, 23] c (lkM (putP c 23 (s.2.1 s.1)) F R (s.2.1 s.1)) := (s1.mono (by decide)).trans ((lkM_sim _ F R _).mono (by decide))
    have hL2 := lkM_LK (putP c 23 (s.2.1 s.1)) F R (s.2.1 s.1)
    have hA2 : PAt (lkM (putP c 23 (s.2.1 s.1)) F R (s.2.1 s.1)) 23 (s.2.1 s.1) := (lkM_sim _ F R _).P (by decide) hA1
    have h62 : (lkM (putP c 23 (s.2.1 s.1)) F R (s.2.1 s.1)).1 17 6 = 0 := by unfold lkM; rw [cI_1, up_at]
    generalize hc2 : lkM (putP c 23 (s.2.1 s.1)) F R (s.2.1 s.1) = c2 at s2 hL2 hA2 h62 ⊢
    rw [show (1 : Int32) = iI 1 from rfl, iI_sub]
    refine q_charB (hT c2) hc (i := e - 1) (by omega) ?_
    have r1 := tx_r (hT c).2.2.2.2.1 (e - 1)
    rw [tx_in, show (43 : Int32) = iI 43 from rfl, show (35 : Int32) = iI 35 from rfl, iI_eq (by omega) (by omega) (by decide) (by decide), iI_eq (by omega) (by omega) (by decide) (by decide)]
    -- what stands behind the packed word
    have go : ∀ (e1 t6 : Int), a ≤ e1 ∧ e1 ≤ L.length → (t6 = 0 ∨ t6 = 1) → (∀ i, i = firstL (fun i => decide (wdC F R (s.2.1 s.1) i = zI (if e1 - a ≤ 7 then pkT (tx L) 0 (e1 - a).toNat a else 0))) 0 (movesL F R (s.2.1 s.1)).length →
        wnB F R L (s.2.1 s.1) a e = if i = -1 then -1 else if t6 = 0 then i else if endC F R (mkT F R (s.2.1 s.1) ((movesL F R (s.2.1 s.1)).getD i.toNat (0, 0, 0))) = tx L (e - 1) then i else -1) →
        wp_X5_takesMove_143 D post (cS S o c2) (o 22) (iI (tx L (e - 1))) (iI t6) (o 17) b (iI a) (iI e1) := by
      intro e1 t6 he1 ht6 hw
      unfold wp_X5_takesMove_143 wp_X5_takesMove_176
      refine q_packed (hT c2) hc ha he1 ?_
      refine q_numberOfWord h (s2.B (fun m hm => by simp; omega) hB) hP hv hL2 hf (Or.inl h62) fun c3 a1 a2 a3 a4 => ?_
      have hw := hw _ rfl
      have fr := firstL_r (fun i => decide (wdC F R (s.2.1 s.1) i = zI (if e1 - a ≤ 7 then pkT (tx L) 0 (e1 - a).toNat a else 0))) (movesL F R (s.2.1 s.1)).length 0
      generalize firstL (fun i => decide (wdC F R (s.2.1 s.1) i = zI (if e1 - a ≤ 7 then pkT (tx L) 0 (e1 - a).toNat a else 0))) 0 (movesL F R (s.2.1 s.1)).length = i at hw fr ⊢
      have s3 : cSim KRd c c3 := (s2.mono (by decide)).trans (a1.mono (by decide))
      rw [show (-1 : Int32) = iI (-1) from rfl, show (0 : Int32) = iI 0 from rfl, iI_eq (by omega) (by omega) (by decide) (by decide), iI_eq (by omega) (by omega) (by decide) (by decide)]
      have yes : ∀ c4, cSim [10, 19] c3 c4 → wnB F R L (s.2.1 s.1) a e = i → i ≠ -1 → wp_X5_takesMove_178 D post (cS S o c4) (o 22) (iI i) := by
        intro c4 s4 hwi hi
        have s34 : cSim [10, 17, 18, 19, 20, 21, 23] c c4 := ((s2.mono (by decide)).trans (a1.mono (by decide))).trans (s4.mono (by decide))
        have hR4 : RDC c4 s := by
          obtain ⟨q1, q2⟩ := s34 22 (by decide)
          obtain ⟨q3, q4⟩ := s34 24 (by decide)
          obtain ⟨q5, q6⟩ := s34 25 (by decide)
          obtain ⟨q7, q8⟩ := s34 26 (by decide)
          obtain ⟨q9, qa⟩ := s34 27 (by decide)
          unfold RDC RS
          rw [q1, q4, q6, q7, q9]
          exact hR
        have hA3 : PAt c3 23 (s.2.1 s.1) := a1.P (by decide) hA2
        refine q_takesMove_178 h hR4 (s34.B (fun m hm => by simp; omega) hB) hv hf (a2.sim s4 (by decide) (by decide) (by decide)) (s4.P (by decide) hA3) hl5 (fun z => by omega) qr (i := i) (by omega) ?_
        have nw : ¬ wnB F R L (s.2.1 s.1) a e = -1 := by omega
        rw [if_neg nw, hwi] at k1
        refine k1 _ rfl _ ((s34.mono (by decide)).trans ((mvM_sim F R _ _ _ _ _).mono (by decide))) (mvM_RDC hR4 ?_ hl5 qr) ?_
        · have ok := movesL_mem (F := F) (R := R) (v := s.2.1 s.1) (by omega) (getD_mem (L := movesL F R (s.2.1 s.1)) (k := i) (by omega))
          exact (PV_mk h4 h8' r4 r8 hv ok).1.rg hm.2
        · rw [mvM_1 _ _ _ _ _ _ _ ⟨by decide, Or.inr (by decide), Or.inl (by decide), Or.inl (by decide)⟩, (s34 22 (by decide)).1]; exact h7
      refine ⟨fun q => ⟨rfl, k0 (by rw [hw, if_pos q, if_pos rfl]) c3 s3⟩, fun q => ?_⟩
      rw [if_neg q] at hw
      refine ⟨fun z => yes c3 (cSim.refl _ _) (by rw [hw, if_pos z]) q, fun z => ⟨o 17, c_r h rfl, (c_m h (by decide)).mpr trivial, c_k h (by decide), ?_⟩⟩
      rw [if_neg z] at hw
      have s3' : cSim [10, 17, 18, 20, 21, 23] c c3 := (s2.mono (by decide)).trans (a1.mono (by decide))
      refine q_markOf h (s3'.B (fun m hm => by simp; omega) hB) hv a2 hf (i := i) (by omega) fun c4 s4 => ?_
      have ev := endC_v F R (mkT F R (s.2.1 s.1) ((movesL F R (s.2.1 s.1)).getD i.toNat (0, 0, 0)))
      rw [iI_eq (by omega) (by omega) (by omega) (by omega)]
      refine ⟨fun y => yes c4 s4 (by rw [hw, if_pos y]) q, fun y => ⟨rfl, k0 (by rw [hw, if_neg y, if_pos rfl]) c4 (s3.trans (s4.mono (by decide)))⟩⟩
    have at123 : ∀ t0 : Int, (t0 = 0 ∧ ¬ (tx L (e - 1) = 43 ∨ tx L (e - 1) = 35)) ∨ (t0 = 1 ∧ (tx L (e - 1) = 43 ∨ tx L (e - 1) = 35)) → wp_X5_takesMove_123 D post (cS S o c2) (o 22) b (iI a) (iI e) (iI (tx L (e - 1))) (iI t0) := by
      intro t0 ht0
      unfold wp_X5_takesMove_123
      refine ⟨o 17, c_r h rfl, (c_m h (by decide)).mpr trivial, c_k h (by decide), ?_⟩
      rw [show (0 : Int32) = iI 0 from rfl, show (1 : Int32) = iI 1 from rfl, iI_sub, iI_eq (by omega) (by omega) (by decide) (by decide)]
      rcases ht0 with ⟨z, y⟩ | ⟨z, y⟩
      · refine ⟨fun _ => go e t0 (by omega) (Or.inl z) (fun i hi => ?_), fun w => absurd z w⟩
        unfold wnB
        rw [if_neg y, ← hi, if_pos z]
        split
        · assumption
        · rfl
      · refine ⟨fun w => absurd w (by omega), fun _ => go (e - 1) t0 (by omega) (Or.inr z) (fun i hi => ?_)⟩
        unfold wnB
        rw [if_pos y, ← hi, if_neg (show ¬ t0 = 0 by omega)]
    unfold wp_X5_takesMove_118
    exact ⟨fun z => at123 1 (Or.inr ⟨rfl, Or.inl z⟩), fun z => ⟨fun y => at123 0 (Or.inl ⟨rfl, fun w => w.elim z y⟩), fun y => at123 1 (Or.inr ⟨rfl, Or.inr y⟩)⟩⟩
  unfold wp_X5_takesMove wp_X5_takesMove_0 wp_X5_takesMove_24
  rw [e6, e7, show (0 : Int32) = iI 0 from rfl, show (1 : Int32) = iI 1 from rfl, iI_eq (by omega) (by omega) (by decide) (by decide)]
  refine ⟨fun q => at25 0 (Or.inl ⟨rfl, fun w => q w.1⟩), fun q => ⟨o 26, c_r h rfl, (c_m h (by decide)).mpr trivial, c_k h (by decide), iI_in (a := 0) (by omega) (by omega) (by rw [c_n h (by decide)]; decide), ?_⟩⟩
  rw [c_i h (by decide) (by decide) (by decide), hl0.1, iI_lt (by omega) (by omega) (by omega) (by omega)]
  exact ⟨fun z => at25 0 (Or.inl ⟨rfl, by omega⟩), fun z => at25 1 (Or.inr ⟨rfl, q, by omega⟩)⟩
end
