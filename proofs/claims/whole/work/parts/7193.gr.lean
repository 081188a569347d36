/-! PHASE 3: readMoves and fault of the class -/
section
variable {F R : Int}
theorem linB_snoc {t : Mv} : ∀ (ts : List Mv) (v : Int → Int), linB F R v ts → t ∈ movesL F R (posL F R v ts) → linB F R v (ts ++ [t]) := by
  intro ts
  induction ts with
  | nil => intro v _ h; exact ⟨h, trivial⟩
  | cons u ts ih => intro v q h; exact ⟨q.1, ih _ q.2 h⟩
/-- the line that was read goes by the rules -/
abbrev LI (F R made : Int) (v : Int → Int) (s : RD) : Prop := 0 ≤ s.1 ∧ linB F R v s.2.2.2.2.1 ∧ s.2.1 0 = posL F R v s.2.2.2.2.1 ∧ s.2.2.2.1 0 = s.2.2.2.2.1.length ∧ made + s.2.2.2.2.1.length ≤ 80
theorem LI.brk {made c : Int} {v : Int → Int} {s s' : RD} (h : LI F R made v s) (ht : brkS c s = some s') : LI F R made v s' := by
  obtain ⟨h0, h1, h2, h3, h4⟩ := h
  unfold brkS at ht
  split at ht
  · exact absurd ht (by simp)
  split at ht
  · split at ht
    · exact absurd ht (by simp)
    · injection ht with ht; rw [← ht]; exact ⟨by show 0 ≤ s.1 - 1; omega, h1, h2, h3, h4⟩
  split at ht
  · split at ht
    · injection ht with ht; rw [← ht]
      refine ⟨by show 0 ≤ s.1 + 1; omega, h1, ?_, ?_, h4⟩
      · show setR s.2.1 (s.1 + 1) (s.2.2.1 s.1) 0 = _
        rw [setR_ne _ _ (by omega)]; exact h2
      · show setR s.2.2.2.1 (s.1 + 1) 0 0 = _
        rw [setR_ne _ _ (by omega)]; exact h3
    · exact absurd ht (by simp)
  · injection ht with ht; rw [← ht]; exact ⟨h0, h1, h2, h3, h4⟩
theorem LI.word {made a e : Int} {t : Int → Int} {v : Int → Int} {s s' : RD} (h : LI F R made v s) (ht : wordS F R made t a e s = some s') : LI F R made v s' := by
  obtain ⟨h0, h1, h2, h3, h4⟩ := id h
  unfold wordS at ht
  split at ht
  · exact absurd ht (by simp)
  split at ht
  · split at ht
    · exact absurd ht (by simp)
    · injection ht with ht; rw [← ht]; exact h
  split at ht
  · split at ht
    · injection ht with ht; rw [← ht]; exact h
    · exact absurd ht (by simp)
  split at ht
  · exact absurd ht (by simp)
  split at ht
  · exact absurd ht (by simp)
  rename_i q1 q2
  have fr := firstL_r (fun k => letsB t a e (sanA F (s.2.1 s.1) (movesL F R (s.2.1 s.1)) ((movesL F R (s.2.1 s.1)).getD k.toNat (0, 0, 0))) (endC F R (mkT F R (s.2.1 s.1) ((movesL F R (s.2.1 s.1)).getD k.toNat (0, 0, 0))))) (movesL F R (s.2.1 s.1)).length 0
  rw [← namB_first] at fr
  have mem : (movesL F R (s.2.1 s.1)).getD (namB F R (s.2.1 s.1) t a e 0 (movesL F R (s.2.1 s.1)).length).toNat (0, 0, 0) ∈ movesL F R (s.2.1 s.1) := getD_mem (by omega)
  injection ht with ht; rw [← ht]
  generalize (movesL F R (s.2.1 s.1)).getD (namB F R (s.2.1 s.1) t a e 0 (movesL F R (s.2.1 s.1)).length).toNat (0, 0, 0) = u at mem
  refine ⟨h0, ?_, ?_, ?_, ?_⟩
  · show linB F R v (if s.1 = 0 then s.2.2.2.2.1 ++ [u] else s.2.2.2.2.1)
    split
    · rename_i z
      rw [z, h2] at mem
      exact linB_snoc _ _ h1 mem
    · exact h1
  · show setR s.2.1 s.1 (mkT F R (s.2.1 s.1) u) 0 = posL F R v (if s.1 = 0 then s.2.2.2.2.1 ++ [u] else s.2.2.2.2.1)
    split
    · rename_i z
      rw [posL_snoc, ← h2, z]; exact setR_at _ _ _
    · rw [setR_ne _ _ (by omega)]; exact h2
  · show setR s.2.2.2.1 s.1 (s.2.2.2.1 s.1 + 1) 0 = (((if s.1 = 0 then s.2.2.2.2.1 ++ [u] else s.2.2.2.2.1) : List Mv).length : Int)
    split
    · rename_i z
      rw [z, setR_at, List.length_append, h3]; simp
    · rw [setR_ne _ _ (by omega)]; exact h3
  · show made + (((if s.1 = 0 then s.2.2.2.2.1 ++ [u] else s.2.2.2.2.1) : List Mv).length : Int) ≤ 80
    split
    · rename_i z
      rw [List.length_append, List.length_singleton]; omega
    · exact h4
theorem rdM_lin {made len : Int} {t : Int → Int} {v : Int → Int} : ∀ (n : Nat) (a : Int) (s : RD), LI F R made v s → LI F R made v (rdM F R made t len n a s).2 := by
  intro n
  induction n with
  | zero => intro a s h; exact h
  | succ n ih =>
    intro a s h
    unfold rdM
    split
    · exact h
    split
    · exact ih _ _ h
    split
    · split
      · exact h
      · rename_i s1 hs
        have h1 := h.brk hs
        split
        · split
          · exact h1
          · exact ih _ _ h1
        · exact ih _ _ h1
    · split
      · exact h
      · rename_i s1 hs
        exact ih _ _ (h.word hs)
theorem rdT_lin {made len : Int} {t : Int → Int} {v : Int → Int} (hm : made ≤ 80) : LI F R made v (rdT F R made t len v).2 :=
  rdM_lin 502 0 (rd0 v) ⟨Int.le_refl _, trivial, rfl, rfl, by show made + ((0 : Nat) : Int) ≤ 80; omega⟩
/-- the game behind a row of moves: its positions, its moves -/
def addW (F R : Int) : Int → (Int → Int → Int) → (Int → Int) → List Mv → (Int → Int → Int)
  | _, w, _, [] => w
  | n, w, v, t :: ts => addW F R (n + 1) (fun k => if k = n + 1 then mkT F R v t else w k) (mkT F R v t) ts
def addMv : Int → (Int → Mv) → List Mv → (Int → Mv)
  | _, mv, [] => mv
  | n, mv, t :: ts => addMv (n + 1) (fun k => if k = n then t else mv k) ts
theorem linB_PV (h4 : 4 ≤ F) (h8 : F ≤ 8) (r4 : 4 ≤ R) (r8 : R ≤ 8) (hn : 0 ≤ F * R) : ∀ (ts : List Mv) (v : Int → Int), PV F R v → linB F R v ts → PV F R (posL F R v ts) := by
  intro ts
  induction ts with
  | nil => intro v h _; exact h
  | cons t ts ih => intro v h q; exact ih _ (PV_mk h4 h8 r4 r8 h (movesL_mem hn q.1)) q.2
end
section
variable {D : wD} {S : wS} {o : Nat → Nat} {c : cM} {F R : Int} {v : Int → Int} {post : Int32 → wS → Prop} {xp : String → wS → Prop} {n : Int} {w : Int → Int → Int} {mv : Int → Mv} {y : Nat} {L : List Int}
theorem q_faultC (h : CC D S o) (hP : TKS D S o) (hN : NOW c F R v) (hG : PG c n w mv) (hT : SB (cS S o c) (o 49) y L) (hc : sN S y < 1000000) (h500 : L.length ≤ 500) (h32 : ∀ x ∈ L, 32 ≤ x ∧ x ≤ 126) (hfw : ∀ v, PV F R v → few F R v) (hte : ∀ v, PV F R v → tellB F R v)
    (k0 : properB F R v = false → xp "java/lang/IllegalStateException" (cS S o c)) (k1 : properB F R v = true → ∀ c', cSim KRd c c' → post (iI (rdT F R n (tx L) L.length v).1) (cS S o c')) : wp_X11_fault D post xp (cS S o c) (o 0) := by
  obtain ⟨hB, hv, hcl, hb, he, hA, hL⟩ := id hN
  unfold wp_X11_fault wp_X11_fault_0
  refine q_mustBeLawful h hB hv hb hA hL k0 fun q => ?_
  refine ⟨o 22, c_r h rfl, (c_m h (by decide)).mpr trivial, c_k h (by decide), o 49, c_r h rfl, (c_m h (by decide)).mpr trivial, c_k h (by decide), o 11, c_r h rfl, (c_m h (by decide)).mpr trivial, c_k h (by decide), o 13, c_r h rfl, (c_m h (by decide)).mpr trivial, c_k h (by decide), ?_⟩
  rw [c_i1 h (by decide) (show ((3 : Nat) : Int) = 3 from rfl), hG.1, show (80 : Int32) = iI 80 from rfl, iI_sub]
  exact q_readC h hP (fun c' => hT.over h c c' (o_ne h (by decide) (by decide))) hc h500 h32 hfw hte hG.2.1 hB hA (hN.pv q) (fun c' q1 _ => k1 q c' q1)
/-- the moves of the line are made -/
theorem q_readM_89 (h : CC D S o) (hm80 : (0 : Int) ≤ n) {s : RD} {ts : List Mv} (lts : ts.length ≤ 80) (hts : s.2.2.2.2.1 = ts) {bc bs : Nat} (h16 : c.1 22 8 = s.2.2.2.2.2.1) :
    ∀ (us : List Mv) (f : Nat) (j : Int) (c1 : cM) (v1 : Int → Int) (n1 : Int) (w1 : Int → Int → Int) (mv1 : Int → Mv), us.length < f → 0 ≤ j → j + us.length = ts.length → (∀ k : Nat, k < us.length → ts.getD (j.toNat + k) (0, 0, 0) = us.getD k (0, 0, 0)) → cSim [11, 13, 14, 15] c c1 → RDC c s → BG c F R → PV F R v1 → linB F R v1 us → PAt c1 11 v1 → PG c1 n1 w1 mv1 → n1 + us.length ≤ 80 →
    (∀ c2, cSim [11, 13, 14, 15] c c2 → PAt c2 11 (posL F R v1 us) → PG c2 (n1 + us.length) (addW F R n1 w1 v1 us) (addMv n1 mv1 us) → post (iI ts.length) (cS S o (cI c2 0 16 s.2.2.2.2.2.1))) →
    wp_X11_readMoves_89 D post xp f bc bs (cS S o c1) (o 0) (iI ts.length) (iI j) := by
  intro us
  induction us with
  | nil =>
    intro f j c1 v1 n1 w1 mv1 hf j0 hj _ hs hR hB hv _ hA hG _ k
    obtain ⟨f, rfl⟩ : ∃ f', f = f' + 1 := ⟨f - 1, by omega⟩
    have l80 : ts.length ≤ 500 := by
      have := (hR.2.2.1 0 (by decide) hR.1.2.1).2.1.2
      have := hR.2.2.2.1.1
      rw [hts] at this
      omega
    unfold wp_X11_readMoves_89
    rw [List.length_nil] at hj
    rw [iI_le (by omega) (by omega) (by omega) (by omega)]
    refine ⟨fun _ => ⟨o 22, c_r h rfl, (c_m h (by decide)).mpr trivial, c_k h (by decide), fun S3 e3 => ?_⟩, fun q => absurd (by omega) q⟩
    rw [c_i1 h (by decide) (show ((8 : Nat) : Int) = 8 from rfl), (hs 22 (by decide)).1, h16, c_u1 h (by decide) (show ((16 : Nat) : Int) = 16 from rfl)] at e3
    rw [e3]
    refine k c1 hs hA ?_
    rw [List.length_nil, Int.natCast_zero, Int.add_zero]; exact hG
  | cons t us ih =>
    intro f j c1 v1 n1 w1 mv1 hf j0 hj hg hs hR hB hv hl hA hG h80 k
    obtain ⟨f, rfl⟩ : ∃ f', f = f' + 1 := ⟨f - 1, by omega⟩
    have hm := hB.m
    have h4 := hB.f4; have h8 := hB.f8; have r4 := hB.r4; have r8 := hB.r8
    rw [List.length_cons] at hj h80 hf
    have n1r := hG.2.1
    have l80 : ts.length ≤ 500 := by
      have := (hR.2.2.1 0 (by decide) hR.1.2.1).2.1.2
      have := hR.2.2.2.1.1
      rw [hts] at this
      omega
    unfold wp_X11_readMoves_89
    rw [iI_le (by omega) (by omega) (by omega) (by omega)]
    refine ⟨fun q => absurd q (by omega), fun _ => ⟨o 22, c_r h rfl, (c_m h (by decide)).mpr trivial, c_k h (by decide), ?_⟩⟩
    have hR1 : RDC c1 s := by
      obtain ⟨q1, q2⟩ := hs 22 (by decide)
      obtain ⟨q3, q4⟩ := hs 24 (by decide)
      obtain ⟨q5, q6⟩ := hs 25 (by decide)
      obtain ⟨q7, q8⟩ := hs 26 (by decide)
      obtain ⟨q9, qa⟩ := hs 27 (by decide)
      unfold RDC RS
      rw [q1, q4, q6, q7, q9]
      exact hR
    obtain ⟨jn, rfl⟩ : ∃ jn : Nat, j = jn := ⟨j.toNat, by omega⟩
    refine q_lineMove h hR1 (j := jn) (by rw [hts]; omega) (by rw [hts]; exact lts) ?_
    have g0 := hg 0 (by simp)
    rw [Int.toNat_natCast, Nat.add_zero] at g0
    rw [hts, g0]
    have ok := movesL_mem (F := F) (R := R) (v := v1) (by omega) hl.1
    have hv' := PV_mk h4 h8 r4 r8 hv ok
    refine q_makeC h (hs.B (fun m hm => by simp; omega) hB) hv hA hG (by omega) (t := t) ok ?_
    intro x9 e9
    rw [e9, show (1 : Int32) = iI 1 from rfl, iI_add]
    refine ih f (jn + 1) (makeM F R c1 n1 v1 t) (mkT F R v1 t) (n1 + 1) _ _ (by omega) (by omega) (by omega) (fun k hk => ?_) (hs.trans (makeM_sim F R c1 n1 v1 t)) hR hB hv' hl.2 (makeM_P F R c1 n1 v1 t) (makeM_G hG (by omega) (hv'.1.rg hm.2) (ok.m hm.2)) (by omega) fun c2 q1 q2 q3 => ?_
    · have := hg (k + 1) (by rw [List.length_cons]; omega)
      rw [show ((jn : Int) + 1).toNat + k = (jn : Int).toNat + (k + 1) by omega, this]; rfl
    · refine k c2 q1 q2 ?_
      rw [List.length_cons, show n1 + ((us.length + 1 : Nat) : Int) = n1 + 1 + us.length by omega]
      exact q3
theorem q_readMovesC (h : CC D S o) (hP : TKS D S o) (hN : NOW c F R v) (hG : PG c n w mv) (hT : SB (cS S o c) (o 49) y L) (hc : sN S y < 1000000) (h500 : L.length ≤ 500) (h32 : ∀ x ∈ L, 32 ≤ x ∧ x ≤ 126) (hfw : ∀ v, PV F R v → few F R v) (hte : ∀ v, PV F R v → tellB F R v) {bc bs : Nat}
    (k0 : properB F R v = false → ∀ U', EX D (cS S o c) U' [o 49] → SB U' (o 49) y [] → CC D U' o → U' = cS U' o c → xp "java/lang/IllegalStateException" U')
    (k1 : properB F R v = true → (rdT F R n (tx L) L.length v).1 ≠ -1 → ∀ c' U', cSim KRd c c' → EX D (cS S o c') U' [o 49] → SB U' (o 49) y [] → CC D U' o → U' = cS U' o c' → xp "java/lang/IllegalArgumentException" U')
    (k2 : properB F R v = true → (rdT F R n (tx L) L.length v).1 = -1 → ∀ c' U', cSim KRd c c' → EX D (cS S o c') U' [o 49] → SB U' (o 49) y [] → CC D U' o → U' = cS U' o c' →
      ∀ c2, cSim [11, 13, 14, 15] c' c2 → PAt c2 11 (posL F R v (rdT F R n (tx L) L.length v).2.2.2.2.2.1) → PG c2 (n + (rdT F R n (tx L) L.length v).2.2.2.2.2.1.length) (addW F R n w v (rdT F R n (tx L) L.length v).2.2.2.2.2.1) (addMv n mv (rdT F R n (tx L) L.length v).2.2.2.2.2.1) →
      post (iI (rdT F R n (tx L) L.length v).2.2.2.2.2.1.length) (cS U' o (cI c2 0 16 (rdT F R n (tx L) L.length v).2.2.2.2.2.2.1))) :
    wp_X11_readMoves D post xp (bc + 1) (bs + 6) (cS S o c) (o 0) := by
  obtain ⟨hB, hv, hcl, hb, he, hA, hL⟩ := id hN
  have hm := hB.m
  have lin := rdT_lin (F := F) (R := R) (t := tx L) (len := L.length) (v := v) hG.2.1.2
  have lr := lin.2.2.2.2
  unfold wp_X11_readMoves wp_X11_readMoves_0
  -- the text is emptied
  have clr : ∀ (c' : cM) (x1 t0 : Int) , cSim KRd c c' → (∀ U', EX D (cS S o c') U' [o 49] → SB U' (o 49) y [] → CC D U' o → U' = cS U' o c' →
      ((¬ (iI x1) = 0 → ((iI t0 = (-1 : Int32) → ∃ y_8 : Nat, sR U' (o 0) 6 = some y_8 ∧ wM D U' y_8 ∧ sK U' y_8 = 10 ∧
        wp_X5_lineLength D (fun r_9 S_10 => ∃ n_11 : Nat, wp_X11_readMoves_89 D post xp n_11 (bc + 1 - 0) (bs + 6 - 0) S_10 (o 0) r_9 (0 : Int32)) U' y_8) ∧
       (¬ iI t0 = (-1 : Int32) → xp "java/lang/IllegalArgumentException" U'))) ∧ ((iI x1) = 0 → xp "java/lang/IllegalStateException" U'))) →
      wp_X11_readMoves_38 D post xp (bc + 1) (bs + 6) (cS S o c') (o 0) (iI x1) (iI t0) := by
    intro c' x1 t0 hs k
    unfold wp_X11_readMoves_38
    refine ⟨o 49, c_r h rfl, (c_m h (by decide)).mpr trivial, c_k h (by decide), 0, 0, Nat.zero_le _, Nat.zero_le _, ?_⟩
    have hT' := hT.over h c c' (o_ne h (by decide) (by decide))
    refine q_clearB hT' (by show sN S y < 1000000; exact hc) fun U' hE hS => ?_
    have hap : ∀ n, cOk n = true → o n ∉ [o 49] := fun n hn => by simpa using o_ne h (by decide) (by decide) n hn
    have h2 := ex_c h hE hap
    have k := k U' hE hS h2.1 h2.2
    exact ⟨fun q => ⟨(k.1 q).1, fun z => ⟨by omega, by omega, (k.1 q).2 z⟩⟩, fun q => ⟨by omega, by omega, k.2 q⟩⟩
  refine q_isFirstLawful h hB hv hb hA hL ?_
  rw [bI_0]
  refine ⟨fun q => ?_, fun q => ⟨o 22, c_r h rfl, (c_m h (by decide)).mpr trivial, c_k h (by decide), o 49, c_r h rfl, (c_m h (by decide)).mpr trivial, c_k h (by decide), o 11, c_r h rfl, (c_m h (by decide)).mpr trivial, c_k h (by decide), o 13, c_r h rfl, (c_m h (by decide)).mpr trivial, c_k h (by decide), ?_⟩⟩
  · rw [q]
    refine clr c 0 (-1) (cSim.refl _ _) fun U' q1 q2 q3 q4 => ⟨fun z => absurd rfl z, fun _ => k0 q U' q1 q2 q3 q4⟩
  · have q : properB F R v = true := (Bool.not_eq_false _).mp q
    rw [q, c_i1 h (by decide) (show ((3 : Nat) : Int) = 3 from rfl), hG.1, show (80 : Int32) = iI 80 from rfl, iI_sub]
    refine q_readC h hP (fun c' => hT.over h c c' (o_ne h (by decide) (by decide))) hc h500 h32 hfw hte hG.2.1 hB hA (hN.pv q) (fun c' s1 s2 => ?_)
    have k1 := k1 q
    have k2 := k2 q
    generalize hrs : rdT F R n (tx L) L.length v = rs at s2 k1 k2 lin lr ⊢
    have rng : -1 ≤ rs.1 ∧ rs.1 ≤ L.length := by rw [← hrs]; exact rdM_r F R n (tx L) (len := L.length) (by omega) 502 0 (rd0 v) (Int.le_refl _) (by omega)
    refine clr c' 1 rs.1 s1 fun U' q1 q2 q3 q4 => ⟨fun _ => ⟨fun z => ?_, fun z => ?_⟩, fun z => absurd z (by decide)⟩
    · rw [show (-1 : Int32) = iI (-1) from rfl, iI_eq (by omega) (by omega) (by decide) (by decide)] at z
      have hR := s2 z
      have k2 := k2 z c' U' s1 q1 q2 q3 q4
      rw [q4]
      refine ⟨o 22, c_r q3 rfl, (c_m q3 (by decide)).mpr trivial, c_k q3 (by decide), ?_⟩
      refine q_lineLength q3 hR ?_
      refine ⟨rs.2.2.2.2.2.1.length + 1, ?_⟩
      have hG' : PG c' n w mv := PG.sim s1 (by decide) (by decide) (by decide) hG
      have hB' : BG c' F R := s1.B (fun m hm => by simp; omega) hB
      exact q_readM_89 (D := D) (n := n) q3 hG.2.1.1 (by have := hG.2.1.1; omega) rfl hR.2.2.2.2.1 rs.2.2.2.2.2.1 _ 0 c' v n w mv (by omega) (by decide) (by omega) (fun k hk => by rw [show (0 : Int).toNat + k = k from Nat.zero_add k]) (cSim.refl _ _) hR hB' (hN.pv q) lin.2.1 (s1.P (by decide) hA) hG' lr k2
    · rw [show (-1 : Int32) = iI (-1) from rfl, iI_eq (by omega) (by omega) (by decide) (by decide)] at z
      exact k1 z c' U' s1 q1 q2 q3 q4
end
