/-! PHASE 3: the calls about continuations -/
section
variable {D : wD} {S : wS} {o : Nat → Nat} {c : cM} {F R : Int} {v : Int → Int} {g : Int → Int}
theorem ahead_rf : ∀ W : List Int, ahead W W = false
  | [] => rfl
  | x :: W => by rw [ahead, if_pos rfl]; exact ahead_rf W
theorem GTR.ah (hB : BG c F R) (h : GTR c F R v g) {k i : Int} (hk : 0 ≤ k ∧ k < (movesL F R v).length) (hi : 0 ≤ i ∧ i < (movesL F R v).length) (gk : 0 < g k) (gi : 0 < g i) : ahC c k i = ahead (wdB F R v k) (wdB F R v i) := by
  have hm := hB.m
  have ok := movesL_mem (F := F) (R := R) (v := v) (by omega) (getD_mem (L := movesL F R v) (k := k) hk)
  have oi := movesL_mem (F := F) (R := R) (v := v) (by omega) (getD_mem (L := movesL F R v) (k := i) hi)
  have sk := sanW_ok hB (L := movesL F R v) ok
  have si := sanW_ok hB (L := movesL F R v) oi
  unfold ahC
  rw [h.2.2 k hk.1 hk.2, h.2.2 i hi.1 hi.2]
  unfold gwM
  rw [if_pos gk, if_pos gi]
  have e := lg_pad (W := wdB F R v k) (V := wdB F R v i) ⟨sanW_ne hB ok, sk⟩ ⟨sanW_ne hB oi, si⟩
  unfold wdB at e ⊢
  cases z : ahead (sanW F R v (movesL F R v) ((movesL F R v).getD k.toNat (0, 0, 0))) (sanW F R v (movesL F R v) ((movesL F R v).getD i.toNat (0, 0, 0)))
  · rw [z] at e
    rw [decide_eq_true (e.mpr rfl)]; rfl
  · rw [z] at e
    rw [decide_eq_false (fun y => absurd (e.mp y) (by decide))]; rfl
theorem sumL_eq {f f' : Int → Int} : ∀ (d : Nat) (k : Int), (∀ i : Int, k ≤ i → i < k + d → f i = f' i) → sumL f k d = sumL f' k d := by
  intro d
  induction d with
  | zero => intro k _; rfl
  | succ d ih => intro k h; rw [sumL_S, sumL_S, h k (by omega) (by omega), ih (k + 1) (fun i a b => h i (by omega) (by omega))]
theorem GTR.bef (hB : BG c F R) (h : GTR c F R v g) {i : Int} (hi : 0 ≤ i ∧ i < (movesL F R v).length) (gi : 0 < g i) : befC c (movesL F R v).length i = plcB g (wdB F R v) (movesL F R v).length i := by
  unfold befC plcB
  refine sumL_eq _ _ fun k k0 k1 => ?_
  have gk := (h.2.1 k k0 (by omega)).1
  rw [gk]
  by_cases z : 0 < g k
  · rw [h.ah hB ⟨k0, by omega⟩ hi z gi]
    by_cases y : k = i
    · rw [y, ahead_rf]; simp
    · by_cases u : ahead (wdB F R v k) (wdB F R v i) = true
      · rw [if_pos ⟨z, u⟩, if_pos ⟨y, z, u⟩]
      · rw [if_neg (fun q => u q.2), if_neg (fun q => u q.2.2)]
  · rw [if_neg (fun q => z q.1), if_neg (fun q => z q.2.1)]
theorem GTR.cnt (hB : BG c F R) (h : GTR c F R v g) (x : Int) : ∀ (d : Nat) (k : Int), 0 ≤ k → k + d = (movesL F R v).length → firstL (fun k => decide (0 < c.1 35 k) && decide (befC c (movesL F R v).length k = x)) k d = cntF g (wdB F R v) (movesL F R v).length x k d := by
  intro d
  induction d with
  | zero => intro k _ _; rfl
  | succ d ih =>
    intro k k0 k1
    unfold firstL cntF
    rw [ih (k + 1) (by omega) (by omega), (h.2.1 k k0 (by omega)).1]
    by_cases z : 0 < g k
    · rw [h.bef hB ⟨k0, by omega⟩ z, decide_eq_true z, Bool.true_and]
      by_cases y : plcB g (wdB F R v) (movesL F R v).length k = x
      · rw [decide_eq_true y, if_pos rfl, if_pos ⟨z, y⟩]
      · rw [decide_eq_false y, if_neg (by decide), if_neg (fun q => y q.2)]
    · rw [decide_eq_false z, Bool.false_and, if_neg (by decide), if_neg (fun q => z q.1)]
theorem GTR.mn (hB : BG c F R) (h : GTR c F R v g) : ∀ (d : Nat) (b j : Int), 0 ≤ j → j + d = (movesL F R v).length → (b = -1 ∨ (0 ≤ b ∧ b < j ∧ 0 < g b)) → mnC c b j d = mainF g (wdB F R v) b j d := by
  intro d
  induction d with
  | zero => intro b j _ _ _; rfl
  | succ d ih =>
    intro b j j0 j1 hb
    unfold mnC mainF
    have gj := (h.2.1 j j0 (by omega))
    have e : (gwC c b < c.1 35 j ∨ (c.1 35 j = gwC c b ∧ 0 < c.1 35 j ∧ ahC c j b = true)) ↔ (0 < g j ∧ (b = -1 ∨ g b < g j ∨ (g j = g b ∧ ahead (wdB F R v j) (wdB F R v b) = true))) := by
      rw [gj.1]
      rcases hb with q | ⟨q1, q2, q3⟩
      · have : gwC c b = 0 := by unfold gwC; rw [if_pos (by omega)]
        rw [this]
        constructor
        · intro z; exact ⟨by omega, Or.inl q⟩
        · intro z; exact Or.inl z.1
      · have : gwC c b = g b := by unfold gwC; rw [if_neg (by omega)]; exact (h.2.1 b q1 (by omega)).1
        rw [this]
        constructor
        · rintro (z | ⟨z1, z2, z3⟩)
          · exact ⟨by omega, Or.inr (Or.inl z)⟩
          · rw [h.ah hB ⟨j0, by omega⟩ ⟨q1, by omega⟩ z2 q3] at z3
            exact ⟨z2, Or.inr (Or.inr ⟨z1, z3⟩)⟩
        · rintro ⟨z, y | y | ⟨y1, y2⟩⟩
          · omega
          · exact Or.inl y
          · refine Or.inr ⟨y1, z, ?_⟩
            rw [h.ah hB ⟨j0, by omega⟩ ⟨q1, by omega⟩ z q3]; exact y2
    by_cases z : (0 < g j ∧ (b = -1 ∨ g b < g j ∨ (g j = g b ∧ ahead (wdB F R v j) (wdB F R v b) = true)))
    · rw [if_pos (e.mpr z), if_pos z]
      exact ih j (j + 1) (by omega) (by omega) (Or.inr ⟨j0, by omega, z.1⟩)
    · rw [if_neg (fun y => z (e.mp y)), if_neg z]
      exact ih b (j + 1) (by omega) (by omega) (by omega)
end
section
variable {D : wD} {S : wS} {o : Nat → Nat} {c : cM} {F R : Int} {v : Int → Int} {post : Int32 → wS → Prop} {xp : String → wS → Prop} {yl : Int → Nat} {els : Int → List Nat} {n : Int → Int → Int} {w : Int → Int → Int → Int → Int} {mv : Int → Int → Int → Mv} {fr : Int → Int → Int → Bool} {inf : Int → Int → Nat → Int} {ys : Int → Int → Nat × Nat × Nat}
/-- how many games go on with a move, as the class counts them -/
abbrev gtF (F R : Int) (v : Int → Int) (n : Int → Int → Int) (w : Int → Int → Int → Int → Int) (mv : Int → Int → Int → Mv) (els : Int → List Nat) (s : Int) : Int → Int := fun i => gtC F R v (n s) (w s) (mv s) i (els s).length
abbrev KCo : List Nat := [10, 17, 18, 19, 20, 35, 36, 37]
theorem q_continuationsC (h : CC D S o) (hP : ∀ c, ST D (cS S o c) (D.2.2.1 1) pcsL) (hN : NOW c F R v) (hf : properB F R v = true → few F R v) (hS : SHL D S o c yl els n w mv fr inf ys) (hl : ∀ s : Int, (s = 0 ∨ s = 1) → offK (cLs.map o) (els s) (ys s)) {s : Int} (hs : i32 s)
    (k0 : inB s 0 1 = false → xp "java/lang/IndexOutOfBoundsException" (cS S o c)) (k1 : inB s 0 1 = true → properB F R v = false → xp "java/lang/IllegalStateException" (cS S o c))
    (k2 : inB s 0 1 = true → properB F R v = true → ∀ c', cSim KCo c c' → post (iI (cntG (gtF F R v n w mv els s) (movesL F R v).length)) (cS S o c')) : wp_X11_continuations D post xp (cS S o c) (o 0) (iI s) := by
  obtain ⟨hB, hv, hcl, hb, he, hA, hL⟩ := id hN
  unfold wp_X11_continuations wp_X11_continuations_0
  refine q_shelfOf h hs k0 fun z => ?_
  have s01 := in01.mp z
  refine q_mustBeLawful h hB hv hb hA hL (k1 z) fun q => ?_
  have hf := hf q
  have len : ((movesL F R v).length : Int) ≤ 320 := hf
  have sk := shk (c := c) h s01
  refine ⟨o 34, c_r h rfl, (c_m h (by decide)).mpr trivial, c_k h (by decide), o 11, c_r h rfl, (c_m h (by decide)).mpr trivial, c_k h (by decide), o (sbO s), rfl, sk.1, sk.2, ?_⟩
  refine q_gather h hP hB (hN.pv q) hA hf hS hl s01 fun c2 s2 hG => ?_
  refine ⟨o 34, c_r h rfl, (c_m h (by decide)).mpr trivial, c_k h (by decide), ?_⟩
  refine q_numberX1 h (l := (movesL F R v).length) hG.1.2.2 (by omega) (fun i i0 i1 => by have := hG.2.1 i i0 i1; exact ⟨by omega, by omega⟩) ?_
  have e : sumL (fun i => if 0 < c2.1 35 i then (1 : Int) else 0) 0 (movesL F R v).length = cntG (gtF F R v n w mv els s) (movesL F R v).length := by
    unfold cntG
    exact sumL_eq _ _ fun i i0 i1 => by rw [(hG.2.1 i i0 (by omega)).1]
  rw [e]
  exact k2 z q c2 s2
theorem q_followerAt (h : CC D S o) {g : Int → Int} (hB : BG c F R) (hf : few F R v) (hG : GTR c F R v g) {i : Int} (hi : i32 i)
    (k0 : cntF g (wdB F R v) (movesL F R v).length i 0 (movesL F R v).length = -1 → xp "java/lang/IndexOutOfBoundsException" (cS S o c))
    (k1 : cntF g (wdB F R v) (movesL F R v).length i 0 (movesL F R v).length ≠ -1 → post (iI (cntF g (wdB F R v) (movesL F R v).length i 0 (movesL F R v).length)) (cS S o c)) : wp_X11_followerAt D post xp (cS S o c) (o 0) (iI i) := by
  have len : ((movesL F R v).length : Int) ≤ 320 := hf
  unfold wp_X11_followerAt wp_X11_followerAt_0
  refine ⟨o 34, c_r h rfl, (c_m h (by decide)).mpr trivial, c_k h (by decide), ?_⟩
  refine q_moveAtX1 h (l := (movesL F R v).length) hG.1.2.2 (by omega) (fun i i0 i1 => by have := hG.2.1 i i0 i1; exact ⟨by omega, by omega⟩) hi ?_
  have fr := firstL_r (fun k => decide (0 < c.1 35 k) && decide (befC c (movesL F R v).length k = i)) (movesL F R v).length 0
  rw [hG.cnt hB i (movesL F R v).length 0 (by decide) (by omega)] at fr ⊢
  rw [show (-1 : Int32) = iI (-1) from rfl, iI_eq (by omega) (by omega) (by decide) (by decide)]
  exact ⟨k1, k0⟩
theorem q_continuationAtC (h : CC D S o) (hP : ∀ c, ST D (cS S o c) (D.2.2.1 1) pcsL) (hN : NOW c F R v) (hf : properB F R v = true → few F R v) (hS : SHL D S o c yl els n w mv fr inf ys) (hl : ∀ s : Int, (s = 0 ∨ s = 1) → offK (cLs.map o) (els s) (ys s)) {s i : Int} (hs : i32 s) (hi : i32 i)
    (k0 : properB F R v = false → xp "java/lang/IllegalStateException" (cS S o c)) (k1 : properB F R v = true → inB s 0 1 = false → xp "java/lang/IndexOutOfBoundsException" (cS S o c))
    (k2 : properB F R v = true → inB s 0 1 = true → cntF (gtF F R v n w mv els s) (wdB F R v) (movesL F R v).length i 0 (movesL F R v).length = -1 → ∀ c', cSim KCo c c' → xp "java/lang/IndexOutOfBoundsException" (cS S o c'))
    (k3 : properB F R v = true → inB s 0 1 = true → cntF (gtF F R v n w mv els s) (wdB F R v) (movesL F R v).length i 0 (movesL F R v).length ≠ -1 → ∀ c', cSim KCo c c' → post (iI (cntF (gtF F R v n w mv els s) (wdB F R v) (movesL F R v).length i 0 (movesL F R v).length)) (cS S o c')) : wp_X11_continuationAt D post xp (cS S o c) (o 0) (iI s) (iI i) := by
  obtain ⟨hB, hv, hcl, hb, he, hA, hL⟩ := id hN
  unfold wp_X11_continuationAt wp_X11_continuationAt_0
  refine q_mustBeLawful h hB hv hb hA hL k0 fun q => ?_
  have hf := hf q
  refine ⟨o 34, c_r h rfl, (c_m h (by decide)).mpr trivial, c_k h (by decide), ?_⟩
  refine q_shelfOf h hs (k1 q) fun z => ?_
  have s01 := in01.mp z
  have sk := shk (c := c) h s01
  refine ⟨o 11, c_r h rfl, (c_m h (by decide)).mpr trivial, c_k h (by decide), o (sbO s), rfl, sk.1, sk.2, ?_⟩
  refine q_gather h hP hB (hN.pv q) hA hf hS hl s01 fun c2 s2 hG => ?_
  exact q_followerAt h (s2.B (fun m hm => by simp; omega) hB) hf hG hi (fun y => k2 q z y c2 s2) (fun y => k3 q z y c2 s2)
theorem q_gamesOfC (h : CC D S o) (hP : ∀ c, ST D (cS S o c) (D.2.2.1 1) pcsL) (hN : NOW c F R v) (hf : properB F R v = true → few F R v) (hS : SHL D S o c yl els n w mv fr inf ys) (hl : ∀ s : Int, (s = 0 ∨ s = 1) → offK (cLs.map o) (els s) (ys s)) {s i : Int} (hs : i32 s) (hi : i32 i)
    (k0 : properB F R v = false → xp "java/lang/IllegalStateException" (cS S o c)) (k1 : properB F R v = true → inB s 0 1 = false → xp "java/lang/IndexOutOfBoundsException" (cS S o c))
    (k2 : properB F R v = true → inB s 0 1 = true → cntF (gtF F R v n w mv els s) (wdB F R v) (movesL F R v).length i 0 (movesL F R v).length = -1 → ∀ c', cSim KCo c c' → xp "java/lang/IndexOutOfBoundsException" (cS S o c'))
    (k3 : properB F R v = true → inB s 0 1 = true → cntF (gtF F R v n w mv els s) (wdB F R v) (movesL F R v).length i 0 (movesL F R v).length ≠ -1 → ∀ c', cSim KCo c c' → post (iI (gtF F R v n w mv els s (cntF (gtF F R v n w mv els s) (wdB F R v) (movesL F R v).length i 0 (movesL F R v).length))) (cS S o c')) : wp_X11_gamesOf D post xp (cS S o c) (o 0) (iI s) (iI i) := by
  obtain ⟨hB, hv, hcl, hb, he, hA, hL⟩ := id hN
  unfold wp_X11_gamesOf wp_X11_gamesOf_0
  refine q_mustBeLawful h hB hv hb hA hL k0 fun q => ?_
  have hf := hf q
  have len : ((movesL F R v).length : Int) ≤ 320 := hf
  refine ⟨o 34, c_r h rfl, (c_m h (by decide)).mpr trivial, c_k h (by decide), ?_⟩
  refine q_shelfOf h hs (k1 q) fun z => ?_
  have s01 := in01.mp z
  have sk := shk (c := c) h s01
  refine ⟨o 11, c_r h rfl, (c_m h (by decide)).mpr trivial, c_k h (by decide), o (sbO s), rfl, sk.1, sk.2, ?_⟩
  refine q_gather h hP hB (hN.pv q) hA hf hS hl s01 fun c2 s2 hG => ?_
  refine ⟨o 34, c_r h rfl, (c_m h (by decide)).mpr trivial, c_k h (by decide), ?_⟩
  refine q_followerAt h (s2.B (fun m hm => by simp; omega) hB) hf hG hi (fun y => k2 q z y c2 s2) (fun y => ?_)
  have cr := cntF_r (gtF F R v n w mv els s) (wdB F R v) (movesL F R v).length i (movesL F R v).length 0 (by decide)
  have k3 := k3 q z y c2 s2
  generalize cntF (gtF F R v n w mv els s) (wdB F R v) (movesL F R v).length i 0 (movesL F R v).length = j at y cr k3 ⊢
  refine q_gamesWith h (i := j) (by omega) ?_
  rw [(hG.2.1 j (by omega) (by omega)).1]
  exact k3
/-- the main moves, one behind the other -/
def mnF (F R : Int) (n : Int → Int → Int) (w : Int → Int → Int → Int → Int) (mv : Int → Int → Int → Mv) (els : Int → List Nat) (s : Int) (v : Int → Int) : Int := mainF (gtF F R v n w mv els s) (wdB F R v) (-1) 0 (movesL F R v).length
def pmG (F R : Int) (mn : (Int → Int) → Int) : Nat → (Int → Int) → List Mv
  | 0, _ => []
  | k + 1, v => if mn v = -1 then [] else (movesL F R v).getD (mn v).toNat (0, 0, 0) :: pmG F R mn k (mkT F R v ((movesL F R v).getD (mn v).toNat (0, 0, 0)))
abbrev KPm : List Nat := [10, 11, 13, 14, 15, 17, 18, 19, 20, 35, 36, 37]
theorem q_playMain_35 (h : CC D S o) (hP : ∀ c, ST D (cS S o c) (D.2.2.1 1) pcsL) (hfw : ∀ v, PV F R v → few F R v) (hS : SHL D S o c yl els n w mv fr inf ys) (hl : ∀ s : Int, (s = 0 ∨ s = 1) → offK (cLs.map o) (els s) (ys s)) (hB : BG c F R) {s : Int} (hs : s = 0 ∨ s = 1) {most : Int} (hm1 : 1 ≤ most ∧ most ≤ 80) :
    ∀ (f d : Nat) (e : Int) (c1 : cM) (v1 : Int → Int) (n1 : Int) (w1 : Int → Int → Int) (mv1 : Int → Mv), d < f → (d : Int) = min (most - e) (80 - n1) → 0 ≤ e → e ≤ most → cSim KPm c c1 → PV F R v1 → PAt c1 11 v1 → PG c1 n1 w1 mv1 →
    (∀ c2, cSim KPm c c2 → PAt c2 11 (posL F R v1 (pmG F R (mnF F R n w mv els s) d v1)) → PG c2 (n1 + (pmG F R (mnF F R n w mv els s) d v1).length) (addW F R n1 w1 v1 (pmG F R (mnF F R n w mv els s) d v1)) (addMv n1 mv1 (pmG F R (mnF F R n w mv els s) d v1)) → post (iI (e + (pmG F R (mnF F R n w mv els s) d v1).length)) (cS S o c2)) →
    wp_X11_playMain_35 D post xp f (cS S o c1) (o 0) (iI most) (some (o (sbO s))) (iI e) := by
  have hm := hB.m
  have h4 := hB.f4; have h8 := hB.f8; have r4 := hB.r4; have r8 := hB.r8
  intro f
  induction f with
  | zero => intro d e c1 v1 n1 w1 mv1 hd; omega
  | succ f ih =>
    intro d e c1 v1 n1 w1 mv1 hd he e0 e1 hc hv hA hG k
    have n1r := hG.2.1
    have hf := hfw v1 hv
    have len : ((movesL F R v1).length : Int) ≤ 320 := hf
    have stop : d = 0 → post (iI e) (cS S o c1) := fun z => by
      rw [z] at k
      have := k c1 hc hA (by show PG c1 (n1 + ((0 : Nat) : Int)) w1 mv1; rw [Int.natCast_zero, Int.add_zero]; exact hG)
      rw [show e + (((pmG F R (mnF F R n w mv els s) 0 v1).length : Nat) : Int) = e by show e + ((0 : Nat) : Int) = e; omega] at this
      exact this
    unfold wp_X11_playMain_35 wp_X11_playMain_102
    rw [iI_le (by omega) (by omega) (by omega) (by omega)]
    refine ⟨fun q => stop (by omega), fun q => ⟨o 13, c_r h rfl, (c_m h (by decide)).mpr trivial, c_k h (by decide), ?_⟩⟩
    rw [c_i1 h (by decide) (show ((3 : Nat) : Int) = 3 from rfl), hG.1, show (80 : Int32) = iI 80 from rfl, iI_le (by decide) (by decide) (by omega) (by omega)]
    refine ⟨fun q => stop (by omega), fun q2 => ⟨o 34, c_r h rfl, (c_m h (by decide)).mpr trivial, c_k h (by decide), o 11, c_r h rfl, (c_m h (by decide)).mpr trivial, c_k h (by decide), ?_⟩⟩
    have sk := shk (c := c1) h hs
    have hB1 : BG c1 F R := hc.B (fun m hm => by simp; omega) hB
    refine ⟨o (sbO s), rfl, sk.1, sk.2, ?_⟩
    refine q_gather h hP hB1 hv hA hf (SHL.over h c c1 hl hS) hl hs fun c2 s2 hGT => ?_
    have hc2 : cSim KPm c c2 := hc.trans (s2.mono (by decide))
    have hB2 : BG c2 F R := s2.B (fun m hm => by simp; omega) hB1
    refine ⟨o 34, c_r h rfl, (c_m h (by decide)).mpr trivial, c_k h (by decide), ?_⟩
    refine q_mainMoveX1 h (l := (movesL F R v1).length) hGT.1.2.2 (by omega) (fun i i0 i1 => by have := hGT.2.1 i i0 i1; omega) ?_
    rw [hGT.mn hB2 (movesL F R v1).length (-1) 0 (by decide) (by omega) (Or.inl rfl)]
    obtain ⟨d, rfl⟩ : ∃ d', d = d' + 1 := ⟨d - 1, by omega⟩
    have em : mainF (gtF F R v1 n w mv els s) (wdB F R v1) (-1) 0 (movesL F R v1).length = mnF F R n w mv els s v1 := rfl
    have mr := mainF_r (gtF F R v1 n w mv els s) (wdB F R v1) (movesL F R v1).length (-1) 0 (by decide) (Or.inl rfl)
    rw [em] at mr ⊢
    have hA2 : PAt c2 11 v1 := s2.P (by decide) hA
    have hG2 : PG c2 n1 w1 mv1 := PG.sim s2 (by decide) (by decide) (by decide) hG
    unfold pmG at k
    rw [show (-1 : Int32) = iI (-1) from rfl, iI_eq (by omega) (by omega) (by decide) (by decide)]
    refine ⟨fun z => ⟨o 17, c_r h rfl, (c_m h (by decide)).mpr trivial, c_k h (by decide), ?_⟩, fun z => ?_⟩
    · rw [if_neg z] at k
      generalize mnF F R n w mv els s v1 = i at mr z k ⊢
      refine q_codeAt h hGT.1 (by omega) (i := i) (by omega) ?_
      have ok := movesL_mem (F := F) (R := R) (v := v1) (by omega) (getD_mem (L := movesL F R v1) (k := i) (by omega))
      generalize (movesL F R v1).getD i.toNat (0, 0, 0) = t at ok k ⊢
      have hv' := PV_mk h4 h8 r4 r8 hv ok
      refine q_makeC h hB2 hv hA2 hG2 (by omega) (t := t) ok ?_
      intro x e9
      rw [e9, show (1 : Int32) = iI 1 from rfl, iI_add]
      refine ih d (e + 1) (makeM F R c2 n1 v1 t) (mkT F R v1 t) (n1 + 1) _ _ (by omega) (by omega) (by omega) (by omega) (hc2.trans ((makeM_sim F R c2 n1 v1 t).mono (by decide))) hv' (makeM_P F R c2 n1 v1 t) (makeM_G hG2 (by omega) (hv'.1.rg hm.2) (ok.m hm.2)) fun c3 q1 q2 q3 => ?_
      have := k c3 q1 q2 (by rw [List.length_cons, show n1 + (((pmG F R (mnF F R n w mv els s) d (mkT F R v1 t)).length + 1 : Nat) : Int) = n1 + 1 + (pmG F R (mnF F R n w mv els s) d (mkT F R v1 t)).length by omega]; exact q3)
      rw [List.length_cons, show e + (((pmG F R (mnF F R n w mv els s) d (mkT F R v1 t)).length + 1 : Nat) : Int) = e + 1 + (pmG F R (mnF F R n w mv els s) d (mkT F R v1 t)).length by omega] at this
      exact this
    · rw [if_pos z] at k
      have := k c2 hc2 hA2 (by show PG c2 (n1 + ((0 : Nat) : Int)) w1 mv1; rw [Int.natCast_zero, Int.add_zero]; exact hG2)
      rw [show e + (((([] : List Mv)).length : Nat) : Int) = e by show e + ((0 : Nat) : Int) = e; omega] at this
      exact this
theorem q_playMainC (h : CC D S o) (hP : ∀ c, ST D (cS S o c) (D.2.2.1 1) pcsL) (hfw : ∀ v, PV F R v → few F R v) (hN : NOW c F R v) {n0 : Int} {w0 : Int → Int → Int} {mv0 : Int → Mv} (hG : PG c n0 w0 mv0) (hS : SHL D S o c yl els n w mv fr inf ys) (hl : ∀ s : Int, (s = 0 ∨ s = 1) → offK (cLs.map o) (els s) (ys s)) {s most : Int} (hs : i32 s) (hm : i32 most)
    (k0 : inB s 0 1 = false → xp "java/lang/IndexOutOfBoundsException" (cS S o c)) (k1 : inB s 0 1 = true → inB most 1 80 = false → xp "java/lang/IllegalArgumentException" (cS S o c)) (k2 : inB s 0 1 = true → inB most 1 80 = true → properB F R v = false → xp "java/lang/IllegalStateException" (cS S o c))
    (k3 : inB s 0 1 = true → inB most 1 80 = true → properB F R v = true → ∀ L, L = pmG F R (mnF F R n w mv els s) (min most (80 - n0)).toNat v → ∀ c2, cSim KPm c c2 → PAt c2 11 (posL F R v L) → PG c2 (n0 + L.length) (addW F R n0 w0 v L) (addMv n0 mv0 L) → post (iI L.length) (cS S o c2)) : wp_X11_playMain D post xp (cS S o c) (o 0) (iI s) (iI most) := by
  obtain ⟨hB, hv, hcl, hb, he, hA, hL⟩ := id hN
  have n0r := hG.2.1
  unfold wp_X11_playMain wp_X11_playMain_0 wp_X11_playMain_17
  refine q_shelfOf h hs k0 fun z => ?_
  have s01 := in01.mp z
  rw [show (1 : Int32) = iI 1 from rfl, show (80 : Int32) = iI 80 from rfl, iI_lt hm.1 hm.2 (by decide) (by decide), iI_le hm.1 hm.2 (by decide) (by decide)]
  refine ⟨fun q => k1 z ?_, fun q => ⟨fun q2 => ?_, fun q2 => k1 z ?_⟩⟩
  · unfold inB; rw [decide_eq_false (by omega)]; rfl
  · have y : inB most 1 80 = true := inB_iff.mpr ⟨by omega, by omega⟩
    refine q_mustBeLawful h hB hv hb hA hL (k2 z y) fun p => ?_
    refine ⟨82, ?_⟩
    refine q_playMain_35 h hP hfw hS hl hB s01 ⟨by omega, by omega⟩ 82 (min most (80 - n0)).toNat 0 c v n0 w0 mv0 (by omega) (by omega) (by decide) (by omega) (cSim.refl _ _) (hN.pv p) hA hG fun c2 q3 q4 q5 => ?_
    rw [Int.zero_add]
    exact k3 z y p _ rfl c2 q3 q4 q5
  · unfold inB; rw [decide_eq_false (show ¬ most ≤ 80 by omega), Bool.and_false]
end
