section
variable {D : wD} {S : wS} {o : Nat → Nat} {c : cM} {F R : Int} {p r : Nat} {v : Int → Int}
theorem q_lost_15 {post : Int32 → wS → Prop} (h : CC D S o) (hp : isP p) (hp43 : p ≠ 43) (hp44 : p ≠ 44) (hv : PV F R v) (hf : few F R v) (hf2 : ∀ t ∈ movesL F R v, few F R (mkT F R v t)) {c0 : cM} (k : ∀ c', cSim [10, 40, 41, 43, 44] c0 c' → post (iI (bI (keyB F R v 3))) (cS S o c')) :
    ∀ (n d j : Nat) (c : cM), d < n → j + d = (movesL F R v).length → BG c F R → PAt c p v → RAt c 40 (movesL F R v) → cSim [10, 40, 41, 43, 44] c0 c →
    ((movesL F R v).all fun t => mate1 F R (mkT F R v t)) = (((movesL F R v).drop j).all fun t => mate1 F R (mkT F R v t)) →
    wp_X9_isLostInTwo_15 D post n (cS S o c) (o 38) (o p) (iI (movesL F R v).length) (iI j) := by
  have hk3 : keyB F R v 3 = (((movesL F R v).all fun t => mate1 F R (mkT F R v t)) && decide (0 < (movesL F R v).length)) := if_neg (by decide)
  intro n
  induction n with
  | zero => intro d j c hd; omega
  | succ n ih =>
    intro d j c hd hjd hB hA hL hS hall
    have hm := hB.m
    have h4 := hB.f4; have h8 := hB.f8; have r4 := hB.r4; have r8 := hB.r8
    unfold wp_X9_isLostInTwo_15
    have l1 : (iI (movesL F R v).length ≤ iI (j : Int)) = ((movesL F R v).length ≤ (j : Int)) := by rw [iI_le (by omega) (by omega) (by omega) (by omega)]
    have l2 : (iI 1728 ≤ iI (j : Int)) = False := by rw [iI_le (by decide) (by decide) (by omega) (by omega)]; exact eq_false (by omega)
    rw [l1]
    refine ⟨fun q => ?_, fun q => ⟨o 40, c_r h rfl, (c_m h (by decide)).mpr trivial, c_k h (by decide), ?_⟩⟩
    · unfold wp_X9_isLostInTwo_69 wp_X9_isLostInTwo_78
      rw [List.drop_eq_nil_of_le (by omega)] at hall
      rw [hall] at hk3
      have := k c hS
      rw [hk3] at this
      have l0 : (iI (movesL F R v).length ≤ 0) = ((movesL F R v).length ≤ (0 : Int)) := by rw [show (0 : Int32) = iI 0 from rfl, iI_le (by omega) (by omega) (by decide) (by decide)]
      rw [l0]
      by_cases g : ((movesL F R v).length : Int) ≤ 0
      · refine ⟨fun _ => ⟨nr0, ?_⟩, fun z => absurd g z⟩
        rw [decide_eq_false (by omega)] at this; exact this
      · refine ⟨fun z => absurd z g, fun _ => ⟨nr1, ?_⟩⟩
        rw [decide_eq_true (by omega)] at this; exact this
    · rw [sN_R h (Or.inr (Or.inr (Or.inl rfl))), l2]
      refine ⟨fun z => z.elim, fun _ => ⟨o 43, c_r h rfl, (c_m h (by decide)).mpr trivial, c_k h (by decide), ?_⟩⟩
      have hj : j < (movesL F R v).length := by omega
      have ok := movesL_mem (F := F) (R := R) (v := v) (by omega) (getD_mem (L := movesL F R v) (k := (j : Int)) ⟨by omega, by omega⟩)
      have hfn := hf2 _ (getD_mem (L := movesL F R v) (k := (j : Int)) ⟨by omega, by omega⟩)
      have hs : v 64 = 0 ∨ v 64 = 1 := by have := hv.1.s; omega
      refine q_copyP h (p := 43) (by decide) hp hp43 hs hA ?_
      refine ⟨o 43, c_r h rfl, (c_m h (by decide)).mpr trivial, c_k h (by decide), o 40, c_r h rfl, (c_m h (by decide)).mpr trivial, c_k h (by decide), (c_n h (n := 40) (by decide)).symm ▸ (iI_in (by omega) (by omega) (by show (j : Int) < ((1728 : Nat) : Int); omega) : vp_in (iI (j : Int)) 1728), ?_⟩
      rw [c_i h (n := 40) (by decide) (by omega) (by omega), putP_1 c v (show 40 ≠ 43 by decide), hL j (by omega) (by omega)]
      refine q_apply h (hB.put (p := 43) (by decide) v) (by decide) hv.1 hv.2.1 hv.2.2.1 hv.2.2.2.1 (proper_parts hv.2.2.2.2).2.2.1 (putP_at c 43 v) ok ?_
      rw [putP_putP]
      have hv2 := PV_mk h4 h8 r4 r8 hv ok
      rw [show ((j : Int)).toNat = j by omega] at hv2 hfn ⊢
      have hd1 := getD_dropL hj
      rw [hd1] at hall
      generalize (movesL F R v).getD j (0, 0, 0) = t at hv2 hfn hall ⊢
      simp only [List.all_cons] at hall
      refine ⟨o 43, c_r h rfl, (c_m h (by decide)).mpr trivial, c_k h (by decide), ?_⟩
      refine q_canMateC h (hB.put (p := 43) (by decide) _) (by decide) (by decide) hv2 hfn (putP_at c 43 _) fun c' hc' => ?_
      have sim : cSim [10, 41, 43, 44] c c' := ((putP_sim c 43 _).mono (by decide)).trans (hc'.mono (by decide))
      rw [bF]
      refine ⟨fun z x1 ex => ?_, fun z => ⟨nr0, ?_⟩⟩
      · have z : mate1 F R (mkT F R v t) = true := by simpa using z
        rw [z, Bool.true_and] at hall
        rw [ex, show (1 : Int32) = iI 1 from rfl, iI_add]
        have hpn : p ∉ [10, 41, 43, 44] := by have := isP_n hp; simp at this ⊢; exact ⟨this.1, this.2.2.2.2, hp43, hp44⟩
        exact ih (d - 1) (j + 1) c' (by omega) (by omega) (sim.B (by decide) hB) (sim.P hpn hA) (sim.R (by decide) hL) (hS.trans (sim.mono (by decide))) hall
      · rw [z, Bool.false_and] at hall
        rw [hall, Bool.false_and] at hk3
        have := k c' (hS.trans (sim.mono (by decide)))
        rw [hk3] at this
        exact this
theorem q_isLostC {post : Int32 → wS → Prop} (h : CC D S o) (hB : BG c F R) (hp : isP p) (hp43 : p ≠ 43) (hp44 : p ≠ 44) (hv : PV F R v) (hf : few F R v) (hf2 : ∀ t ∈ movesL F R v, few F R (mkT F R v t)) (hA : PAt c p v) (k : ∀ c', cSim [10, 40, 41, 43, 44] c c' → post (iI (bI (keyB F R v 3))) (cS S o c')) :
    wp_X9_isLostInTwo D post (cS S o c) (o 38) (o p) := by
  have h4 := hB.f4; have h8 := hB.f8; have r4 := hB.r4; have r8 := hB.r8
  have hpn : p ∉ [10, 40] := by have := isP_n hp; simp at this ⊢; exact ⟨this.1, this.2.2.2.1⟩
  unfold wp_X9_isLostInTwo wp_X9_isLostInTwo_0
  refine ⟨o 10, c_r h rfl, (c_m h (by decide)).mpr trivial, c_k h (by decide), o 40, c_r h rfl, (c_m h (by decide)).mpr trivial, c_k h (by decide), ?_⟩
  refine q_generate (r := 40) h (by decide) hB hp (PV.k h4 h8 r4 r8 hv) hA (by omega) ?_
  refine ⟨(movesL F R v).length + 1, ?_⟩
  have sim : cSim [10, 40] c (putR (lookM c F R v) 40 (movesL F R v)) := ((lookM_sim c F R v).mono (by decide)).trans ((putR_sim _ 40 _).mono (by decide))
  rw [show (0 : Int32) = iI ((0 : Nat) : Int) from rfl]
  exact q_lost_15 h hp hp43 hp44 hv hf hf2 (c0 := c) k ((movesL F R v).length + 1) (movesL F R v).length 0 _ (by omega) (by omega) (sim.B (by decide) hB) (sim.P hpn hA) (putR_at _ 40 _) (sim.mono (by decide)) (by rw [List.drop_zero])
/-- keys among the first moves -/
def keyN (F R : Int) (v : Int → Int) (n : Int) (j : Nat) : Int := (((movesL F R v).take j).map fun t => bI (keyB F R (mkT F R v t) n)).sum
/-- what the search keeps: how long, how many keys, the first of them -/
abbrev KG (c : cM) (F R : Int) (v : Int → Int) (n : Int) (j : Nat) : Prop := c.1 38 8 = keyN F R v n j ∧ (keyN F R v n j = 0 → c.1 38 7 = -1 ∧ c.1 38 9 = -1) ∧ (0 < keyN F R v n j → c.1 38 7 = n ∧ c.1 38 9 = (firstKB F R v n : Nat))
theorem keyN_r (F R : Int) (v : Int → Int) (n : Int) (j : Nat) : 0 ≤ keyN F R v n j ∧ keyN F R v n j ≤ (movesL F R v).length := by
  have := (sum_bI (fun t => keyB F R (mkT F R v t) n) ((movesL F R v).take j)).1
  unfold keyN
  have h2 : ((movesL F R v).take j).length ≤ (movesL F R v).length := by rw [List.length_take]; omega
  omega
theorem keyN_S {F R : Int} {v : Int → Int} {n : Int} {j : Nat} (hj : j < (movesL F R v).length) : keyN F R v n (j + 1) = keyN F R v n j + bI (keyB F R (mkT F R v ((movesL F R v).getD j (0, 0, 0))) n) := by
  unfold keyN
  rw [List.take_add_one, List.getElem?_eq_getElem hj]
  simp only [Option.toList_some, List.map_append, List.map_cons, List.map_nil, List.sum_append, List.sum_cons, List.sum_nil]
  rw [List.getD_eq_getElem?_getD, List.getElem?_eq_getElem hj]
  simp
/-- the first key, where the moves ahead are none -/
theorem first_at {F R : Int} {v : Int → Int} {n : Int} {j : Nat} (hj : j < (movesL F R v).length) (h0 : keyN F R v n j = 0) (hk : keyB F R (mkT F R v ((movesL F R v).getD j (0, 0, 0))) n = true) : firstKB F R v n = j := by
  unfold firstKB
  have hge : (movesL F R v)[j] = (movesL F R v).getD j (0, 0, 0) := by rw [List.getD_eq_getElem?_getD, List.getElem?_eq_getElem hj]; rfl
  rw [List.findIdx_eq hj]
  refine ⟨by rw [hge]; exact hk, fun i hi => ?_⟩
  have hil : i < (movesL F R v).length := by omega
  cases q : keyB F R (mkT F R v (movesL F R v)[i]) n
  · rfl
  · exfalso
    have hmem : (movesL F R v)[i] ∈ (movesL F R v).take j := by
      rw [List.mem_take_iff_getElem]
      exact ⟨i, by omega, rfl⟩
    have : 0 < keyN F R v n j := by
      unfold keyN
      have pos : ∀ (L : List Mv) (t : Mv), t ∈ L → keyB F R (mkT F R v t) n = true → 0 < (L.map fun t => bI (keyB F R (mkT F R v t) n)).sum := by
        intro L
        induction L with
        | nil => intro t ht; exact absurd ht (by simp)
        | cons a L ihL =>
          intro t ht hkt
          have hr := (sum_bI (fun t => keyB F R (mkT F R v t) n) L).1.1
          have hb := bI_r (keyB F R (mkT F R v a) n)
          simp only [List.map_cons, List.sum_cons]
          rcases List.mem_cons.mp ht with e | e
          · rw [← e, hkt, bI_t]; omega
          · have := ihL t e hkt; omega
      exact pos _ _ hmem q
    omega
theorem cI_sim (c : cM) (n : Nat) (j z : Int) : cSim [n] c (cI c n j z) := fun m hm => by
  have : m ≠ n := by simpa using hm
  exact ⟨by funext i; rw [cI_at, if_neg (fun e => this e.1)], rfl⟩
theorem q_keys_45 {post : wS → Prop} (h : CC D S o) (hp : isP p) (hp42 : p ≠ 42) (hp43 : p ≠ 43) (hp44 : p ≠ 44) (hv : PV F R v) (hf : few F R v) (hf2 : ∀ t ∈ movesL F R v, few F R (mkT F R v t)) (hf3 : ∀ t ∈ movesL F R v, ∀ u ∈ movesL F R (mkT F R v t), few F R (mkT F R (mkT F R v t) u))
    {len : Int} (hlen : len = 1 ∨ len = 3) {k30 : wS → Nat → Nat → Int32 → Int32 → Prop} {c0 : cM}
    (k : ∀ c', cSim [10, 38, 40, 41, 42, 43, 44] c0 c' → KG c' F R v len (movesL F R v).length → BG c' F R → PAt c' p v → RAt c' 39 (movesL F R v) → k30 (cS S o c') (o 38) (o p) (iI (movesL F R v).length) (iI (len + 2))) :
    ∀ (n d j : Nat) (c : cM), d < n → j + d = (movesL F R v).length → BG c F R → PAt c p v → RAt c 39 (movesL F R v) → cSim [10, 38, 40, 41, 42, 43, 44] c0 c → KG c F R v len j →
    wp_X9_findKeys_45 D post k30 n (cS S o c) (o 38) (o p) (iI (movesL F R v).length) (iI len) (iI j) := by
  intro n
  induction n with
  | zero => intro d j c hd; omega
  | succ n ih =>
    intro d j c hd hjd hB hA hL hS hG
    have hm := hB.m
    have h4 := hB.f4; have h8 := hB.f8; have r4 := hB.r4; have r8 := hB.r8
    have hp' := isP_n hp
    simp at hp'
    unfold wp_X9_findKeys_45
    have l1 : (iI (movesL F R v).length ≤ iI (j : Int)) = ((movesL F R v).length ≤ (j : Int)) := by rw [iI_le (by omega) (by omega) (by omega) (by omega)]
    have l2 : (iI 1728 ≤ iI (j : Int)) = False := by rw [iI_le (by decide) (by decide) (by omega) (by omega)]; exact eq_false (by omega)
    rw [l1]
    refine ⟨fun q => ?_, fun q => ⟨o 39, c_r h rfl, (c_m h (by decide)).mpr trivial, c_k h (by decide), ?_⟩⟩
    · unfold wp_X9_findKeys_155
      intro x1 ex
      rw [ex, show (2 : Int32) = iI 2 from rfl, iI_add]
      have : j = (movesL F R v).length := by omega
      subst this
      exact k c hS hG hB hA hL
    · rw [sN_R h (Or.inr (Or.inl rfl)), l2]
      refine ⟨fun z => z.elim, fun _ => ⟨o 42, c_r h rfl, (c_m h (by decide)).mpr trivial, c_k h (by decide), ?_⟩⟩
      have hj : j < (movesL F R v).length := by omega
      have hmem := getD_mem (L := movesL F R v) (k := (j : Int)) ⟨by omega, by omega⟩
      have ok := movesL_mem (F := F) (R := R) (v := v) (by omega) hmem
      have hfn := hf2 _ hmem
      have hfn2 := hf3 _ hmem
      have hs : v 64 = 0 ∨ v 64 = 1 := by have := hv.1.s; omega
      refine q_copyP h (p := 42) (by decide) hp hp42 hs hA ?_
      refine ⟨o 42, c_r h rfl, (c_m h (by decide)).mpr trivial, c_k h (by decide), o 39, c_r h rfl, (c_m h (by decide)).mpr trivial, c_k h (by decide), (c_n h (n := 39) (by decide)).symm ▸ (iI_in (by omega) (by omega) (by show (j : Int) < ((1728 : Nat) : Int); omega) : vp_in (iI (j : Int)) 1728), ?_⟩
      rw [c_i h (n := 39) (by decide) (by omega) (by omega), putP_1 c v (show 39 ≠ 42 by decide), hL j (by omega) (by omega)]
      refine q_apply h (hB.put (p := 42) (by decide) v) (by decide) hv.1 hv.2.1 hv.2.2.1 hv.2.2.2.1 (proper_parts hv.2.2.2.2).2.2.1 (putP_at c 42 v) ok ?_
      rw [putP_putP]
      have hv2 := PV_mk h4 h8 r4 r8 hv ok
      have hS1 := keyN_S (F := F) (R := R) (v := v) (n := len) hj
      have hF1 := first_at (F := F) (R := R) (v := v) (n := len) hj
      rw [show ((j : Int)).toNat = j by omega] at hv2 hfn hfn2 ⊢
      generalize (movesL F R v).getD j (0, 0, 0) = t at hv2 hfn hfn2 hS1 hF1 ⊢
      have hr0 := keyN_r F R v len j
      -- what is noted of this move
      have at107 : ∀ c1 : cM, cSim [10, 40, 41, 42, 43, 44] c c1 → ∀ b : Bool, b = keyB F R (mkT F R v t) len → wp_X9_findKeys_107 D post k30 (wp_X9_findKeys_45 D post k30 n) (cS S o c1) (o 38) (o p) (iI (movesL F R v).length) (iI len) (iI j) (iI (bI b)) := by
        intro c1 sim b hb
        have e38 := (sim 38 (by decide)).1
        have hpn : p ∉ [10, 38, 40, 41, 42, 43, 44] := by simp; exact ⟨hp'.1, hp'.2.1, hp'.2.2.2.1, hp'.2.2.2.2, hp42, hp43, hp44⟩
        have goOn : ∀ c2 : cM, cSim [10, 38, 40, 41, 42, 43, 44] c c2 → KG c2 F R v len (j + 1) → wp_X9_findKeys_149 D post k30 (wp_X9_findKeys_45 D post k30 n) (cS S o c2) (o 38) (o p) (iI (movesL F R v).length) (iI len) (iI j) := by
          intro c2 sim2 hG2
          unfold wp_X9_findKeys_149
          intro x1 ex
          rw [ex, show (1 : Int32) = iI 1 from rfl, iI_add]
          exact ih (d - 1) (j + 1) c2 (by omega) (by omega) (sim2.B (by decide) hB) (sim2.P hpn hA) (sim2.R (by decide) hL) (hS.trans sim2) hG2
        unfold wp_X9_findKeys_107
        rw [bF]
        refine ⟨fun z => goOn c1 (sim.mono (by decide)) ?_, fun z S2 e2 => ?_⟩
        · rw [z] at hb
          rw [← hb, bI_f, Int.add_zero] at hS1
          unfold KG
          rw [e38, hS1]; exact hG
        · have z : b = true := by simpa using z
          rw [z] at hb
          rw [← hb, bI_t] at hS1
          rw [c_u1 h (by decide) (show ((7 : Nat) : Int) = 7 from rfl)] at e2
          rw [e2]
          have g8 : sI (cS S o (cI c1 38 7 len)) (o 38) 8 = iI (keyN F R v len j) := by rw [c_i1 h (by decide) (show ((8 : Nat) : Int) = 8 from rfl), cI_at, if_neg (by omega), e38, hG.1]
          have lz : (iI (keyN F R v len j) = 0) = (keyN F R v len j = 0) := by rw [show (0 : Int32) = iI 0 from rfl, iI_eq (by omega) (by omega) (by decide) (by decide)]
          rw [g8, lz]
          have at136 : ∀ y : Int, y = (firstKB F R v len : Nat) → wp_X9_findKeys_136 D post k30 (wp_X9_findKeys_45 D post k30 n) (cS S o (cI c1 38 7 len)) (o 38) (o p) (iI (movesL F R v).length) (iI len) (iI j) (o 38) (iI y) := by
            intro y hy
            unfold wp_X9_findKeys_136
            intro S1 es1 S2 es2
            rw [c_u1 h (by decide) (show ((9 : Nat) : Int) = 9 from rfl)] at es1
            rw [es1, c_i1 h (by decide) (show ((8 : Nat) : Int) = 8 from rfl), cI_at, if_neg (by omega), cI_at, if_neg (by omega), e38, hG.1, show (1 : Int32) = iI 1 from rfl, iI_add, c_u1 h (by decide) (show ((8 : Nat) : Int) = 8 from rfl)] at es2
            rw [es2]
            refine goOn _ ((sim.mono (by decide)).trans (((cI_sim _ 38 _ _).trans ((cI_sim _ 38 _ _).trans (cI_sim _ 38 _ _))).mono (by decide))) ?_
            refine ⟨by rw [cI_at, if_pos ⟨rfl, rfl⟩, hS1], fun z0 => by omega, fun _ => ⟨?_, ?_⟩⟩
            · rw [cI_at, if_neg (by omega), cI_at, if_neg (by omega), cI_at, if_pos ⟨rfl, rfl⟩]
            · rw [cI_at, if_neg (by omega), cI_at, if_pos ⟨rfl, rfl⟩, hy]
          refine ⟨fun g => ?_, fun g => at136 _ ?_⟩
          · rw [c_i1 h (by decide) (show ((9 : Nat) : Int) = 9 from rfl), cI_at, if_neg (by omega), e38, (hG.2.2 (by omega)).2]
            exact at136 _ rfl
          · rw [hF1 g hb.symm]
      have l3 : (iI len = (1 : Int32)) = (len = 1) := by rw [show (1 : Int32) = iI 1 from rfl, iI_eq (by omega) (by omega) (by decide) (by decide)]
      rw [l3]
      have hBp := hB.put (p := 42) (by decide) (mkT F R v t)
      refine ⟨fun z => ⟨o 42, c_r h rfl, (c_m h (by decide)).mpr trivial, c_k h (by decide), ?_⟩, fun z => ⟨o 42, c_r h rfl, (c_m h (by decide)).mpr trivial, c_k h (by decide), ?_⟩⟩
      · have l3 : len = 3 := by omega
        refine q_isLostC h hBp (by decide) (by decide) (by decide) hv2 hfn hfn2 (putP_at c 42 _) fun c' hc' => ?_
        exact at107 c' (((putP_sim c 42 _).mono (by decide)).trans (hc'.mono (by decide))) _ (by rw [l3])
      · refine q_isMateC h hBp (by decide) hv2 (putP_at c 42 _) fun c' hc' => ?_
        refine at107 c' (((putP_sim c 42 _).mono (by decide)).trans (hc'.mono (by decide))) _ ?_
        rw [z]; exact (if_pos rfl).symm
theorem keyN_all (F R : Int) (v : Int → Int) (n : Int) : keyN F R v n (movesL F R v).length = keysB F R v n := by
  unfold keyN keysB
  rw [List.take_length]
theorem q_findKeysC {post : wS → Prop} (h : CC D S o) (hB : BG c F R) (hp : isP p) (hp42 : p ≠ 42) (hp43 : p ≠ 43) (hp44 : p ≠ 44) (hv : PV F R v) (hf : few F R v) (hf2 : ∀ t ∈ movesL F R v, few F R (mkT F R v t)) (hf3 : ∀ t ∈ movesL F R v, ∀ u ∈ movesL F R (mkT F R v t), few F R (mkT F R (mkT F R v t) u))
    (hA : PAt c p v) (k : ∀ c', cSim [10, 38, 39, 40, 41, 42, 43, 44] c c' → c'.1 38 7 = matesB F R v → c'.1 38 8 = keyCountB F R v → (matesB F R v ≠ -1 → c'.1 38 9 = (firstKB F R v (matesB F R v) : Nat)) → post (cS S o c')) :
    wp_X9_findKeys D post (cS S o c) (o 38) (o p) := by
  have hm := hB.m
  have h4 := hB.f4; have h8 := hB.f8; have r4 := hB.r4; have r8 := hB.r8
  have hp' := isP_n hp
  simp at hp'
  unfold wp_X9_findKeys wp_X9_findKeys_0
  intro S1 e1 S2 e2 S3 e3
  rw [show (-1 : Int32) = iI (-1) from rfl, c_u1 h (by decide) (show ((7 : Nat) : Int) = 7 from rfl)] at e1
  rw [e1, show (0 : Int32) = iI 0 from rfl, c_u1 h (by decide) (show ((8 : Nat) : Int) = 8 from rfl)] at e2
  rw [e2, show (-1 : Int32) = iI (-1) from rfl, c_u1 h (by decide) (show ((9 : Nat) : Int) = 9 from rfl)] at e3
  rw [e3]
  generalize hc3 : cI (cI (cI c 38 7 (-1)) 38 8 0) 38 9 (-1) = c3
  have sim3 : cSim [38] c c3 := by rw [← hc3]; exact (cI_sim _ 38 _ _).trans ((cI_sim _ 38 _ _).trans (cI_sim _ 38 _ _))
  have g7 : c3.1 38 7 = -1 := by rw [← hc3, cI_at, if_neg (by omega), cI_at, if_neg (by omega), cI_at, if_pos ⟨rfl, rfl⟩]
  have g8 : c3.1 38 8 = 0 := by rw [← hc3, cI_at, if_neg (by omega), cI_at, if_pos ⟨rfl, rfl⟩]
  have g9 : c3.1 38 9 = -1 := by rw [← hc3, cI_at, if_pos ⟨rfl, rfl⟩]
  refine ⟨o 10, c_r h rfl, (c_m h (by decide)).mpr trivial, c_k h (by decide), o 39, c_r h rfl, (c_m h (by decide)).mpr trivial, c_k h (by decide), ?_⟩
  refine q_generate (r := 39) h (by decide) (sim3.B (by decide) hB) hp (PV.k h4 h8 r4 r8 hv) (sim3.P (by simp; exact hp'.2.1) hA) (by omega) ?_
  generalize hc4 : putR (lookM c3 F R v) 39 (movesL F R v) = c4
  have sim4 : cSim [10, 39] c3 c4 := by rw [← hc4]; exact ((lookM_sim c3 F R v).mono (by decide)).trans ((putR_sim _ 39 _).mono (by decide))
  have hR4 : RAt c4 39 (movesL F R v) := by rw [← hc4]; exact putR_at _ 39 _
  have e38 := (sim4 38 (by decide)).1
  have sim04 : cSim [10, 38, 39] c c4 := (sim3.mono (by decide)).trans (sim4.mono (by decide))
  have hB4 := sim04.B (by decide) hB
  have hA4 : PAt c4 p v := sim04.P (by simp; exact ⟨hp'.1, hp'.2.1, hp'.2.2.1⟩) hA
  have k0 : ∀ len, keyN F R v len 0 = 0 := fun len => by unfold keyN; simp
  refine ⟨4, ?_⟩
  unfold wp_X9_findKeys_30 wp_X9_findKeys_161
  have s8 : sI (cS S o c4) (o 38) 8 = iI 0 := by rw [c_i1 h (by decide) (show ((8 : Nat) : Int) = 8 from rfl), e38, g8]
  rw [s8]
  refine ⟨fun z => absurd z (by decide), fun _ => ⟨fun z => absurd rfl z, fun _ => ⟨(movesL F R v).length + 1, ?_⟩⟩⟩
  rw [show (0 : Int32) = iI ((0 : Nat) : Int) from rfl, show (1 : Int32) = iI 1 from rfl]
  refine q_keys_45 h hp hp42 hp43 hp44 hv hf hf2 hf3 (Or.inl rfl) (c0 := c4) (fun c5 sim5 hG5 hB5 hA5 hR5 => ?_) ((movesL F R v).length + 1) (movesL F R v).length 0 c4 (by omega) (by omega) hB4 hA4 hR4 (cSim.refl _ _) ⟨by rw [k0, e38, g8], fun _ => ⟨by rw [e38, g7], by rw [e38, g9]⟩, fun z => by rw [k0] at z; omega⟩
  -- after the first length
  have hr1 := keyN_r F R v 1 (movesL F R v).length
  have hr3 := keyN_r F R v 3 (movesL F R v).length
  rw [keyN_all] at hr1 hr3
  unfold KG at hG5
  rw [keyN_all] at hG5
  unfold wp_X9_findKeys_30 wp_X9_findKeys_161
  have s85 : sI (cS S o c5) (o 38) 8 = iI (keysB F R v 1) := by rw [c_i1 h (by decide) (show ((8 : Nat) : Int) = 8 from rfl), hG5.1]
  have lz : (iI (keysB F R v 1) = 0) = (keysB F R v 1 = 0) := by rw [show (0 : Int32) = iI 0 from rfl, iI_eq (by omega) (by omega) (by decide) (by decide)]
  rw [s85, lz]
  have simA : cSim [10, 38, 39, 40, 41, 42, 43, 44] c c5 := (sim04.mono (by decide)).trans (sim5.mono (by decide))
  refine ⟨fun z => absurd z (by decide), fun _ => ⟨fun z => ?_, fun z => ⟨(movesL F R v).length + 1, ?_⟩⟩⟩
  · have hpos : 0 < keysB F R v 1 := by omega
    have hM : matesB F R v = 1 := if_pos hpos
    refine k c5 simA (by rw [hM]; exact (hG5.2.2 hpos).1) ?_ (fun _ => by rw [hM]; exact (hG5.2.2 hpos).2)
    unfold keyCountB
    rw [hM, if_neg (by decide)]; exact hG5.1
  · rw [show (0 : Int32) = iI ((0 : Nat) : Int) from rfl]
    refine q_keys_45 (len := 3) h hp hp42 hp43 hp44 hv hf hf2 hf3 (Or.inr rfl) (c0 := c5) (fun c6 sim6 hG6 hB6 hA6 hR6 => ?_) ((movesL F R v).length + 1) (movesL F R v).length 0 c5 (by omega) (by omega) hB5 hA5 hR5 (cSim.refl _ _) ⟨by rw [k0, hG5.1, z], fun _ => hG5.2.1 z, fun y => by rw [k0] at y; omega⟩
    unfold KG at hG6
    rw [keyN_all] at hG6
    unfold wp_X9_findKeys_30 wp_X9_findKeys_161
    refine ⟨fun _ => ?_, fun y => absurd (show (3 : Int32) < iI (3 + 2) by decide) y⟩
    have simB := simA.trans (sim6.mono (by decide))
    have hn1 : ¬ 0 < keysB F R v 1 := by omega
    by_cases g : 0 < keysB F R v 3
    · have hM : matesB F R v = 3 := by unfold matesB; rw [if_neg hn1, if_pos g]
      refine k c6 simB (by rw [hM]; exact (hG6.2.2 g).1) ?_ (fun _ => by rw [hM]; exact (hG6.2.2 g).2)
      unfold keyCountB
      rw [hM, if_neg (by decide)]; exact hG6.1
    · have hM : matesB F R v = -1 := by unfold matesB; rw [if_neg hn1, if_neg g]
      have h0 : keysB F R v 3 = 0 := by omega
      refine k c6 simB (by rw [hM]; exact (hG6.2.1 h0).1) ?_ (fun y => absurd hM y)
      unfold keyCountB
      rw [if_pos hM, hG6.1, h0]
end
