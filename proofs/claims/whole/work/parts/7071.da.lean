/-! PHASE 3, who can castle can step -/
theorem cast_step {F R b : Int} {v : Int → Int} (h4 : 4 ≤ F) (h8 : F ≤ 8) (r4 : 4 ≤ R) (r8 : R ≤ 8) (hv : PK F R v) {a : Int} (ha : 0 ≤ a ∧ a < F * R) (ho : isOfB (v a) (v 64) = true) (hk1 : kindO (v a) = 1) (hb : 0 ≤ b ∧ b < F * R) (hcb : castB F R v a b = true) :
    ∃ m : Int, (0 ≤ m ∧ m < F * R) ∧ tgtB F R v a m = true := by
  have hm := FR_r h4 h8 r4 r8
  obtain ⟨v1, v2, v3, v4, v5, v6, v7⟩ := id hv
  have hs := v1.s
  have hva := isOfB_king (v1.p a ha.1 (by omega)) hs ho hk1
  have pk : pieceOfB 1 (v 64) ≠ 0 := by unfold pieceOfB; split <;> decide
  obtain ⟨e8, ea, hd⟩ := cast_data r4 r8 v1 v5 hcb
  subst e8
  have hh : a = 4 ∨ a = 8 * (R - 1) + 4 := by rw [ea]; unfold homeB; rcases (show v 64 = 0 ∨ v 64 = 1 by omega) with e | e <;> rw [e] <;> simp
  have hhf : ∀ f : Int, homeB 8 R (v 64) f = a + (f - 4) := fun f => by rw [ea]; unfold homeB; omega
  have hcb2 := hcb
  unfold castB castT at hcb2
  simp only [Bool.and_eq_true, Bool.not_eq_true'] at hcb2
  have hatka := hcb2.2.2.1.1
  have hatkm := hcb2.2.2.1.2
  obtain ⟨m, e1, hmv, hm0, hmatk⟩ : ∃ m e1 : Int, (e1 = 1 ∨ e1 = -1) ∧ (m = a + e1 ∧ v m = 0) ∧ atkB 8 R v m (1 - v 64) = false := by
    rcases hd with ⟨eb, z1, z2, z3⟩ | ⟨eb, z1, z2, z3, z4⟩
    · refine ⟨a + 1, 1, Or.inl rfl, ⟨rfl, z1⟩, ?_⟩
      have e6 : decide (b = homeB 8 R (v 64) 6) = true := decide_eq_true (by rw [hhf 6]; omega)
      rw [e6] at hatkm
      simp only [if_true] at hatkm
      rw [hhf 5, show a + (5 - 4 : Int) = a + 1 by omega] at hatkm
      exact hatkm
    · refine ⟨a - 1, -1, Or.inr rfl, ⟨by omega, z1⟩, ?_⟩
      have e6 : decide (b = homeB 8 R (v 64) 6) = false := decide_eq_false (by rw [hhf 6]; omega)
      rw [e6] at hatkm
      simp only [Bool.false_eq_true, if_false] at hatkm
      rw [hhf 3, show a + (3 - 4 : Int) = a - 1 by omega] at hatkm
      exact hatkm
  have hmr : 0 ≤ m ∧ m < 8 * R := by omega
  have hgo : goB 8 R v a m = true := by
    unfold goB
    rw [if_neg (by omega), hm0.2, decide_eq_false (show ¬ a = m by omega)]
    have : attB 8 v a m = true := by
      rw [← attO_v, att_line, if_pos hk1]
      simp only [Bool.and_eq_true, decide_eq_true_eq]
      unfold dist
      omega
    rw [this]; simp [isOfB]
  have hnc : castingB 8 v a m = false := by
    unfold castingB
    rw [decide_eq_false (show ¬ dist (a % 8) (m % 8) = 2 by unfold dist; omega), Bool.and_false]
  refine ⟨m, hmr, ?_⟩
  rw [tgt_leg (by decide) (by decide) r4 r8 v1 v3 v4 v5 v6 v7 ha hmr ho, hnc]
  unfold legB
  rw [hgo]
  have hK := king_mk (by decide) (by decide) r4 r8 v1 v4 v6 v7 ha hmr ho hgo hnc
  rw [if_pos hk1] at hK
  have ml : ∀ j : Int, j < 64 → mkV 8 R v a m 0 j = if j = m then v a else if j = a then 0 else v j := fun j hj => by
    rw [mk_low (by decide) (by decide) v1 v4 ⟨ha.1, by omega⟩ ⟨hmr.1, by omega⟩ ho hgo hnc hj]
    have : passC v a = false := by unfold passC; rw [decide_eq_false (by omega)]; rfl
    rw [this]; simp
  cases hq : chkB 8 R (mkV 8 R v a m 0) (v 64)
  · rfl
  · exfalso
    unfold chkB atkB at hq
    rw [hK] at hq
    obtain ⟨t, t0, t1, t2⟩ := anyL_iff.mp hq
    have htF : t < 8 * R := by omega
    simp only [Bool.and_eq_true] at t2
    obtain ⟨to, ta⟩ := t2
    have oK : isOfB (v a) (1 - v 64) = false := by rw [hva]; rcases (show v 64 = 0 ∨ v 64 = 1 by omega) with e | e <;> rw [e] <;> decide
    have tm : t ≠ m := fun e => by rw [ml t (by omega), if_pos e, oK] at to; exact absurd to (by decide)
    have tna : t ≠ a := fun e => by rw [ml t (by omega), if_neg tm, if_pos e] at to; simp [isOfB] at to
    have mt : mkV 8 R v a m 0 t = v t := by rw [ml t (by omega), if_neg tm, if_neg tna]
    rw [mt] at to
    have tn : attO 8 v (occB v) t m = false := by
      have := atk_of ⟨t0, htF⟩ hmatk to
      rw [← attO_v] at this; exact this
    have ta2 : attO 8 v (occB (mkV 8 R v a m 0)) t m = true := by
      rw [← ta, ← attO_v]
      exact att_cong (by decide) (by decide) r4 r8 hm.2 ⟨t0, htF⟩ hmr mt.symm (fun j _ _ => rfl)
    obtain ⟨st, sk, sl, sc, sn⟩ := slide_new tn ta2
    have sl2 : lineB 8 st m t = true := by rw [line_symm]; exact sl
    rw [← clear_symm sl2] at sc sn
    obtain ⟨d, s, hdd, d1, d2, s1, q4, q5⟩ := line_on (R := R) sl2
    have s7 := s_le7 (by decide) (by decide) ⟨hmr.1, by omega⟩ ⟨t0, by omega⟩ hm.2 r8 hmr.2 htF hdd s1 q4 q5
    rw [clearO_iff s1 hdd q4 q5] at sc
    have hne := step_ne (F := 8) (by decide) (by decide) hdd
    have hex : ∃ u : Int, 1 ≤ u ∧ u < s ∧ occB v (m + u * (dfD d + 8 * drD d)) = true := by
      apply Classical.byContradiction
      intro hno
      have : clearO 8 (occB v) m t = true := (clearO_iff s1 hdd q4 q5).mpr fun u u1 u2 => by
        cases z : occB v (m + u * (dfD d + 8 * drD d))
        · rfl
        · exact absurd ⟨u, u1, u2, z⟩ hno
      rw [sn] at this; exact absurd this (by decide)
    have on : ∀ u : Int, 1 ≤ u → u < s → 0 ≤ m + u * (dfD d + 8 * drD d) ∧ m + u * (dfD d + 8 * drD d) < 8 * R := fun u u1 u2 => by
      obtain ⟨m1, m2⟩ := step_mid (by decide) (by decide) r4 r8 hmr hdd ⟨t0, htF⟩ s7 u1 (by omega) q4 q5
      exact ⟨m1, ((ray_iff (by decide) (by decide) r4 r8 m1).mp m2).1⟩
    have stay : ∀ u : Int, 1 ≤ u → u < s → m + u * (dfD d + 8 * drD d) ≠ a → occB v (m + u * (dfD d + 8 * drD d)) = false := fun u u1 u2 u3 => by
      have h1 := sc u u1 u2
      obtain ⟨n1, n2⟩ := on u u1 u2
      unfold occB at h1 ⊢
      have : m + u * (dfD d + 8 * drD d) ≠ m := fun e => by
        have : u * (dfD d + 8 * drD d) = 0 := by omega
        rcases Int.mul_eq_zero.mp this with z | z
        · omega
        · exact hne z
      rw [ml _ (by omega), if_neg this, if_neg u3] at h1
      exact h1
    obtain ⟨u, u1, u2, u3⟩ := hex
    have hua : m + u * (dfD d + 8 * drD d) = a := by
      apply Classical.byContradiction
      intro hno
      rw [stay u u1 u2 hno] at u3
      exact absurd u3 (by decide)
    have hu1 : u = 1 ∧ dfD d = -e1 ∧ drD d = 0 := by
      have hu : u * (dfD d + 8 * drD d) = -e1 := by omega
      clear q4 q5 hne s7 sc on stay ml hhf
      rcases hmv with rfl | rfl <;> rcases dir_cases hdd.1 hdd.2 with rfl | rfl | rfl | rfl | rfl | rfl | rfl | rfl <;> simp [dfD, drD] at hu ⊢ <;> omega
    obtain ⟨rfl, hdf, hdr⟩ := hu1
    have hst : st = true := by
      cases st
      · simp only [Bool.false_eq_true, if_false] at d1 d2
        rcases (show d = 4 ∨ d = 5 ∨ d = 6 ∨ d = 7 by omega) with rfl | rfl | rfl | rfl <;> simp (decide := true) only [drD, Int.reduceEq, if_true, if_false] at hdr
      · rfl
    subst hst
    have q4' : t % 8 = a % 8 + (s - 1) * dfD d := by rw [q4, Int.sub_mul]; omega
    have q5' : t / 8 = a / 8 + (s - 1) * drD d := by rw [q5, hdr]; omega
    have hla : lineB 8 true a t = true := dir_line (st := true) d1 d2 (show 1 ≤ s - 1 by omega) q4' q5'
    have hca : clearO 8 (occB v) a t = true := (clearO_iff (show 1 ≤ s - 1 by omega) hdd q4' q5').mpr fun w w1 w2 => by
      have e : a + w * (dfD d + 8 * drD d) = m + (w + 1) * (dfD d + 8 * drD d) := by rw [Int.add_mul]; omega
      rw [e]
      refine stay (w + 1) (by omega) (by omega) fun z => ?_
      have : w * (dfD d + 8 * drD d) = 0 := by omega
      rcases Int.mul_eq_zero.mp this with y | y
      · omega
      · exact hne y
    have hatt : attB 8 v t a = true := by
      rw [← attO_v]
      refine slide_att (oc := occB v) sk (by rw [line_symm]; exact hla) ?_
      rw [← clear_symm hla]; exact hca
    have := atk_of ⟨t0, htF⟩ hatka to
    rw [hatt] at this
    exact absurd this (by decide)
theorem legal_in {F R : Int} {v : Int → Int} {a b : Int} (ho : isOfB (v a) (v 64) = true) (hl : legB F R v a b = true) : ∀ (d : Nat) (x : Int), x ≤ b → b < x + d → mTo F R v a x d ≠ []
  | 0, x, h1, h2 => by omega
  | d + 1, x, h1, h2 => by
    show (if legB F R v a x then bec4 a x (becB F R v a x) else []) ++ mTo F R v a (x + 1) d ≠ []
    by_cases e : x = b
    · rw [e, hl, if_pos rfl]
      cases becB F R v a b <;> simp [bec4]
    · intro z
      exact legal_in ho hl d (x + 1) (by omega) (by omega) (List.append_eq_nil_iff.mp z).2
theorem legal_from {F R : Int} {v : Int → Int} {a b : Int} (ho : isOfB (v a) (v 64) = true) (hl : legB F R v a b = true) (hb : 0 ≤ b ∧ b < F * R) : ∀ (d : Nat) (x : Int), x ≤ a → a < x + d → mFrom F R v x d ≠ []
  | 0, x, h1, h2 => by omega
  | d + 1, x, h1, h2 => by
    show (if isOfB (v x) (v 64) then mTo F R v x 0 (F * R).toNat else []) ++ mFrom F R v (x + 1) d ≠ []
    by_cases e : x = a
    · rw [e, ho, if_pos rfl]
      intro z
      exact legal_in ho hl _ 0 hb.1 (by omega) (List.append_eq_nil_iff.mp z).1
    · intro z
      exact legal_from ho hl hb d (x + 1) (by omega) (by omega) (List.append_eq_nil_iff.mp z).2
section
variable {D : wD} {S : wS} {o : Nat → Nat} {c : cM} {F R : Int} {p r : Nat} {v : Int → Int}
theorem q_hasMove_7 {post : Int32 → wS → Prop} (h : CC D S o) (hB : BG c F R) (hp : isP p) (hv : PK F R v) (hA : PAt c p v) (hR : RA c F R v) (k : post (iI (bI (!decide ((movesL F R v).length = 0)))) (cS S o c)) :
    ∀ (n d : Nat) (a : Int), d < n → a + d = F * R → 0 ≤ a → (∀ j b : Int, 0 ≤ j → j < a → isOfB (v j) (v 64) = true → 0 ≤ b → b < 64 → tgtB F R v j b = false) →
    wp_X8_hasMove_7 D post n (cS S o c) (o 10) (o p) (iI a) := by
  have hm := hB.m
  have h4 := hB.f4; have h8 := hB.f8; have r4 := hB.r4; have r8 := hB.r8
  obtain ⟨v1, v2, v3, v4, v5, v6, v7⟩ := id hv
  have sz : sI (cS S o c) (o 1) 2 = iI (F * R) := by rw [c_i1 h (by decide) (show ((2 : Nat) : Int) = 2 from rfl)]; exact congrArg iI hB.n
  have z3 : sJ (cS S o c) (o 10) 3 = zS (fun k => isOfB (v k) (v 64)) := by rw [c_j1 h (by decide) (show ((3 : Nat) : Int) = 3 from rfl)]; exact hR.2.2.1
  intro n
  induction n with
  | zero => intro d a hd; omega
  | succ n ih =>
    intro d a hd had ha0 hno
    unfold wp_X8_hasMove_7
    refine ⟨o 1, c_r h rfl, (c_m h (by decide)).mpr trivial, c_k h (by decide), ?_⟩
    have lsz : (iI (F * R) ≤ iI a) = (F * R ≤ a) := by rw [iI_le (by omega) (by omega) (by omega) (by omega)]
    rw [sz, lsz]
    refine ⟨fun q => ⟨nr0, ?_⟩, fun q => ?_⟩
    · have hnil : movesL F R v = [] := by
        cases hL : movesL F R v with
        | nil => rfl
        | cons t ts =>
          exfalso
          obtain ⟨x1, x2, x3, x4, x5, x6⟩ := movesL_mem (F := F) (R := R) (v := v) (by omega) (t := t) (by rw [hL]; exact List.mem_cons_self)
          have ht := hno t.1 t.2.1 x1.1 (by omega) x4 x2.1 (by omega)
          rw [tgt_leg h4 h8 r4 r8 v1 v3 v4 v5 v6 v7 x1 x2 x4, x5, Bool.true_and, Bool.not_eq_false'] at ht
          have hk1 : kindO (v t.1) = 1 := by unfold castingB at ht; simp only [Bool.and_eq_true, decide_eq_true_eq] at ht; exact ht.1
          have hcb := cast_leg h4 h8 r4 r8 v1 v3 v5 v6 v7 x1 x2 x4 hk1
          rw [x5, ht] at hcb
          obtain ⟨m, m1, m2⟩ := cast_step h4 h8 r4 r8 hv x1 x4 hk1 x2 hcb.symm
          rw [hno t.1 m x1.1 (by omega) x4 m1.1 (by omega)] at m2
          exact absurd m2 (by decide)
      rw [hnil] at k
      exact k
    · obtain ⟨e, rfl⟩ : ∃ e : Nat, d = e + 1 := ⟨d - 1, by omega⟩
      have ha64 : 0 ≤ a ∧ a < 64 := ⟨ha0, by omega⟩
      rw [z3, q_contains _ ha64, bF]
      have next : (isOfB (v a) (v 64) = true → ∀ b : Int, 0 ≤ b → b < 64 → tgtB F R v a b = false) → wp_X8_hasMove_42 D post (wp_X8_hasMove_7 D post n) (cS S o c) (o 10) (o p) (iI a) := by
        intro hna
        unfold wp_X8_hasMove_42
        intro x1 ex
        rw [ex, show (1 : Int32) = iI 1 from rfl, iI_add]
        refine ih e (a + 1) (by omega) (by push_cast at had; omega) (by omega) fun j b j0 j1 jo b0 b1 => ?_
        by_cases g : j = a
        · rw [g] at jo ⊢; exact hna jo b b0 b1
        · exact hno j b j0 (by omega) jo b0 b1
      refine ⟨fun q2 => next fun z => by rw [q2] at z; exact absurd z (by decide), fun q2 => ?_⟩
      have ho : isOfB (v a) (v 64) = true := by simpa using q2
      refine q_targets h hB hp v1 v3 v4 hA hR v6 ⟨ha0, by omega⟩ ?_
      simp only [lg_cmp_eq, zS_0]
      refine ⟨fun z => next fun _ b b0 b1 => z b b0 b1, fun z => ⟨nr1, ?_⟩⟩
      have hnn : (movesL F R v).length ≠ 0 := by
        intro hl
        apply z
        intro b b0 b1
        cases hq : tgtB F R v a b
        · rfl
        · exfalso
          have hbl : b < F * R := by
            refine aims_lt h4 h8 r4 r8 hm.2 ⟨ha0, by omega⟩ ⟨b0, b1⟩ ?_ (v := v) (a := a)
            unfold tgtB at hq
            split at hq
            · exact hq
            · rw [Bool.and_eq_true] at hq; exact hq.1
          rw [tgt_leg h4 h8 r4 r8 v1 v3 v4 v5 v6 v7 ⟨ha0, by omega⟩ ⟨b0, hbl⟩ ho, Bool.and_eq_true] at hq
          exact legal_from ho hq.1 ⟨b0, hbl⟩ (F * R).toNat 0 ha0 (by omega) (List.length_eq_zero_iff.mp hl)
      rw [decide_eq_false hnn] at k
      exact k
theorem q_hasMove {post : Int32 → wS → Prop} (h : CC D S o) (hB : BG c F R) (hp : isP p) (hv : PK F R v) (hA : PAt c p v) (k : post (iI (bI (!decide ((movesL F R v).length = 0)))) (cS S o (lookM c F R v))) :
    wp_X8_hasMove D post (cS S o c) (o 10) (o p) := by
  have hm := hB.m
  unfold wp_X8_hasMove wp_X8_hasMove_0
  refine q_look h hB hp hv.1 hv.2.2.1 hA hv.2.2.2.2.2.1 ?_
  refine ⟨(F * R).toNat + 1, ?_⟩
  rw [show (0 : Int32) = iI 0 from rfl]
  exact q_hasMove_7 h (hB.look v) hp hv (lookM_P hp hA) (lookM_RA c F R v) k ((F * R).toNat + 1) (F * R).toNat 0 (by omega) (by omega) (by decide) (fun j b j0 j1 => by omega)
end
