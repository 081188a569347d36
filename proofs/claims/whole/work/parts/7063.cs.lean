theorem slide_lt {F R : Int} {occ : Int → Bool} {a t : Int} {st : Bool} (h4 : 4 ≤ F) (h8 : F ≤ 8) (r4 : 4 ≤ R) (r8 : R ≤ 8) (hn : F * R ≤ 64) (ha : 0 ≤ a ∧ a < F * R) (ht : 0 ≤ t ∧ t < 64) (h : slideB F R occ a st t = true) : t < F * R := by
  rw [slide_iff h4 h8 r4 r8 hn ha ht] at h
  simp only [Bool.and_eq_true, decide_eq_true_eq] at h
  exact h.1
theorem reach_lt {F R : Int} {occ : Int → Bool} {a t kd : Int} (h4 : 4 ≤ F) (h8 : F ≤ 8) (r4 : 4 ≤ R) (r8 : R ≤ 8) (hn : F * R ≤ 64) (ha : 0 ≤ a ∧ a < F * R) (ht : 0 ≤ t ∧ t < 64) (h : reachC F R occ kd a t = true) : t < F * R := by
  unfold reachC at h
  split at h
  · rw [kstep_iff h4 h8 r4 r8 ht.1] at h
    simp only [Bool.and_eq_true, decide_eq_true_eq] at h
    exact h.1
  · split at h
    · rw [Bool.or_eq_true] at h
      rcases h with h | h
      · exact slide_lt h4 h8 r4 r8 hn ha ht h
      · exact slide_lt h4 h8 r4 r8 hn ha ht h
    · split at h
      · exact slide_lt h4 h8 r4 r8 hn ha ht h
      · split at h
        · exact slide_lt h4 h8 r4 r8 hn ha ht h
        · split at h
          · rw [nstep_iff h4 h8 r4 r8 ht.1] at h
            simp only [Bool.and_eq_true, decide_eq_true_eq] at h
            exact h.1
          · exact absurd h (by decide)
theorem aims_lt {F R : Int} {v : Int → Int} {a b : Int} (h4 : 4 ≤ F) (h8 : F ≤ 8) (r4 : 4 ≤ R) (r8 : R ≤ 8) (hn : F * R ≤ 64) (ha : 0 ≤ a ∧ a < F * R) (ht : 0 ≤ b ∧ b < 64) (h : aimsB F R v a b = true) : b < F * R := by
  unfold aimsB at h
  split at h
  · unfold pawnAB inB at h
    simp only [Bool.and_eq_true, Bool.or_eq_true, decide_eq_true_eq, Bool.not_eq_true'] at h
    rcases h with ⟨⟨⟨g1, g2⟩, g3⟩, g4⟩ | ⟨g1, g2⟩
    · rcases g4 with g4 | ⟨⟨⟨g4, g5⟩, g6⟩, g7⟩
      · omega
      · rcases upB_ne (v 64) with hu | hu
        · have e : v 64 = 1 := by unfold upB at hu; split at hu; assumption; omega
          rw [if_pos e] at g4
          rw [hu] at g7
          rcases F_cases h4 h8 with rfl | rfl | rfl | rfl | rfl <;> omega
        · rw [hu] at g7 g1; omega
    · rw [aim_iff h4 h8 r4 r8 ht.1] at g1
      simp only [Bool.and_eq_true, decide_eq_true_eq] at g1
      exact g1.1
  · simp only [Bool.and_eq_true] at h
    exact reach_lt h4 h8 r4 r8 hn ha ht h.1
section
variable {D : wD} {S : wS} {o : Nat → Nat} {c : cM} {F R : Int} {p : Nat} {v : Int → Int}
theorem q_low {U : wS} {post : Int32 → wS → Prop} {P : Int → Bool} {n : Int} (hn : 0 ≤ n ∧ n < 64) (hP : P n = true) (hl : ∀ j : Int, 0 ≤ j → j < n → P j = false) (k : post (iI n) U) : wp_X11_lowest D post U (zS P) := by
  unfold wp_X11_lowest wp_X11_lowest_0
  rw [q_lowest hn hP hl]
  exact k
theorem rest_from {A : Int → Bool} {m n : Int} (hm : 0 ≤ m) (hmn : m ≤ n) (hP : A n = true) (hl : ∀ j : Int, m ≤ j → j < n → A j = false) :
    zS (fun b => A b && decide (m ≤ b)) &&& (zS (fun b => A b && decide (m ≤ b)) - 1) = zS (fun b => A b && decide (n + 1 ≤ b)) := by
  rw [zS_rest]
  refine zS_congr fun k h0 h1 => ?_
  apply Bool.eq_iff_iff.mpr
  simp only [Bool.and_eq_true, decide_eq_true_eq]
  rw [zlow_iff (by omega)]
  constructor
  · rintro ⟨⟨a1, a2⟩, j, b0, b1, b2⟩
    simp only [Bool.and_eq_true, decide_eq_true_eq] at b2
    refine ⟨a1, ?_⟩
    rcases Int.lt_or_le j n with g | g
    · rw [hl j b2.2 g] at b2; exact absurd b2.1 (by decide)
    · omega
  · rintro ⟨a1, a2⟩
    refine ⟨⟨a1, by omega⟩, n, by omega, by omega, ?_⟩
    simp only [Bool.and_eq_true, decide_eq_true_eq]
    exact ⟨hP, hmn⟩
theorem least_from {A : Int → Bool} {m : Int} (hm : 0 ≤ m) (h : ¬ ∀ k : Int, 0 ≤ k → k < 64 → (A k && decide (m ≤ k)) = false) : ∃ n : Int, m ≤ n ∧ n < 64 ∧ A n = true ∧ ∀ j : Int, m ≤ j → j < n → A j = false := by
  have hm64 : m < 64 := by
    rcases Int.lt_or_le m 64 with g | g
    · exact g
    · exact absurd (fun k h0 h1 => by rw [decide_eq_false (by omega), Bool.and_false]) h
  refine ⟨findL A m (64 - m).toNat, (findL_r A m _).1, ?_, ?_, ?_⟩
  · have := (findL_r A m (64 - m).toNat).2
    rcases Int.lt_or_le (findL A m (64 - m).toNat) 64 with g | g
    · exact g
    · exfalso
      apply h
      intro k h0 h1
      by_cases q : m ≤ k
      · rw [findL_min A (64 - m).toNat m k q (by omega)]; rfl
      · rw [decide_eq_false q, Bool.and_false]
  · have h2 := (findL_r A m (64 - m).toNat).2
    by_cases g : findL A m (64 - m).toNat < m + ((64 - m).toNat : Int)
    · exact findL_at A _ m g
    · exfalso
      apply h
      intro k h0 h1
      by_cases q : m ≤ k
      · rw [findL_min A (64 - m).toNat m k q (by omega)]; rfl
      · rw [decide_eq_false q, Bool.and_false]
  · exact fun j h1 h2 => findL_min A _ m j h1 h2
theorem q_targets_118 {post : Int64 → wS → Prop} (h : CC D S o) (hB : BG c F R) (hp : isP p) (hv : okV F R v) (hb : brd F R v) (he : epS F R v) (hA : PAt c p v) (hR : RA c F R v) (hk : kingB F R v (v 64) < F * R) {a : Int} (ha : 0 ≤ a ∧ a < F * R)
    {A : Int → Bool} (hlt : ∀ b : Int, 0 ≤ b → b < 64 → A b = true → b < F * R) (k : post (zS (fun b => A b && safeB F R v a b)) (cS S o c)) : ∀ (n : Nat) (m i : Int), 64 < m + n → 0 ≤ i → i ≤ m → m ≤ 64 →
    wp_X8_targets_118 D post n (cS S o c) (o 10) (o p) (iI a) (iI (kindO (v a))) (iI (bI (passC v a))) (zS (fun b => (A b && safeB F R v a b) && decide (b < m))) (zS (fun b => A b && decide (m ≤ b))) (iI i) := by
  have hm := hB.m
  have h4 := hB.f4; have h8 := hB.f8; have r4 := hB.r4; have r8 := hB.r8
  have hs : v 64 = 0 ∨ v 64 = 1 := by have := hv.s; omega
  have hu := upB_ne (v 64)
  have hkr := kingB_r v (v 64) (show 0 ≤ F * R by omega)
  have hkd := kindO_r (hv.p a ha.1 (by omega))
  have s5 : sI (cS S o c) (o p) 5 = iI (v 64) := by rw [c_i1 h hp.1 (show ((5 : Nat) : Int) = 5 from rfl)]; exact congrArg iI hA.2.2.2.2.1
  have s7 : sI (cS S o c) (o p) 7 = iI (v 66) := by rw [c_i1 h hp.1 (show ((7 : Nat) : Int) = 7 from rfl)]; exact congrArg iI hA.2.2.2.2.2.2
  have s0 : sI (cS S o c) (o 1) 0 = iI F := by rw [c_i1 h (by decide) (show ((0 : Nat) : Int) = 0 from rfl)]; exact congrArg iI hB.f
  have sk : sI (cS S o c) (o 10) 1 = iI (kingB F R v (v 64)) := by rw [c_i1 h (by decide) (show ((1 : Nat) : Int) = 1 from rfl)]; exact congrArg iI hR.1
  have z2 : sJ (cS S o c) (o 10) 2 = zS (occB v) := by rw [c_j1 h (by decide) (show ((2 : Nat) : Int) = 2 from rfl)]; exact hR.2.1
  have hz : (iI (v 64) = 0) = (v 64 = 0) := by rw [show (0 : Int32) = iI 0 from rfl, iI_eq (by omega) (by omega) (by decide) (by decide)]
  have hve := hv.e
  have lk1 : (iI (kindO (v a)) = (1 : Int32)) = (kindO (v a) = 1) := by rw [show (1 : Int32) = iI 1 from rfl, iI_eq (by omega) (by omega) (by decide) (by decide)]
  intro n
  induction n with
  | zero => intro m i h1 h2 h3 h5; omega
  | succ n ih =>
    intro m i h1 h2 h3 h5
    have full : (∀ b : Int, 0 ≤ b → b < 64 → m ≤ b → A b = false) → post (zS (fun b => (A b && safeB F R v a b) && decide (b < m))) (cS S o c) := fun hf => by
      rw [zS_congr (Q := fun b => A b && safeB F R v a b) fun b g0 g1 => ?_]
      · exact k
      · by_cases q : b < m
        · rw [decide_eq_true q, Bool.and_true]
        · rw [decide_eq_false q, hf b g0 g1 (by omega)]; rfl
    unfold wp_X8_targets_118 wp_X8_targets_294
    have l64 : ((64 : Int32) ≤ iI i) = (64 ≤ i) := by rw [show (64 : Int32) = iI 64 from rfl, iI_le (by decide) (by decide) (by omega) (by omega)]
    simp only [l64, lg_cmp_eq, zS_0]
    refine ⟨fun q => full fun b g0 g1 g2 => by omega, fun q => ⟨fun q2 => full fun b g0 g1 g2 => ?_, fun q2 => ?_⟩⟩
    · have := q2 b g0 g1
      rw [decide_eq_true g2, Bool.and_true] at this
      exact this
    · obtain ⟨b, b1, b2, b3, b4⟩ := least_from (show 0 ≤ m by omega) q2
      refine q_low (n := b) ⟨by omega, b2⟩ (by rw [b3, decide_eq_true b1]; rfl) (fun j g0 g1 => ?_) ?_
      · by_cases g : m ≤ j
        · rw [b4 j g g1]; rfl
        · rw [decide_eq_false g, Bool.and_false]
      · intro x5 e5 x6 e6
        rw [rest_from (by omega) b1 b3 b4] at e5
        rw [zS_one ⟨by omega, b2⟩] at e6
        have hbl := hlt b (by omega) b2 b3
        -- the next round
        have next : ∀ P : Int → Bool, (∀ u : Int, 0 ≤ u → u < 64 → P u = ((A u && safeB F R v a u) && decide (u < b + 1))) → wp_X8_targets_288 D post (wp_X8_targets_118 D post n) (cS S o c) (o 10) (o p) (iI a) (iI (kindO (v a))) (iI (bI (passC v a))) (zS P) x5 (iI i) := by
          intro P hP
          unfold wp_X8_targets_288
          intro x1 ex
          rw [ex, show (1 : Int32) = iI 1 from rfl, iI_add, e5, zS_congr hP]
          exact ih (b + 1) (i + 1) (by omega) (by omega) (by omega) (by omega)
        have at262 : ∀ (pl u : Int), pl = (if kindO (v a) = 1 then b else kingB F R v (v 64)) → u = 1 - v 64 → wp_X8_targets_262 D post (wp_X8_targets_118 D post n) (cS S o c) (o 10) (o p) (iI a) (iI (kindO (v a))) (iI (bI (passC v a))) (zS (fun b => (A b && safeB F R v a b) && decide (b < m))) x5 (iI i) (iI b) (zS (goneB F v (passC v a) b)) (zS (thenB F v (passC v a) a b)) (o p) (iI pl) (iI u) := by
          intro pl u hpl hue
          unfold wp_X8_targets_262
          have hplr : 0 ≤ pl ∧ pl < F * R := by rw [hpl]; split <;> omega
          refine q_attackers h hB hp hv.p hA hplr (by omega) ?_
          simp only [zS_not, zS_and, lg_cmp_eq, none_z]
          have es : noneB (fun k => foundB F R v (thenB F v (passC v a) a b) u pl k && !goneB F v (passC v a) b k) = safeB F R v a b := by unfold safeB; rw [hpl, hue]
          rw [es]
          have below : ∀ u : Int, m ≤ u → u < b → A u = false := b4
          refine ⟨fun g => next _ fun u g0 g1 => ?_, fun g x4 e4 => ?_⟩
          · have sf : safeB F R v a b = false := by simpa using g
            by_cases q1 : u < m
            · rw [decide_eq_true q1, decide_eq_true (show u < b + 1 by omega)]
            · rw [decide_eq_false q1, Bool.and_false]
              by_cases q2 : u < b
              · rw [below u (by omega) q2]; rfl
              · by_cases q3 : u = b
                · rw [q3, sf]; simp
                · rw [decide_eq_false (show ¬ u < b + 1 by omega), Bool.and_false]
          · rw [zS_one ⟨by omega, b2⟩, zS_or] at e4
            rw [e4]
            refine next _ fun u g0 g1 => ?_
            by_cases q1 : u < m
            · rw [decide_eq_true q1, decide_eq_true (show u < b + 1 by omega), decide_eq_false (show ¬ u = b by omega), Bool.or_false]
            · rw [decide_eq_false q1, Bool.and_false, Bool.false_or]
              by_cases q2 : u < b
              · rw [below u (by omega) q2, decide_eq_false (show ¬ u = b by omega)]; rfl
              · by_cases q3 : u = b
                · rw [q3, g, b3, decide_eq_true (show b < b + 1 by omega)]; simp
                · rw [decide_eq_false (show ¬ u < b + 1 by omega), Bool.and_false, decide_eq_false q3]
        have at205 : wp_X8_targets_205 D post (wp_X8_targets_118 D post n) (cS S o c) (o 10) (o p) (iI a) (iI (kindO (v a))) (iI (bI (passC v a))) (zS (fun b => (A b && safeB F R v a b) && decide (b < m))) x5 (iI i) (iI b) (zS (goneB F v (passC v a) b)) := by
          unfold wp_X8_targets_205
          intro x1 ex
          rw [z2, zS_one (show 0 ≤ a ∧ a < 64 by omega), zS_one (show 0 ≤ b ∧ b < 64 by omega), zS_not, zS_and, zS_not, zS_and, zS_or] at ex
          have e : (fun k => (((occB v k && !goneB F v (passC v a) b k) && !decide (k = a)) || decide (k = b))) = thenB F v (passC v a) a b := rfl
          rw [e] at ex
          rw [ex, lk1, sk]
          have at245 : ∀ pl : Int, pl = (if kindO (v a) = 1 then b else kingB F R v (v 64)) → wp_X8_targets_245 D post (wp_X8_targets_118 D post n) (cS S o c) (o 10) (o p) (iI a) (iI (kindO (v a))) (iI (bI (passC v a))) (zS (fun b => (A b && safeB F R v a b) && decide (b < m))) x5 (iI i) (iI b) (zS (goneB F v (passC v a) b)) (zS (thenB F v (passC v a) a b)) (iI pl) := by
            intro pl hpl
            unfold wp_X8_targets_245
            rw [s5, hz]
            exact ⟨fun g => at262 pl 0 hpl (by omega), fun g => at262 pl 1 hpl (by omega)⟩
          exact ⟨fun g => at245 _ (if_neg g).symm, fun g => at245 _ (if_pos g).symm⟩
        have gsimple : (passC v a && decide (b = v 66)) = false → zS (fun k => decide (k = b)) = zS (goneB F v (passC v a) b) := fun g => by
          congr 1
          funext u
          unfold goneB
          rw [g]; simp
        have lp : (iI b = iI (v 66)) = (b = v 66) := by rw [iI_eq (by omega) (by omega) (by omega) (by omega)]
        rw [e6, bF, s7, lp, s5, hz]
        refine ⟨fun g => ?_, fun g => ⟨fun g2 => ?_, fun g2 => ?_⟩⟩
        · rw [gsimple (by rw [g]; rfl)]; exact at205
        · rw [gsimple (by rw [decide_eq_false g2, Bool.and_false])]; exact at205
        · have cp : passC v a = true := by simpa using g
          have hep : v 66 ≠ -1 := by unfold passC at cp; simp only [Bool.and_eq_true, Bool.not_eq_true', decide_eq_false_iff_not] at cp; exact cp.2
          have hrg : 0 ≤ b - upB (v 64) * F ∧ b - upB (v 64) * F < 64 := by
            rcases he with he | he
            · exact absurd he hep
            · have := he.1.2; rw [g2]; omega
          have at201 : ∀ sq : Int, sq = b - upB (v 64) * F → wp_X8_targets_201 D post (wp_X8_targets_118 D post n) (cS S o c) (o 10) (o p) (iI a) (iI (kindO (v a))) (iI (bI (passC v a))) (zS (fun b => (A b && safeB F R v a b) && decide (b < m))) x5 (iI i) (iI b) (zS fun k => decide (k = b)) (1 : Int64) (iI sq) := by
            intro sq hsq
            unfold wp_X8_targets_201
            intro x1 ex
            rw [zS_one (by rw [hsq]; exact hrg), zS_or] at ex
            have e : (fun k => decide (k = b) || decide (k = sq)) = goneB F v (passC v a) b := by
              funext u
              unfold goneB
              rw [cp, decide_eq_true g2, hsq]; rfl
            rw [ex, e]
            exact at205
          refine ⟨fun q => ⟨o 1, c_r h rfl, (c_m h (by decide)).mpr trivial, c_k h (by decide), ?_⟩, fun q => ⟨o 1, c_r h rfl, (c_m h (by decide)).mpr trivial, c_k h (by decide), ?_⟩⟩
          · rw [s0, iI_add]
            exact at201 _ (by rw [q]; unfold upB; simp)
          · rw [s0, iI_sub]
            exact at201 _ (by rw [show v 64 = 1 by omega]; unfold upB; simp)
theorem q_targets {post : Int64 → wS → Prop} (h : CC D S o) (hB : BG c F R) (hp : isP p) (hv : okV F R v) (hb : brd F R v) (he : epS F R v) (hA : PAt c p v) (hR : RA c F R v) (hk : kingB F R v (v 64) < F * R) {a : Int} (ha : 0 ≤ a ∧ a < F * R)
    (k : post (zS (tgtB F R v a)) (cS S o c)) : wp_X8_targets D post (cS S o c) (o 10) (o p) (iI a) := by
  have hm := hB.m
  have h4 := hB.f4; have h8 := hB.f8; have r4 := hB.r4; have r8 := hB.r8
  have hkd := kindO_r (hv.p a ha.1 (by omega))
  have hve := hv.e
  have s7 : sI (cS S o c) (o p) 7 = iI (v 66) := by rw [c_i1 h hp.1 (show ((7 : Nat) : Int) = 7 from rfl)]; exact congrArg iI hA.2.2.2.2.2.2
  have s4 : sI (cS S o c) (o 10) 4 = iI (bI (chkB F R v (v 64))) := by rw [c_i1 h (by decide) (show ((4 : Nat) : Int) = 4 from rfl)]; exact congrArg iI hR.2.2.2.1
  have z2 : sJ (cS S o c) (o 10) 2 = zS (occB v) := by rw [c_j1 h (by decide) (show ((2 : Nat) : Int) = 2 from rfl)]; exact hR.2.1
  have z3 : sJ (cS S o c) (o 10) 3 = zS (fun k => isOfB (v k) (v 64)) := by rw [c_j1 h (by decide) (show ((3 : Nat) : Int) = 3 from rfl)]; exact hR.2.2.1
  have z5 : sJ (cS S o c) (o 10) 5 = zS (shB F R v) := by rw [c_j1 h (by decide) (show ((5 : Nat) : Int) = 5 from rfl)]; exact hR.2.2.2.2
  have lk1 : (iI (kindO (v a)) = (1 : Int32)) = (kindO (v a) = 1) := by rw [show (1 : Int32) = iI 1 from rfl, iI_eq (by omega) (by omega) (by decide) (by decide)]
  have lk6 : (iI (kindO (v a)) = (6 : Int32)) = (kindO (v a) = 6) := by rw [show (6 : Int32) = iI 6 from rfl, iI_eq (by omega) (by omega) (by decide) (by decide)]
  have slow : fastB F R v a = false → wp_X8_targets_108 D post (cS S o c) (o 10) (o p) (iI a) (iI (kindO (v a))) (zS (aimsB F R v a)) (iI (bI (passC v a))) := by
    intro hf
    unfold wp_X8_targets_108
    refine ⟨65, ?_⟩
    have e1 : (0 : Int64) = zS (fun b => (aimsB F R v a b && safeB F R v a b) && decide (b < 0)) := by
      rw [zS_f]; exact zS_congr fun b g0 g1 => by rw [decide_eq_false (show ¬ b < 0 by omega), Bool.and_false]
    have e2 : zS (aimsB F R v a) = zS (fun b => aimsB F R v a b && decide (0 ≤ b)) := zS_congr fun b g0 g1 => by rw [decide_eq_true g0, Bool.and_true]
    rw [e1, e2, show (0 : Int32) = iI 0 from rfl]
    refine q_targets_118 h hB hp hv hb he hA hR hk ha (fun b g0 g1 g2 => aims_lt h4 h8 r4 r8 hm.2 ha ⟨g0, g1⟩ g2) ?_ 65 0 0 (by decide) (by decide) (by decide) (by decide)
    have : (fun b => aimsB F R v a b && safeB F R v a b) = tgtB F R v a := by
      funext b; unfold tgtB; rw [hf]; rfl
    rw [this]; exact k
  have at75 : wp_X8_targets_75 D post (cS S o c) (o 10) (o p) (iI a) (iI (kindO (v a))) (zS (aimsB F R v a)) (iI (bI (passC v a))) := by
    unfold wp_X8_targets_75
    rw [s4, bF, bF, lk1]
    refine ⟨fun g => slow ?_, fun g => ⟨fun g2 => slow ?_, fun g2 => ⟨fun g3 => slow ?_, fun g3 => ?_⟩⟩⟩
    · unfold fastB
      have : chkB F R v (v 64) = true := by simpa using g
      rw [this]; rfl
    · unfold fastB
      have : passC v a = true := by simpa using g2
      rw [this]; simp
    · unfold fastB
      rw [decide_eq_true g3]; simp
    · rw [z5, q_contains _ (show 0 ≤ a ∧ a < 64 by omega), bF]
      refine ⟨fun g4 => slow ?_, fun g4 => ?_⟩
      · unfold fastB
        have : shB F R v a = true := by simpa using g4
        rw [this]; simp
      · have hf : fastB F R v a = true := by unfold fastB; rw [g, g2, g4, decide_eq_false g3]; rfl
        have : aimsB F R v a = tgtB F R v a := by
          funext b; unfold tgtB; rw [hf]; rfl
        rw [this]; exact k
  have at55 : ∀ pw : Bool, (pw = true ↔ kindO (v a) = 6) → wp_X8_targets_55 D post (cS S o c) (o 10) (o p) (iI a) (iI (kindO (v a))) (iI (bI pw)) (zS (aimsB F R v a)) := by
    intro pw hpw
    unfold wp_X8_targets_55 wp_X8_targets_74
    have l7 : (iI (v 66) = (-1 : Int32)) = (v 66 = -1) := by rw [show (-1 : Int32) = iI (-1) from rfl, iI_eq (by omega) (by omega) (by decide) (by decide)]
    rw [bF, s7, l7]
    have f0 : passC v a = false → wp_X8_targets_75 D post (cS S o c) (o 10) (o p) (iI a) (iI (kindO (v a))) (zS (aimsB F R v a)) (0 : Int32) := fun g => by rw [g] at at75; exact at75
    refine ⟨fun g => f0 ?_, fun g => ⟨fun g2 => f0 ?_, fun g2 => ?_⟩⟩
    · unfold passC
      rw [decide_eq_false (fun z => by rw [hpw.mpr z] at g; exact absurd g (by decide))]; rfl
    · unfold passC; rw [decide_eq_true g2]; simp
    · have : passC v a = true := by
        unfold passC
        rw [decide_eq_true (hpw.mp (by simpa using g)), decide_eq_false g2]; rfl
      rw [this] at at75
      exact at75
  unfold wp_X8_targets wp_X8_targets_0
  rw [q_kindOn h hp hv.p hA (show 0 ≤ a ∧ a < 64 by omega), lk6]
  refine ⟨fun g => ?_, fun g => ?_⟩
  · unfold wp_X8_targets_17
    refine ⟨fun _ => ⟨o 1, c_r h rfl, (c_m h (by decide)).mpr trivial, c_k h (by decide), ?_⟩, fun z => absurd rfl z⟩
    rw [z2]
    refine q_reach h hB ha hkd ?_
    rw [z3, zS_not, zS_and]
    have e : (fun k => reachC F R (occB v) (kindO (v a)) a k && !isOfB (v k) (v 64)) = aimsB F R v a := by
      funext b; unfold aimsB; rw [if_neg g]
    rw [e]
    exact at55 false ⟨fun z => absurd z (by decide), fun z => absurd z g⟩
  · unfold wp_X8_targets_17
    refine ⟨fun z => absurd z (by decide), fun _ => ?_⟩
    refine q_pawnAims h hB hp hv hb hA hR ha ?_
    have e : pawnAB F R v a = aimsB F R v a := by
      funext b; unfold aimsB; rw [if_pos g]
    rw [e]
    exact at55 true ⟨fun _ => g, fun _ => rfl⟩
end
