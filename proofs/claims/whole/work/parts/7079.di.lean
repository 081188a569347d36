/-! PHASE 3, dead positions, checkers, pins, material -/
theorem sumL_ge {f g : Int → Int} : ∀ (d : Nat) (k : Int), (∀ j, k ≤ j → j < k + d → f j ≤ g j) → sumL f k d ≤ sumL g k d
  | 0, k, h => by unfold sumL; omega
  | d + 1, k, h => by
    rw [sumL_S, sumL_S]
    have := h k (by omega) (by omega)
    have := sumL_ge d (k + 1) (fun j h1 h2 => h j (by omega) (by omega))
    omega
def otherB (v : Int → Int) (k : Int) : Bool := occB v k && !decide (kindO (v k) = 1)
def smallB (v : Int → Int) (k : Int) : Bool := decide (kindO (v k) = 4) || decide (kindO (v k) = 5)
theorem light_cases {v : Int → Int} (hv : okP v) {k : Int} (h0 : 0 ≤ k) (h1 : k < 64) : (otherB v k = false ∧ lightB (kindO (v k)) = 0) ∨ (otherB v k = true ∧ smallB v k = true ∧ lightB (kindO (v k)) = 1) ∨ (otherB v k = true ∧ smallB v k = false ∧ lightB (kindO (v k)) = 2) := by
  unfold otherB smallB occB
  rcases kind_cases (hv k h0 h1) with h | h | h | h | h | h | h | h | h | h | h | h | h <;> rw [h] <;> decide
theorem dead_iff {F R : Int} {v : Int → Int} (hn : 0 ≤ F * R ∧ F * R ≤ 64) (hv : okP v) (hb : brd F R v) :
    deadB F R v = (noneB (otherB v) || (decide (zcnt (otherB v) = 1) && !noneB (fun k => otherB v k && smallB v k))) := by
  have hlow : ∀ k : Int, F * R ≤ k → k < 64 → otherB v k = false := fun k h0 h1 => by unfold otherB occB; rw [hb k h0 h1]; rfl
  have hz := zcnt_board hn.1 hn.2 hlow
  unfold deadB
  by_cases c0 : noneB (otherB v) = true
  · rw [c0, Bool.true_or]
    refine decide_eq_true ?_
    rw [sumL_0 _ _ fun j h0 h1 => ?_]
    · omega
    · have := allL_iff.mp c0 j h0 (by omega)
      rcases light_cases hv h0 (show j < 64 by omega) with ⟨-, e⟩ | ⟨e, -⟩ | ⟨e, -⟩
      · exact e
      · rw [e] at this; exact absurd this (by decide)
      · rw [e] at this; exact absurd this (by decide)
  · have c0 : noneB (otherB v) = false := by simpa using c0
    rw [c0, Bool.false_or]
    have hge : zcnt (otherB v) ≤ sumL (fun j => lightB (kindO (v j))) 0 (F * R).toNat := by
      rw [hz]
      exact sumL_ge _ _ fun j h0 h1 => by
        rcases light_cases hv h0 (show j < 64 by omega) with ⟨e, e2⟩ | ⟨e, -, e2⟩ | ⟨e, -, e2⟩ <;> rw [e, e2] <;> simp
    have hpos : zcnt (otherB v) ≠ 0 := by
      intro e
      have : noneB (otherB v) = true := by
        refine allL_iff.mpr fun j h0 h1 => ?_
        cases q : otherB v j
        · rfl
        · exfalso
          have key : ∀ (d : Nat) (k : Int), k ≤ j → j < k + d → 1 ≤ sumL (fun k => if otherB v k = true then (1 : Int) else 0) k d := by
            intro d
            induction d with
            | zero => intro k a b; omega
            | succ d ih =>
              intro k a b
              rw [sumL_S]
              have h3 := (sumL_r (f := fun k => if otherB v k = true then (1 : Int) else 0) (fun j => by split <;> omega) (k + 1) d).1
              by_cases g : k = j
              · subst g; simp only [q, if_true]; omega
              · have := ih (k + 1) (by omega) (by omega)
                have : (0 : Int) ≤ (if otherB v k = true then 1 else 0) := by split <;> omega
                omega
          have := key 64 0 h0 h1
          unfold zcnt at e; omega
      rw [this] at c0; exact absurd c0 (by decide)
    by_cases c1 : zcnt (otherB v) = 1
    · rw [decide_eq_true c1, Bool.true_and]
      -- the one piece
      have h1 : sumL (fun j => if (if otherB v j = true then (1 : Int) else 0) = 1 then (1 : Int) else 0) 0 (F * R).toNat = 1 := by
        rw [hz] at c1
        exact (sumL_congr _ _ (fun j _ _ => by cases otherB v j <;> rfl)).trans c1
      obtain ⟨j, j0, j1, j2, j3⟩ := (cnt_two (F := F) (R := R) (v := fun j => if otherB v j = true then (1 : Int) else 0) (p := 1) (F * R).toNat 0).mp h1
      have hoj : otherB v j = true := by
        cases q : otherB v j
        · rw [q] at j2; exact absurd j2 (by decide)
        · rfl
      have hother : ∀ i : Int, 0 ≤ i → i < F * R → i ≠ j → otherB v i = false := fun i i0 i1 i2 => by
        cases q : otherB v i
        · rfl
        · exact absurd (j3 i i0 (by omega) (by rw [q]; rfl)) i2
      rw [sumL_one (x := j) _ _ j0 j1 (fun i i0 i1 i2 => by
        have := hother i i0 (by omega) i2
        rcases light_cases hv i0 (show i < 64 by omega) with ⟨-, e⟩ | ⟨e, -⟩ | ⟨e, -⟩
        · exact e
        · rw [e] at this; exact absurd this (by decide)
        · rw [e] at this; exact absurd this (by decide))]
      have hn2 : noneB (fun k => otherB v k && smallB v k) = !smallB v j := by
        unfold noneB
        cases q : smallB v j
        · refine allL_iff.mpr fun i i0 i1 => ?_
          show (!(otherB v i && smallB v i)) = true
          by_cases g : i = j
          · rw [g, q]; simp
          · by_cases g2 : i < F * R
            · rw [hother i i0 g2 g]; rfl
            · rw [hlow i (by omega) (by omega)]; rfl
        · cases z : allL (fun t => !(otherB v t && smallB v t)) 0 64
          · rfl
          · exfalso
            have := allL_iff.mp z j j0 (by omega)
            simp only [hoj, q] at this; exact absurd this (by decide)
      rw [hn2, Bool.not_not]
      rcases light_cases hv j0 (show j < 64 by omega) with ⟨e, -⟩ | ⟨-, e, e2⟩ | ⟨-, e, e2⟩
      · rw [e] at hoj; exact absurd hoj (by decide)
      · rw [e, e2]; rfl
      · rw [e, e2]; rfl
    · rw [decide_eq_false c1, Bool.false_and]
      exact decide_eq_false (by have := (zcnt_r (otherB v)).1; omega)
section
variable {D : wD} {S : wS} {o : Nat → Nat} {c : cM} {F R : Int} {p : Nat} {v : Int → Int}
theorem q_isDeadC {post : Int32 → wS → Prop} (h : CC D S o) (hn : 0 ≤ F * R ∧ F * R ≤ 64) (hp : isP p) (hv : okP v) (hb : brd F R v) (hA : PAt c p v) (k : post (iI (bI (deadB F R v))) (cS S o c)) : wp_X7_isDead D post (cS S o c) (o p) := by
  rw [dead_iff hn hv hb] at k
  unfold wp_X7_isDead wp_X7_isDead_0 wp_X7_isDead_49 wp_X7_isDead_53 wp_X7_isDead_54
  simp only [iI_lit]
  rw [q_occupied h hp hv hA, q_ofKind h hp hv hA (by decide)]
  intro x5 e5
  rw [zS_not, zS_and] at e5
  rw [q_ofKind h hp hv hA (by decide), q_ofKind h hp hv hA (by decide)]
  intro x10 e10
  rw [zS_or] at e10
  have eo : (fun k => occB v k && !decide (kindO (v k) = 1)) = otherB v := rfl
  have es : (fun k => decide (kindO (v k) = 4) || decide (kindO (v k) = 5)) = smallB v := rfl
  rw [eo] at e5
  rw [es] at e10
  rw [e5, e10, q_bitCount, zS_and]
  simp only [lgz, none_z]
  have hzr := zcnt_r (otherB v)
  have l1 : (iI (zcnt (otherB v)) = iI 1) = (zcnt (otherB v) = 1) := by rw [iI_eq (by omega) (by omega) (by decide) (by decide)]
  rw [l1]
  refine ⟨fun z => ⟨nr1, by rw [z, Bool.true_or] at k; exact k⟩, fun z => ⟨fun y => ⟨nr0, ?_⟩, fun y => ⟨fun w => ⟨nr0, ?_⟩, fun w => ⟨nr1, ?_⟩⟩⟩⟩
  · have z : noneB (otherB v) = false := by simpa using z
    rw [z, decide_eq_false y] at k; exact k
  · have z : noneB (otherB v) = false := by simpa using z
    rw [z, decide_eq_true y, w] at k; exact k
  · have z : noneB (otherB v) = false := by simpa using z
    have w : noneB (fun k => otherB v k && smallB v k) = false := by simpa using w
    rw [z, decide_eq_true y, w] at k; exact k
theorem zS_zero : zS (fun _ => false) = 0 := zS_f.symm
/-- how many pieces give check -/
theorem chks_z (hB : BG c F R) (hv : okV F R v) (hb : brd F R v) (hk : kingB F R v (v 64) < F * R) : zcnt (foundB F R v (occB v) (1 - v 64) (kingB F R v (v 64))) = chksB F R v := by
  have hm := hB.m
  have hs := hv.s
  have hr := kingB_r v (v 64) (show 0 ≤ F * R by omega)
  have e : ∀ t : Int, 0 ≤ t → t < 64 → foundB F R v (occB v) (1 - v 64) (kingB F R v (v 64)) t = (isOfB (v t) (1 - v 64) && attB F v t (kingB F R v (v 64))) := fun t h0 h1 => by
    rw [found_iff hB.f4 hB.f8 hB.r4 hB.r8 hm.2 ⟨hr.1, hk⟩ ⟨h0, h1⟩ (by omega) (hv.p t h0 h1) (fun h => hb t h h1), ← attO_v]; rfl
  rw [zcnt_board (n := F * R) (by omega) hm.2 (fun k h0 h1 => by rw [e k (by omega) h1, hb k h0 h1]; simp [isOfB])]
  unfold chksB
  exact sumL_congr _ _ fun j h0 h1 => by rw [e j h0 (by omega)]
/-- a slider hidden by a piece -/
theorem pin_iff (hB : BG c F R) (hv : PK F R v) {q : Int} (hq : 0 ≤ q ∧ q < F * R) : pinB F R v q = (isOfB (v q) (v 64) && !decide (q = kingB F R v (v 64)) && !noneB (fun t => foundB F R v (fun u => occB v u && !decide (u = q)) (1 - v 64) (kingB F R v (v 64)) t && !foundB F R v (occB v) (1 - v 64) (kingB F R v (v 64)) t)) := by
  have hm := hB.m
  have h4 := hB.f4; have h8 := hB.f8; have r4 := hB.r4; have r8 := hB.r8
  obtain ⟨v1, v2, v3, v4, v5, v6, v7⟩ := id hv
  have hs := v1.s
  have hr := kingB_r v (v 64) (show 0 ≤ F * R by omega)
  unfold pinB
  cases ho : isOfB (v q) (v 64)
  · rfl
  · rw [Bool.true_and, Bool.true_and]
    have hk : decide (kindO (v q) = 1) = decide (q = kingB F R v (v 64)) := by
      apply decide_eq_decide.mpr
      constructor
      · intro e; exact v7 q hq.1 hq.2 (isOfB_king (v1.p q hq.1 (by omega)) hs ho e)
      · intro e; rw [e, king_at (by omega) v6]; exact kindO_of (by decide)
    rw [hk]
    cases hd : decide (q = kingB F R v (v 64))
    · rw [Bool.not_false, Bool.true_and, Bool.true_and]
      have bit : ∀ t : Int, 0 ≤ t → t < F * R → pinAt F R v q t = (foundB F R v (fun u => occB v u && !decide (u = q)) (1 - v 64) (kingB F R v (v 64)) t && !foundB F R v (occB v) (1 - v 64) (kingB F R v (v 64)) t) := by
        intro t t0 t1
        have f1 := fun oc => found_iff (occ := oc) h4 h8 r4 r8 hm.2 ⟨hr.1, v6⟩ ⟨t0, show t < 64 by omega⟩ (show 1 - v 64 = 0 ∨ 1 - v 64 = 1 by omega) (v1.p t t0 (by omega)) (fun h => v3 t h (by omega))
        rw [f1, f1]
        unfold pinAt
        cases hto : isOfB (v t) (1 - v 64)
        · simp
        · rw [Bool.true_and, Bool.true_and, Bool.true_and]
          have htq : t ≠ q := fun e => by
            have := (own_opp (v1.p q hq.1 (by omega)) (by omega) ho).1
            rw [← e, hto] at this; exact absurd this (by decide)
          have ea : attB F (upV v q 0) t (kingB F R v (v 64)) = attO F v (fun u => occB v u && !decide (u = q)) t (kingB F R v (v 64)) := by
            rw [← attO_v]
            refine att_cong h4 h8 r4 r8 hm.2 ⟨t0, t1⟩ ⟨hr.1, v6⟩ (if_neg htq) fun j _ _ => ?_
            unfold upV occB
            by_cases g : j = q
            · rw [if_pos g, decide_eq_true g]; simp
            · rw [if_neg g, decide_eq_false g]; simp
          have eb : attB F v t (kingB F R v (v 64)) = attO F v (occB v) t (kingB F R v (v 64)) := by rw [← attO_v]; rfl
          rw [ea, eb]
          -- other pieces attack alike
          cases hin : inB (kindO (v t)) 2 4
          · rw [Bool.false_and, Bool.false_and]
            have : attO F v (fun u => occB v u && !decide (u = q)) t (kingB F R v (v 64)) = attO F v (occB v) t (kingB F R v (v 64)) := by
              rw [att_line, att_line]
              have hkr := kindO_r (v1.p t t0 (by omega))
              unfold inB at hin
              simp only [Bool.and_eq_false_iff, decide_eq_false_iff_not] at hin
              have n2 : ¬ kindO (v t) = 2 := by omega
              have n3 : ¬ kindO (v t) = 3 := by omega
              have n4 : ¬ kindO (v t) = 4 := by omega
              rw [if_neg n2, if_neg n3, if_neg n4, if_neg n2, if_neg n3, if_neg n4]
            rw [this]; simp
          · rw [Bool.true_and]
      apply Bool.eq_iff_iff.mpr
      rw [anyL_iff]
      constructor
      · rintro ⟨j, j0, j1, j2⟩
        rw [bit j j0 (by omega)] at j2
        cases z : noneB (fun t => foundB F R v (fun u => occB v u && !decide (u = q)) (1 - v 64) (kingB F R v (v 64)) t && !foundB F R v (occB v) (1 - v 64) (kingB F R v (v 64)) t)
        · rfl
        · exfalso
          have := allL_iff.mp z j j0 (by omega)
          dsimp only at this
          rw [j2] at this; exact absurd this (by decide)
      · intro hn
        apply Classical.byContradiction
        intro hno
        have : noneB (fun t => foundB F R v (fun u => occB v u && !decide (u = q)) (1 - v 64) (kingB F R v (v 64)) t && !foundB F R v (occB v) (1 - v 64) (kingB F R v (v 64)) t) = true := by
          refine allL_iff.mpr fun t t0 t1 => ?_
          dsimp only
          by_cases g : t < F * R
          · rw [← bit t t0 g]
            cases y : pinAt F R v q t
            · rfl
            · exact absurd ⟨t, t0, by omega, y⟩ hno
          · have hv0 := v3 t (by omega) (by omega)
            unfold foundB
            rw [hv0]; simp [isOfB]
        rw [this] at hn; exact absurd hn (by decide)
    · rfl
end
