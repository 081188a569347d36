/-! PHASE 3: is a text the same; is the passing square right -/
section
variable {D : wD} {S : wS} {o : Nat → Nat} {c : cM} {F R : Int} {v w : Int → Int} {post : Int32 → wS → Prop}
theorem q_isSameT {U : wS} {a y b z : Nat} {L M : List Int} (hA : SB U a y L) (hB : SB U b z M) (h1 : sN U y < 1000000) (h2 : sN U z < 1000000) (k : post (iI (bI (decide (L = M)))) U) : wp_X6_isSame D post U a b := by
  have l1 : L.length < 1000000 := Nat.lt_of_le_of_lt hA.2.1.2.2.2 h1
  have l2 : M.length < 1000000 := Nat.lt_of_le_of_lt hB.2.1.2.2.2 h2
  unfold wp_X6_isSame wp_X6_isSame_0
  refine q_lenB hA ?_
  refine q_lenB hB ?_
  rw [iI_eq (by omega) (by omega) (by omega) (by omega)]
  refine ⟨fun q => ?_, fun q => ?_⟩
  · have ql : L.length = M.length := by omega
    have loop : ∀ (n d j : Nat), d < n → j + d = L.length → (∀ i, i < j → L.getD i 0 = M.getD i 0) → wp_X6_isSame_15 D post n U a b (iI j) := by
      intro n
      induction n with
      | zero => intro d j hd; omega
      | succ n ih =>
        intro d j hd hj hp
        unfold wp_X6_isSame_15
        refine q_lenB hA ?_
        rw [iI_le (by omega) (by omega) (by omega) (by omega)]
        have fin : (∀ i, i < L.length → L.getD i 0 = M.getD i 0) → wp_X6_isSame_52 D post U := fun e => by
          have : L = M := List.ext_getElem ql fun i x1 x2 => by
            have := e i x1
            rwa [List.getD_eq_getElem?_getD, List.getD_eq_getElem?_getD, List.getElem?_eq_getElem x1, List.getElem?_eq_getElem x2] at this
          rw [decide_eq_true this] at k
          exact ⟨rfl, k⟩
        refine ⟨fun q1 => fin fun i hi => hp i (by omega), fun q1 => ?_⟩
        refine q_lenB hB ?_
        rw [iI_le (by omega) (by omega) (by omega) (by omega)]
        refine ⟨fun q2 => absurd q1 (by omega), fun _ => ?_⟩
        refine q_charB hA h1 (by omega) ?_
        refine q_charB hB h2 (by omega) ?_
        have r1 := getD_b hA.2.2.2.2.1 (j := (j : Int).toNat) (by omega)
        have r2 := getD_b hB.2.2.2.2.1 (j := (j : Int).toNat) (by omega)
        rw [iI_eq (by omega) (by omega) (by omega) (by omega)]
        rw [Int.toNat_natCast]
        refine ⟨fun q3 x e => ?_, fun q3 => ⟨rfl, ?_⟩⟩
        · rw [e, show (1 : Int32) = iI 1 from rfl, iI_add]
          cases d with
          | zero => omega
          | succ d => exact ih d (j + 1) (by omega) (by omega) fun i hi => by
                        by_cases e : i = j
                        · rw [e]; exact q3
                        · exact hp i (by omega)
        · have : L ≠ M := fun e => q3 (by rw [e])
          rw [decide_eq_false this] at k
          exact k
    exact ⟨L.length + 1, loop (L.length + 1) L.length 0 (by omega) (by omega) fun i hi => by omega⟩
  · have : L ≠ M := fun e => q (by rw [e])
    rw [decide_eq_false this] at k
    exact ⟨rfl, k⟩
theorem q_isPassingSound (h : CC D S o) (hB : BG c F R) {p : Nat} (hp : isP p) (hv : okV F R v) (hb : brd F R v) (hA : PAt c p v) (k : post (iI (bI (pasB F R v))) (cS S o c)) : wp_X6_isPassingSound D post (cS S o c) (o 28) (o p) := by
  have hm := hB.m
  have h4 := hB.2.1.1; have h8 := hB.2.1.2.1; have r4 := hB.2.1.2.2.1; have r8 := hB.2.1.2.2.2
  have hs := hv.2.1
  have h66 := hv.2.2.2
  unfold wp_X6_isPassingSound wp_X6_isPassingSound_0
  have e7 : sI (cS S o c) (o p) 7 = iI (v 66) := by rw [c_i0 h hp.1, show c.1 p ((7 : Nat) : Int) = v 66 from hA.2.2.2.2.2.2]
  have e5 : sI (cS S o c) (o p) 5 = iI (v 64) := by rw [c_i0 h hp.1, show c.1 p ((5 : Nat) : Int) = v 64 from hA.2.2.2.2.1]
  have o1 : sR (cS S o c) (o 28) 0 = some (o 1) ∧ wM D (cS S o c) (o 1) ∧ sK (cS S o c) (o 1) = 5 := ⟨c_r h rfl, (c_m h (by decide)).mpr trivial, c_k h (by decide)⟩
  have eF : sI (cS S o c) (o 1) 0 = iI F := by rw [c_i0 h (by decide), show c.1 1 ((0 : Nat) : Int) = F from hB.1.1]
  have eR : sI (cS S o c) (o 1) 1 = iI R := by rw [c_i0 h (by decide), show c.1 1 ((1 : Nat) : Int) = R from hB.1.2.1]
  intro x1 ex1
  rw [ex1, e7, e5, show (-1 : Int32) = iI (-1) from rfl, show (0 : Int32) = iI 0 from rfl, iI_eq (by omega) (by omega) (by decide) (by decide), iI_eq (by omega) (by omega) (by decide) (by decide)]
  unfold pasB at k
  by_cases q : v 66 = -1
  · rw [decide_eq_true q, Bool.true_or] at k
    exact ⟨fun q' => absurd q q', fun _ => ⟨rfl, k⟩⟩
  refine ⟨fun _ => ?_, fun q' => absurd q' q⟩
  have sq : 0 ≤ v 66 ∧ v 66 < F * R := by omega
  rw [decide_eq_false q, Bool.false_or] at k
  have rr : 0 ≤ v 66 / F ∧ v 66 / F ≤ v 66 := ⟨Int.ediv_nonneg (by omega) (by omega), Int.ediv_le_self _ (by omega)⟩
  have dm := Int.emod_add_mul_ediv (v 66) F
  have md : 0 ≤ v 66 % F ∧ v 66 % F < F := ⟨Int.emod_nonneg _ (by omega), Int.emod_lt_of_pos _ (by omega)⟩
  have no : ∀ (b : Bool), post (iI (bI b)) (cS S o c) → b = false → wp_X6_isPassingSound_172 D post (cS S o c) := fun b kk e => by
    unfold wp_X6_isPassingSound_172 wp_X6_isPassingSound_173
    rw [e] at kk; exact ⟨rfl, kk⟩
  have no5 : ∀ (b : Bool), post (iI (bI b)) (cS S o c) → b = false → wp_X6_isPassingSound_65 D post (cS S o c) := fun b kk e => by
    unfold wp_X6_isPassingSound_65
    rw [e] at kk; exact ⟨rfl, kk⟩
  have g24 : ∀ (i : Int), i = v 64 → wp_X6_isPassingSound_24 D post (cS S o c) (o 28) (o p) (iI (v 66)) (iI (1 - i)) := fun i hi => by
    unfold wp_X6_isPassingSound_24
    refine ⟨o 1, o1.1, o1.2.1, o1.2.2, ?_⟩
    rw [eR, show (6 : Int32) = iI 6 from rfl, iI_lt (by omega) (by omega) (by decide) (by decide)]
    refine ⟨fun q1 => no5 _ k (by rw [decide_eq_true q1]; simp), fun q1 => ?_⟩
    refine ⟨o 1, o1.1, o1.2.1, o1.2.2, q_rankAt h hB sq ?_⟩
    have up : upB (1 - v 64) = if 1 - i = 0 then -1 else 1 := by unfold upB; split <;> split <;> omega
    have fi : firstB R (1 - v 64) + 2 * upB (1 - v 64) = if 1 - i = 0 then R - 3 else 2 := by rw [up]; unfold firstB; split <;> split <;> omega
    rw [fi, up] at k
    have g89 : v 66 / F = (if 1 - i = 0 then R - 3 else 2) → wp_X6_isPassingSound_89 D post (cS S o c) (o 28) (o p) (iI (v 66)) (iI (1 - i)) (iI ((if 1 - i = 0 then -1 else 1) * F)) := fun q2 => by
      rw [decide_eq_true q2, decide_eq_false q1] at k
      have r1 : (if 1 - i = 0 then R - 3 else 2 : Int) - 1 ≤ R - 1 - 1 ∧ 2 ≤ (if 1 - i = 0 then R - 3 else 2 : Int) ∧ (if 1 - i = 0 then R - 3 else 2 : Int) ≤ R - 3 := by split <;> omega
      have f2 : F * 2 ≤ F * (v 66 / F) := Int.mul_le_mul_of_nonneg_left (by omega) (by omega)
      have f3 : F * (v 66 / F) ≤ F * (R - 3) := Int.mul_le_mul_of_nonneg_left (by omega) (by omega)
      rw [Int.mul_sub] at f3
      have hu : (if 1 - i = 0 then -1 else 1 : Int) = 1 ∨ (if 1 - i = 0 then -1 else 1 : Int) = -1 := by split <;> omega
      have pc : pieceOfB 6 (1 - v 64) = if 1 - i = 0 then 12 else 6 := by unfold pieceOfB; split <;> split <;> omega
      rw [pc] at k
      have i01 : i = 0 ∨ i = 1 := by omega
      generalize (if 1 - i = 0 then -1 else 1 : Int) = u at k hu ⊢
      have uF : u * F = F ∨ u * F = -F := by rcases hu with rfl | rfl <;> omega
      generalize u * F = t at k uF ⊢
      unfold wp_X6_isPassingSound_89
      rw [show (6 : Int32) = iI 6 from rfl, q_ofKind h hp hv.1 hA (by decide), e5, q_ofSide h hp hv.1 hA (by omega)]
      intro x5 ex5
      rw [q_pieceOn h hp hv.1 hA (by omega)]
      have z1 := hv.1 (v 66) sq.1 (by omega)
      have z2 := hv.1 (v 66 - t) (by omega) (by omega)
      have z3 := hv.1 (v 66 + t) (by omega) (by omega)
      rw [show (0 : Int32) = iI 0 from rfl, iI_eq (by omega) (by omega) (by decide) (by decide)]
      refine ⟨fun q3 => no _ k (by rw [decide_eq_false q3]; simp), fun q3 => ?_⟩
      rw [iI_sub, q_pieceOn h hp hv.1 hA (by omega), iI_eq (by omega) (by omega) (by decide) (by decide)]
      refine ⟨fun q4 => no _ k (by rw [decide_eq_false q4]; simp), fun q4 => ?_⟩
      rw [iI_add, q_pieceOn h hp hv.1 hA (by omega), iI_eq (by omega) (by omega) (by decide) (by decide)]
      rw [decide_eq_true q3, decide_eq_true q4] at k
      have g146 : ∀ x : Int, 0 ≤ x ∧ x ≤ 12 → post (iI (bI (decide (v (v 66 + t) = x) && besideB F v (v 66 + t) (pieceOfB 6 (1 - (1 - v 64)))))) (cS S o c) → wp_X6_isPassingSound_146 D post (cS S o c) (o 28) (iI (v 66)) (iI t) x5 (iI (v (v 66 + t))) (iI x) := fun x hx kk => by
        unfold wp_X6_isPassingSound_146
        rw [iI_eq (by omega) (by omega) (by omega) (by omega)]
        refine ⟨fun q5 => no _ kk (by rw [decide_eq_false q5]; rfl), fun q5 => ?_⟩
        refine ⟨o 1, o1.1, o1.2.1, o1.2.2, ?_⟩
        rw [iI_add]
        rw [q_besidesOf h hB (by omega)]
        rw [decide_eq_true q5, Bool.true_and, show 1 - (1 - v 64) = v 64 by omega] at kk
        have bz := beside_set (w := v) (s := v 64) (b := v 66 + t) hB hv.1 hb (by omega) (by omega)
        rw [show (0 : Int32) = iI 0 from rfl, lgz, ex5, bz]
        cases hq : besideB F v (v 66 + t) (pieceOfB 6 (v 64)) with
        | false => exact ⟨fun _ => no _ kk hq, fun q6 => absurd rfl q6⟩
        | true =>
          rw [hq] at kk
          exact ⟨fun q6 => absurd q6 (by decide), fun _ => ⟨rfl, kk⟩⟩
      refine ⟨fun q5 => g146 12 (by decide) ?_, fun q5 => g146 6 (by decide) ?_⟩
      · have : 1 - i = 0 := q5
        rw [if_pos this] at k
        simpa using k
      · have : ¬ 1 - i = 0 := q5
        rw [if_neg this] at k
        simpa using k
    have g62 : ∀ x : Int, x = (if 1 - i = 0 then R - 3 else 2) → wp_X6_isPassingSound_62 D post (cS S o c) (o 28) (o p) (iI (v 66)) (iI (1 - i)) (iI (v 66 / F)) (iI x) := fun x hx => by
      unfold wp_X6_isPassingSound_62
      rw [iI_eq (by omega) (by omega) (by split at hx <;> omega) (by split at hx <;> omega)]
      refine ⟨fun q2 => ?_, fun q2 => no5 _ k (by rw [decide_eq_false (p := v 66 / F = if 1 - i = 0 then R - 3 else 2) (by rw [← hx]; exact q2)]; simp)⟩
      have g := g89 (by rw [← hx]; exact q2)
      rw [show (0 : Int32) = iI 0 from rfl, iI_eq (by omega) (by omega) (by decide) (by decide)]
      refine ⟨fun q3 => ⟨o 1, o1.1, o1.2.1, o1.2.2, ?_⟩, fun q3 => ⟨o 1, o1.1, o1.2.1, o1.2.2, ?_⟩⟩
      · rw [if_pos q3] at g
        rw [eF, iI_neg]
        rw [show (-1 : Int) * F = -F by omega] at g
        exact g
      · rw [if_neg q3, Int.one_mul] at g
        rw [eF]
        exact g
    rw [show (0 : Int32) = iI 0 from rfl, iI_eq (by omega) (by omega) (by decide) (by decide)]
    refine ⟨fun q2 => ⟨o 1, o1.1, o1.2.1, o1.2.2, ?_⟩, fun q2 => g62 2 (by rw [if_neg q2])⟩
    rw [eR, show (3 : Int32) = iI 3 from rfl, iI_sub]
    exact g62 (R - 3) (by rw [if_pos q2])
  refine ⟨fun q1 => ?_, fun q1 => ?_⟩
  · have := g24 1 (by omega)
    exact this
  · have := g24 0 (by omega)
    exact this
end
