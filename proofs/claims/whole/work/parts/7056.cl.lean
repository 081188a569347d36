/-! PHASE 3, positions laid anew -/
def putP (c : cM) (p : Nat) (v : Int → Int) : cM :=
  (fun n j => if n = p then (if j = 5 then v 64 else if j = 6 then v 65 else if j = 7 then v 66 else c.1 n j) else c.1 n j,
   fun n j => if n = p then (if j = 1 then plW v else if j = 2 then plK v 1 else if j = 3 then plK v 2 else if j = 4 then plK v 4 else c.2 n j) else c.2 n j)
theorem putP_at (c : cM) (p : Nat) (v : Int → Int) : PAt (putP c p v) p v := by
  refine ⟨?_, ?_, ?_, ?_, ?_, ?_, ?_⟩ <;> simp [putP]
theorem putP_1 (c : cM) {p n : Nat} (v : Int → Int) (h : n ≠ p) : (putP c p v).1 n = c.1 n := by funext j; simp [putP, h]
theorem putP_2 (c : cM) {p n : Nat} (v : Int → Int) (h : n ≠ p) : (putP c p v).2 n = c.2 n := by funext j; simp [putP, h]
theorem putP_PAt {c : cM} {p n : Nat} {v w : Int → Int} (h : n ≠ p) (hA : PAt c n w) : PAt (putP c p v) n w := by
  unfold PAt
  rw [putP_1 c v h, putP_2 c v h]
  exact hA
theorem putP_char {c c' : cM} {p : Nat} {w : Int → Int} (hA : PAt c' p w) (h1 : ∀ n j, (n ≠ p ∨ ¬ (j = 5 ∨ j = 6 ∨ j = 7)) → c'.1 n j = c.1 n j) (h2 : ∀ n j, (n ≠ p ∨ ¬ (j = 1 ∨ j = 2 ∨ j = 3 ∨ j = 4)) → c'.2 n j = c.2 n j) : c' = putP c p w := by
  apply Prod.ext
  · funext n j
    simp only [putP]
    by_cases hn : n = p
    · subst hn
      rw [if_pos rfl]
      by_cases h5 : j = 5
      · rw [if_pos h5, h5]; exact hA.2.2.2.2.1
      · rw [if_neg h5]
        by_cases h6 : j = 6
        · rw [if_pos h6, h6]; exact hA.2.2.2.2.2.1
        · rw [if_neg h6]
          by_cases h7 : j = 7
          · rw [if_pos h7, h7]; exact hA.2.2.2.2.2.2
          · rw [if_neg h7]
            exact h1 n j (Or.inr (by rintro (e | e | e) <;> contradiction))
    · rw [if_neg hn]; exact h1 n j (Or.inl hn)
  · funext n j
    simp only [putP]
    by_cases hn : n = p
    · subst hn
      rw [if_pos rfl]
      by_cases g1 : j = 1
      · rw [if_pos g1, g1]; exact hA.1
      · rw [if_neg g1]
        by_cases g2 : j = 2
        · rw [if_pos g2, g2]; exact hA.2.1
        · rw [if_neg g2]
          by_cases g3 : j = 3
          · rw [if_pos g3, g3]; exact hA.2.2.1
          · rw [if_neg g3]
            by_cases g4 : j = 4
            · rw [if_pos g4, g4]; exact hA.2.2.2.1
            · rw [if_neg g4]
              exact h2 n j (Or.inr (by rintro (e | e | e | e) <;> contradiction))
    · rw [if_neg hn]; exact h2 n j (Or.inl hn)
theorem putP_putP (c : cM) (p : Nat) (v w : Int → Int) : putP (putP c p v) p w = putP c p w := by
  refine putP_char (putP_at _ _ _) (fun n j hj => ?_) (fun n j hj => ?_)
  · by_cases hn : n = p
    · have hj : ¬ (j = 5 ∨ j = 6 ∨ j = 7) := hj.resolve_left fun e => e hn
      have a : j ≠ 5 := fun e => hj (Or.inl e)
      have b : j ≠ 6 := fun e => hj (Or.inr (Or.inl e))
      have d : j ≠ 7 := fun e => hj (Or.inr (Or.inr e))
      simp [putP, a, b, d]
    · rw [putP_1 _ _ hn, putP_1 _ _ hn]
  · by_cases hn : n = p
    · have hj : ¬ (j = 1 ∨ j = 2 ∨ j = 3 ∨ j = 4) := hj.resolve_left fun e => e hn
      have a : j ≠ 1 := fun e => hj (Or.inl e)
      have b : j ≠ 2 := fun e => hj (Or.inr (Or.inl e))
      have d : j ≠ 3 := fun e => hj (Or.inr (Or.inr (Or.inl e)))
      have f : j ≠ 4 := fun e => hj (Or.inr (Or.inr (Or.inr e)))
      simp [putP, a, b, d, f]
    · rw [putP_2 _ _ hn, putP_2 _ _ hn]
theorem putP_self {c : cM} {p : Nat} {v : Int → Int} (hA : PAt c p v) : putP c p v = c := (putP_char hA (fun _ _ _ => rfl) (fun _ _ _ => rfl)).symm
theorem plane_up (f : Int → Bool) (v : Int → Int) {q x : Int} : zS (fun k => f (upV v q x k)) = if f x then zS (fun k => f (v k)) ||| zS (fun k => decide (k = q)) else zS (fun k => f (v k)) &&& (zS (fun k => decide (k = q)) ^^^ (-1)) := by
  by_cases hx : f x = true
  · rw [if_pos hx, zS_or]
    refine zS_congr fun k _ _ => ?_
    unfold upV
    by_cases h : k = q
    · rw [if_pos h, hx, decide_eq_true h, Bool.or_true]
    · rw [if_neg h, decide_eq_false h, Bool.or_false]
  · rw [if_neg hx, zS_not, zS_and]
    refine zS_congr fun k _ _ => ?_
    unfold upV
    by_cases h : k = q
    · rw [if_pos h, decide_eq_true h, Bool.not_true, Bool.and_false]; simpa using hx
    · rw [if_neg h, decide_eq_false h, Bool.not_false, Bool.and_true]
theorem cJ_at {c : cM} {n g : Nat} {a j : Int} {z : Int64} : (cJ c n a z).2 g j = if g = n ∧ j = a then z else c.2 g j := rfl
theorem cI_at {c : cM} {n g : Nat} {a j z : Int} : (cI c n a z).1 g j = if g = n ∧ j = a then z else c.1 g j := rfl
section
variable {D : wD} {S : wS} {o : Nat → Nat} {c : cM} {F R : Int} {p : Nat} {v : Int → Int}
theorem put4 (hA : PAt c p v) {w : Int → Int} (h64 : w 64 = v 64) (h65 : w 65 = v 65) (h66 : w 66 = v 66) : cJ (cJ (cJ (cJ c p 1 (plW w)) p 2 (plK w 1)) p 3 (plK w 2)) p 4 (plK w 4) = putP c p w := by
  refine putP_char ⟨?_, ?_, ?_, ?_, ?_, ?_, ?_⟩ (fun _ _ _ => rfl) (fun n j hj => ?_)
  · simp [cJ_at]
  · simp [cJ_at]
  · simp [cJ_at]
  · simp [cJ_at]
  · rw [h64]; exact hA.2.2.2.2.1
  · rw [h65]; exact hA.2.2.2.2.2.1
  · rw [h66]; exact hA.2.2.2.2.2.2
  · simp only [cJ_at]
    rw [if_neg (by rintro ⟨a, b⟩; rcases hj with e | e; exact e a; exact e (by omega)), if_neg (by rintro ⟨a, b⟩; rcases hj with e | e; exact e a; exact e (by omega)), if_neg (by rintro ⟨a, b⟩; rcases hj with e | e; exact e a; exact e (by omega)), if_neg (by rintro ⟨a, b⟩; rcases hj with e | e; exact e a; exact e (by omega))]
theorem c_j1 (h : CC D S o) (hp : cOk p = true) {j : Nat} {g : Int} (e : (j : Int) = g) : sJ (cS S o c) (o p) j = c.2 p g := by rw [c_j0 h hp, e]
theorem c_i1 (h : CC D S o) (hp : cOk p = true) {j : Nat} {g : Int} (e : (j : Int) = g) : sI (cS S o c) (o p) j = iI (c.1 p g) := by rw [c_i0 h hp, e]
theorem c_w1 (h : CC D S o) (hp : cOk p = true) {j : Nat} {g : Int} (e : (j : Int) = g) (z : Int64) : uJ (cS S o c) (o p) j z = cS S o (cJ c p g z) := by rw [c_wj h hp, e]
theorem c_u1 (h : CC D S o) (hp : cOk p = true) {j : Nat} {g : Int} (e : (j : Int) = g) (z : Int) : uI (cS S o c) (o p) j (iI z) = cS S o (cI c p g z) := by rw [c_uj h hp, e]
theorem q_place {post : wS → Prop} (h : CC D S o) (hp : isP p) (hA : PAt c p v) {q x : Int} (hq : 0 ≤ q ∧ q < 64) (hx : 0 ≤ x ∧ x ≤ 12) (k : post (cS S o (putP c p (upV v q x)))) :
    wp_X7_place D post (cS S o c) (o p) (iI q) (iI x) := by
  have e1 := plane_up (fun y => isOfB y 1) v (q := q) (x := x)
  have e2 := plane_up (fun y => decide (kindO y / 1 % 2 = 1)) v (q := q) (x := x)
  have e3 := plane_up (fun y => decide (kindO y / 2 % 2 = 1)) v (q := q) (x := x)
  have e4 := plane_up (fun y => decide (kindO y / 4 % 2 = 1)) v (q := q) (x := x)
  have hx2 := kindO_r hx
  have u64 : upV v q x 64 = v 64 := if_neg (by omega)
  have u65 : upV v q x 65 = v 65 := if_neg (by omega)
  have u66 : upV v q x 66 = v 66 := if_neg (by omega)
  rw [← put4 hA u64 u65 u66] at k
  -- the last steps, by the kind's digits
  have l4 : ∀ c4 : cM, c4.2 p 4 = plK v 4 → post (cS S o (cJ c4 p 4 (plK (upV v q x) 4))) → ((iI (kindO x) &&& (4 : Int32)) = 0 → wp_X7_place_152 D post (cS S o c4) (o p) ((sJ (cS S o c4) (o p) 4) &&& (zS (fun k => decide (k = q)) ^^^ (-1 : Int64)))) ∧ (¬ (iI (kindO x) &&& (4 : Int32)) = 0 → wp_X7_place_152 D post (cS S o c4) (o p) ((sJ (cS S o c4) (o p) 4) ||| zS (fun k => decide (k = q)))) := by
    intro c4 hc hk
    unfold wp_X7_place_152
    have dg : ((iI (kindO x) &&& (4 : Int32)) = 0) = ¬ (decide (kindO x / 4 % 2 = 1) = true) := by
      rcases (show kindO x = 0 ∨ kindO x = 1 ∨ kindO x = 2 ∨ kindO x = 3 ∨ kindO x = 4 ∨ kindO x = 5 ∨ kindO x = 6 by omega) with e | e | e | e | e | e | e <;> rw [e] <;> decide
    rw [dg, c_j1 h hp.1 (show ((4 : Nat) : Int) = 4 from rfl), hc]
    refine ⟨fun hh S1 eS => ?_, fun hh S1 eS => ?_⟩
    · have e4 := e4.trans (if_neg hh)
      rw [eS, c_w1 h hp.1 (show ((4 : Nat) : Int) = 4 from rfl)]
      rw [show plK (upV v q x) 4 = plK v 4 &&& (zS (fun k => decide (k = q)) ^^^ (-1)) from e4] at hk
      exact hk
    · have e4 := e4.trans (if_pos (Classical.not_not.mp hh))
      rw [eS, c_w1 h hp.1 (show ((4 : Nat) : Int) = 4 from rfl)]
      rw [show plK (upV v q x) 4 = plK v 4 ||| zS (fun k => decide (k = q)) from e4] at hk
      exact hk
  have l3 : ∀ c3 : cM, c3.2 p 3 = plK v 2 → c3.2 p 4 = plK v 4 → post (cS S o (cJ (cJ c3 p 3 (plK (upV v q x) 2)) p 4 (plK (upV v q x) 4))) → ((iI (kindO x) &&& (2 : Int32)) = 0 → wp_X7_place_122 D post (cS S o c3) (o p) (zS (fun k => decide (k = q))) (iI (kindO x)) (o p) ((sJ (cS S o c3) (o p) 3) &&& (zS (fun k => decide (k = q)) ^^^ (-1 : Int64)))) ∧ (¬ (iI (kindO x) &&& (2 : Int32)) = 0 → wp_X7_place_122 D post (cS S o c3) (o p) (zS (fun k => decide (k = q))) (iI (kindO x)) (o p) ((sJ (cS S o c3) (o p) 3) ||| zS (fun k => decide (k = q)))) := by
    intro c3 hc hc4 hk
    unfold wp_X7_place_122
    have dg : ((iI (kindO x) &&& (2 : Int32)) = 0) = ¬ (decide (kindO x / 2 % 2 = 1) = true) := by
      rcases (show kindO x = 0 ∨ kindO x = 1 ∨ kindO x = 2 ∨ kindO x = 3 ∨ kindO x = 4 ∨ kindO x = 5 ∨ kindO x = 6 by omega) with e | e | e | e | e | e | e <;> rw [e] <;> decide
    rw [dg, c_j1 h hp.1 (show ((3 : Nat) : Int) = 3 from rfl), hc]
    refine ⟨fun hh S1 eS => ?_, fun hh S1 eS => ?_⟩
    · have e3 := e3.trans (if_neg hh)
      rw [eS, c_w1 h hp.1 (show ((3 : Nat) : Int) = 3 from rfl)]
      rw [show plK (upV v q x) 2 = plK v 2 &&& (zS (fun k => decide (k = q)) ^^^ (-1)) from e3] at hk
      exact l4 _ (by rw [cJ_at, if_neg (by omega)]; exact hc4) hk
    · have e3 := e3.trans (if_pos (Classical.not_not.mp hh))
      rw [eS, c_w1 h hp.1 (show ((3 : Nat) : Int) = 3 from rfl)]
      rw [show plK (upV v q x) 2 = plK v 2 ||| zS (fun k => decide (k = q)) from e3] at hk
      exact l4 _ (by rw [cJ_at, if_neg (by omega)]; exact hc4) hk
  have l2 : ∀ c2 : cM, c2.2 p 2 = plK v 1 → c2.2 p 3 = plK v 2 → c2.2 p 4 = plK v 4 → post (cS S o (cJ (cJ (cJ c2 p 2 (plK (upV v q x) 1)) p 3 (plK (upV v q x) 2)) p 4 (plK (upV v q x) 4))) → ((iI (kindO x) &&& (1 : Int32)) = 0 → wp_X7_place_92 D post (cS S o c2) (o p) (zS (fun k => decide (k = q))) (iI (kindO x)) (o p) ((sJ (cS S o c2) (o p) 2) &&& (zS (fun k => decide (k = q)) ^^^ (-1 : Int64)))) ∧ (¬ (iI (kindO x) &&& (1 : Int32)) = 0 → wp_X7_place_92 D post (cS S o c2) (o p) (zS (fun k => decide (k = q))) (iI (kindO x)) (o p) ((sJ (cS S o c2) (o p) 2) ||| zS (fun k => decide (k = q)))) := by
    intro c2 hc hc3 hc4 hk
    unfold wp_X7_place_92
    have dg : ((iI (kindO x) &&& (1 : Int32)) = 0) = ¬ (decide (kindO x / 1 % 2 = 1) = true) := by
      rcases (show kindO x = 0 ∨ kindO x = 1 ∨ kindO x = 2 ∨ kindO x = 3 ∨ kindO x = 4 ∨ kindO x = 5 ∨ kindO x = 6 by omega) with e | e | e | e | e | e | e <;> rw [e] <;> decide
    rw [dg, c_j1 h hp.1 (show ((2 : Nat) : Int) = 2 from rfl), hc]
    refine ⟨fun hh S1 eS => ?_, fun hh S1 eS => ?_⟩
    · have e2 := e2.trans (if_neg hh)
      rw [eS, c_w1 h hp.1 (show ((2 : Nat) : Int) = 2 from rfl)]
      rw [show plK (upV v q x) 1 = plK v 1 &&& (zS (fun k => decide (k = q)) ^^^ (-1)) from e2] at hk
      exact l3 _ (by rw [cJ_at, if_neg (by omega)]; exact hc3) (by rw [cJ_at, if_neg (by omega)]; exact hc4) hk
    · have e2 := e2.trans (if_pos (Classical.not_not.mp hh))
      rw [eS, c_w1 h hp.1 (show ((2 : Nat) : Int) = 2 from rfl)]
      rw [show plK (upV v q x) 1 = plK v 1 ||| zS (fun k => decide (k = q)) from e2] at hk
      exact l3 _ (by rw [cJ_at, if_neg (by omega)]; exact hc3) (by rw [cJ_at, if_neg (by omega)]; exact hc4) hk
  have l1 : ∀ t : Int32, (t = 0) = ¬ (isOfB x 1 = true) → wp_X7_place_35 D post (cS S o c) (o p) (zS (fun k => decide (k = q))) (iI (kindO x)) t := by
    intro t ht
    unfold wp_X7_place_35 wp_X7_place_62
    rw [ht, c_j1 h hp.1 (show ((1 : Nat) : Int) = 1 from rfl), hA.1]
    refine ⟨fun hh S1 eS => ?_, fun hh S1 eS => ?_⟩
    · have e1 := e1.trans (if_neg hh)
      rw [eS, c_w1 h hp.1 (show ((1 : Nat) : Int) = 1 from rfl)]
      rw [show plW (upV v q x) = plW v &&& (zS (fun k => decide (k = q)) ^^^ (-1)) from e1] at k
      exact l2 _ (by rw [cJ_at, if_neg (by omega)]; exact hA.2.1) (by rw [cJ_at, if_neg (by omega)]; exact hA.2.2.1) (by rw [cJ_at, if_neg (by omega)]; exact hA.2.2.2.1) k
    · have e1 := e1.trans (if_pos (Classical.not_not.mp hh))
      rw [eS, c_w1 h hp.1 (show ((1 : Nat) : Int) = 1 from rfl)]
      rw [show plW (upV v q x) = plW v ||| zS (fun k => decide (k = q)) from e1] at k
      exact l2 _ (by rw [cJ_at, if_neg (by omega)]; exact hA.2.1) (by rw [cJ_at, if_neg (by omega)]; exact hA.2.2.1) (by rw [cJ_at, if_neg (by omega)]; exact hA.2.2.2.1) k
  have at18 : wp_X7_place_18 D post (cS S o c) (o p) (iI x) (zS (fun k => decide (k = q))) (iI (kindO x)) := by
    unfold wp_X7_place_18 wp_X7_place_34
    have g1 : (iI x ≤ 0) = (x ≤ 0) := by rw [show (0 : Int32) = iI 0 from rfl, iI_le (by omega) (by omega) (by decide) (by decide)]
    have g2 : ((6 : Int32) < iI x) = (6 < x) := by rw [show (6 : Int32) = iI 6 from rfl, iI_lt (by decide) (by decide) (by omega) (by omega)]
    rw [g1, g2]
    have ofx : isOfB x 1 = decide (0 < x ∧ x ≤ 6) := by
      rcases kind_cases hx with e | e | e | e | e | e | e | e | e | e | e | e | e <;> rw [e] <;> rfl
    refine ⟨fun hh => l1 0 ?_, fun hh => ⟨fun hh2 => l1 0 ?_, fun hh2 => l1 1 ?_⟩⟩
    · rw [ofx, decide_eq_false (by omega)]; simp
    · rw [ofx, decide_eq_false (by omega)]; simp
    · rw [ofx, decide_eq_true (by omega)]; simp
  unfold wp_X7_place wp_X7_place_0
  intro x1 ex
  rw [zS_one hq] at ex
  rw [ex]
  have g2 : (iI x ≤ (6 : Int32)) = (x ≤ 6) := by rw [show (6 : Int32) = iI 6 from rfl, iI_le (by omega) (by omega) (by decide) (by decide)]
  rw [g2]
  refine ⟨fun hh => ?_, fun hh => ?_⟩
  · rw [show kindO x = x from if_pos hh] at at18
    exact at18
  · rw [show kindO x = x - 6 from if_neg hh] at at18
    rw [show (6 : Int32) = iI 6 from rfl, iI_sub]
    exact at18
end
