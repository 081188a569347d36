section
variable {F R kd : Int}
theorem near_symm (F a b : Int) : nearB F a b = nearB F b a := by
  have d : ∀ x y : Int, dist x y = dist y x := fun x y => by unfold dist; split <;> split <;> omega
  unfold nearB
  rw [d (a % F), d (a / F)]
theorem fr_ext {F a b : Int} (h1 : a % F = b % F) (h2 : a / F = b / F) : a = b := by
  have e1 := Int.mul_ediv_add_emod a F
  have e2 := Int.mul_ediv_add_emod b F
  rw [h1, h2] at e1
  omega
theorem kg_iff (b : BFR F R) {a t : Int} (ht : 0 ≤ t ∧ t < F * R) : kgS F R a t = (nearB F a t && !decide (t = a)) := by
  unfold kgS reachC
  rw [if_pos rfl, kstep_iff b.1.1 b.1.2 b.2.1 b.2.2 ht.1, decide_eq_true ht.2, Bool.true_and]
  unfold nearB
  congr 1
  by_cases c : t = a
  · rw [c, decide_eq_true rfl]
    have : ∀ x : Int, dist x x = 0 := fun x => by unfold dist; split <;> omega
    rw [this, this]; rfl
  · rw [decide_eq_false c, Bool.not_false, decide_eq_true_eq]
    have d0 : ∀ x y : Int, 0 ≤ dist x y ∧ (dist x y = 0 → x = y) := fun x y => by unfold dist; split <;> omega
    have h1 := d0 (a % F) (t % F)
    have h2 := d0 (a / F) (t / F)
    by_cases z : dist (a % F) (t % F) = 0 ∧ dist (a / F) (t / F) = 0
    · exact absurd (fr_ext (h1.2 z.1) (h2.2 z.2)).symm c
    · omega
theorem neL_clear (w b st : Int) : ∀ (d : Nat) (k : Int), clearL (fun k => if (decide (k = w) || decide (k = b)) = true then 1 else 0) k st d = (neL w k st d && neL b k st d)
  | 0, k => rfl
  | d + 1, k => by
    unfold clearL neL
    rw [neL_clear w b st d (k + st)]
    by_cases c : k = w <;> by_cases e : k = b <;> simp [c, e]
theorem lineK_2 (F a b : Int) : lineK 2 (dist (a % F) (b % F)) (dist (a / F) (b / F)) = (lineB F true a b || lineB F false a b) := by
  unfold lineK lineB; simp
theorem lineK_3 (F a b : Int) : lineK 3 (dist (a % F) (b % F)) (dist (a / F) (b / F)) = lineB F true a b := by
  unfold lineK lineB; simp
theorem lineK_4 (F a b : Int) : lineK 4 (dist (a % F) (b % F)) (dist (a / F) (b / F)) = lineB F false a b := by
  unfold lineK lineB; simp
theorem strk_free {kd a b w q : Int} (hk : kd ≠ 5) : (strkB F kd a b w && freeB F kd a b q) = (lineK kd (dist (a % F) (b % F)) (dist (a / F) (b / F)) && clearO F (fun k => decide (k = w) || decide (k = q)) a b) := by
  unfold freeB strkB
  rw [if_neg hk, decide_eq_false hk, Bool.false_or, if_neg hk]
  unfold clearO clearB
  rw [neL_clear]
  cases lineK kd (dist (a % F) (b % F)) (dist (a / F) (b / F)) <;> simp
/-- the class's reach of the piece is the reference's -/
theorem pc_iff (b : BFR F R) (hk : 2 ≤ kd ∧ kd ≤ 5) {w q p t : Int} (hp : 0 ≤ p ∧ p < F * R) (ht : 0 ≤ t ∧ t < F * R) : pcS F R kd w q p t = (strkB F kd p t w && freeB F kd p t q) := by
  have hn := FR_r b.1.1 b.1.2 b.2.1 b.2.2
  have ht64 : 0 ≤ t ∧ t < 64 := by omega
  unfold pcS reachC
  rcases (show kd = 2 ∨ kd = 3 ∨ kd = 4 ∨ kd = 5 by omega) with rfl | rfl | rfl | rfl
  · rw [if_neg (by decide), if_pos rfl, slide_iff b.1.1 b.1.2 b.2.1 b.2.2 hn.2 hp ht64, slide_iff b.1.1 b.1.2 b.2.1 b.2.2 hn.2 hp ht64, decide_eq_true ht.2, Bool.true_and, Bool.true_and, strk_free (by decide), lineK_2, Bool.and_or_distrib_right]
  · rw [if_neg (by decide), if_neg (by decide), if_pos rfl, slide_iff b.1.1 b.1.2 b.2.1 b.2.2 hn.2 hp ht64, decide_eq_true ht.2, Bool.true_and, strk_free (by decide), lineK_3]
  · rw [if_neg (by decide), if_neg (by decide), if_neg (by decide), if_pos rfl, slide_iff b.1.1 b.1.2 b.2.1 b.2.2 hn.2 hp ht64, decide_eq_true ht.2, Bool.true_and, strk_free (by decide), lineK_4]
  · rw [if_neg (by decide), if_neg (by decide), if_neg (by decide), if_neg (by decide), if_pos rfl, nstep_iff b.1.1 b.1.2 b.2.1 b.2.2 ht.1, decide_eq_true ht.2, Bool.true_and]
    unfold strkB freeB
    rw [if_pos rfl, decide_eq_true rfl, Bool.true_or, Bool.and_true]
theorem pc_symm (b : BFR F R) (hk : 2 ≤ kd ∧ kd ≤ 5) {w q p t : Int} (hp : 0 ≤ p ∧ p < F * R) (ht : 0 ≤ t ∧ t < F * R) : pcS F R kd w q p t = pcS F R kd w q t p := by
  have L : ∀ st : Bool, (lineB F st p t && clearO F (fun k => decide (k = w) || decide (k = q)) p t) = (lineB F st t p && clearO F (fun k => decide (k = w) || decide (k = q)) t p) := fun st => by
    rw [line_symm F st t p]
    cases hl : lineB F st p t
    · rfl
    · rw [clear_symm hl]
  rw [pc_iff b hk hp ht, pc_iff b hk ht hp]
  rcases (show kd = 2 ∨ kd = 3 ∨ kd = 4 ∨ kd = 5 by omega) with rfl | rfl | rfl | rfl
  · rw [strk_free (by decide), strk_free (by decide), lineK_2, lineK_2, Bool.and_or_distrib_right, Bool.and_or_distrib_right, L, L]
  · rw [strk_free (by decide), strk_free (by decide), lineK_3, lineK_3, L]
  · rw [strk_free (by decide), strk_free (by decide), lineK_4, lineK_4, L]
  · have d : ∀ x y : Int, dist x y = dist y x := fun x y => by unfold dist; split <;> split <;> omega
    unfold strkB freeB
    rw [if_pos rfl, if_pos rfl, d (p % F), d (p / F), decide_eq_true rfl, Bool.true_or, Bool.true_or]
theorem neL_true {kg st : Int} : ∀ (d : Nat) (k : Int), (∀ j : Nat, j < d → k + j * st ≠ kg) → neL kg k st d = true
  | 0, k, _ => rfl
  | d + 1, k, h => by
    unfold neL
    have h0 := h 0 (by omega)
    rw [show ((0 : Nat) : Int) * st = 0 by simp, Int.add_zero] at h0
    rw [decide_eq_false h0, neL_true d (k + st) fun j hj => by
      have := h (j + 1) (by omega)
      rw [show ((j + 1 : Nat) : Int) * st = (j : Int) * st + st by rw [Int.natCast_add, Int.add_mul]; simp] at this
      omega]
    rfl
/-- what stands on the square itself isn't in the way -/
theorem free_self (b : BFR F R) {p t : Int} (hp : 0 ≤ p ∧ p < F * R) (ht : 0 ≤ t ∧ t < F * R) {w : Int} (h : strkB F kd p t w = true) : freeB F kd p t t = true := by
  have hn := FR_r b.1.1 b.1.2 b.2.1 b.2.2
  unfold freeB
  by_cases c : kd = 5
  · rw [decide_eq_true c]; rfl
  · rw [decide_eq_false c, Bool.false_or]
    unfold strkB at h ⊢
    rw [if_neg c, Bool.and_eq_true] at h ⊢
    refine ⟨h.1, ?_⟩
    have hl := h.1
    have d0 : ∀ x y : Int, 0 ≤ dist x y ∧ (dist x y = 0 → x = y) := fun x y => by unfold dist; split <;> omega
    have h1 := d0 (p % F) (t % F)
    have h2 := d0 (p / F) (t / F)
    have hne : p ≠ t := fun z => by
      rw [z] at hl
      have : ∀ x : Int, dist x x = 0 := fun x => by unfold dist; split <;> omega
      unfold lineK at hl
      rw [this, this] at hl
      simp at hl
    have al : t % F = p % F ∨ t / F = p / F ∨ t % F - p % F = t / F - p / F ∨ t % F - p % F = p / F - t / F := by
      unfold lineK at hl
      simp only [Bool.or_eq_true, Bool.and_eq_true, decide_eq_true_eq] at hl
      have two : dist (p % F) (t % F) * dist (p / F) (t / F) = 0 ∨ dist (p % F) (t % F) = dist (p / F) (t / F) := by
        rcases hl with (⟨-, z | z⟩ | ⟨-, z⟩) | ⟨-, z⟩
        · exact .inl z.1
        · exact .inr z.1
        · exact .inl z.1
        · exact .inr z.1
      rcases two with z | z
      · rcases Int.mul_eq_zero.mp z with z | z
        · exact .inl (h1.2 z).symm
        · exact .inr (.inl (h2.2 z).symm)
      · unfold dist at z
        split at z <;> split at z <;> omega
    obtain ⟨g1, -, g3, -⟩ := clear_geo b.1.1 b.1.2 ⟨hp.1, by omega⟩ ⟨ht.1, by omega⟩ hne al
    refine neL_true _ _ fun j hj z => ?_
    generalize stepOf F (t % F - p % F) (t / F - p / F) = st at *
    generalize farOf (t % F - p % F) (t / F - p / F) - 1 = d at *
    have : ((d : Int) - (j : Int)) * st = 0 := by rw [Int.sub_mul]; omega
    rcases Int.mul_eq_zero.mp this with y | y
    · omega
    · exact g3 y
theorem pc_check (b : BFR F R) (hk : 2 ≤ kd ∧ kd ≤ 5) {w q p : Int} (hp : 0 ≤ p ∧ p < F * R) (hq : 0 ≤ q ∧ q < F * R) : pcS F R kd w q p q = strkB F kd p q w := by
  rw [pc_iff b hk hp hq]
  cases h : strkB F kd p q w
  · rfl
  · rw [free_self b hp hq h]; rfl
theorem apt_1 (b : BFR F R) {w q p : Int} (hq : 0 ≤ q ∧ q < F * R) : aptB F R w q p = ofEnd F kd 1 w q p := by
  unfold aptB ofEnd
  rw [kg_iff b hq, decide_eq_true (rfl : (1 : Int) = 1), Bool.true_or, Bool.and_true]
  by_cases c : w = q
  · rw [decide_eq_true c]; rfl
  · have c' : q ≠ w := fun z => c z.symm
    rw [decide_eq_false c', Bool.not_false, Bool.and_true]
theorem apt_0 (b : BFR F R) (hk : 2 ≤ kd ∧ kd ≤ 5) {w q p : Int} (hp : 0 ≤ p ∧ p < F * R) (hq : 0 ≤ q ∧ q < F * R) : (aptB F R w q p && !pcS F R kd w q p q) = ofEnd F kd 0 w q p := by
  rw [apt_1 (kd := kd) b hq, pc_check b hk hp hq]
  unfold ofEnd
  rw [decide_eq_true (rfl : (1 : Int) = 1), Bool.true_or, Bool.and_true, decide_eq_false (show ¬ (0 : Int) = 1 by decide), Bool.false_or]
end
