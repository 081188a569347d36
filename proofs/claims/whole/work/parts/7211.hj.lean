def toY (R its y : Int) : Int := if its = 1 then y + (8 - R) else 7 - y
def ofY (R its y : Int) : Int := if its = 1 then y - (8 - R) else 7 - y
theorem ofY_toY (R its y : Int) : ofY R its (toY R its y) = y := by unfold ofY toY; split <;> omega
theorem toY_r {R its y : Int} (h4 : 4 ≤ R) (h8 : R ≤ 8) (h : 0 ≤ y ∧ y < R) : 0 ≤ toY R its y ∧ toY R its y < 8 := by unfold toY; split <;> omega
def cd8 (x y : Int) : Nat := (8 * y + x).toNat
theorem cd8_x {x y : Int} (hx : 0 ≤ x ∧ x < 8) (hy : 0 ≤ y ∧ y < 8) : ((cd8 x y % 8 : Nat) : Int) = x := by unfold cd8; omega
theorem cd8_y {x y : Int} (hx : 0 ≤ x ∧ x < 8) (hy : 0 ≤ y ∧ y < 8) : ((cd8 x y / 8 : Nat) : Int) = y := by unfold cd8; omega
theorem cd8_l {x y : Int} (hx : 0 ≤ x ∧ x < 8) (hy : 0 ≤ y ∧ y < 8) : cd8 x y < 64 := by unfold cd8; omega
/-- the kind of a square, for the counting -/
def typA (v : Int → Int) (a : Int) : Nat :=
  if v a = 0 then (if a = v 66 then 1 else 0) else if isOfB (v a) (v 64) = true then (if kindO (v a) = 2 ∨ kindO (v a) = 3 ∨ kindO (v a) = 4 then 2 else if kindO (v a) = 6 then 4 else 3) else 1
def bk8 (F R its : Int) (s : Nat) : Int := F * ofY R its ((s / 8 : Nat) : Int) + ((s % 8 : Nat) : Int)
def typF (F R : Int) (v : Int → Int) (s : Nat) : Nat :=
  if ((s % 8 : Nat) : Int) < F ∧ 0 ≤ ofY R (v 64) ((s / 8 : Nat) : Int) ∧ ofY R (v 64) ((s / 8 : Nat) : Int) < R then typA v (bk8 F R (v 64) s) else 3
def s8F (F R its a : Int) : Nat := cd8 (a % F) (toY R its (a / F))
theorem fr_of {F R a : Int} (h4 : 4 ≤ F) (ha : 0 ≤ a ∧ a < F * R) : (0 ≤ a % F ∧ a % F < F) ∧ (0 ≤ a / F ∧ a / F < R) ∧ F * (a / F) + a % F = a := by
  have e := Int.mul_ediv_add_emod a F
  refine ⟨⟨Int.emod_nonneg _ (by omega), Int.emod_lt_of_pos _ (by omega)⟩, ⟨Int.ediv_nonneg ha.1 (by omega), ?_⟩, e⟩
  exact Int.ediv_lt_of_lt_mul (by omega) (by rw [Int.mul_comm]; exact ha.2)
theorem typ_s8 {F R a : Int} (v : Int → Int) (h4 : 4 ≤ F) (h8 : F ≤ 8) (r4 : 4 ≤ R) (r8 : R ≤ 8) (ha : 0 ≤ a ∧ a < F * R) :
    s8F F R (v 64) a < 64 ∧ bk8 F R (v 64) (s8F F R (v 64) a) = a ∧ typF F R v (s8F F R (v 64) a) = typA v a := by
  obtain ⟨hx, hy, e⟩ := fr_of h4 ha
  have hY := toY_r (its := v 64) r4 r8 hy
  have hX : 0 ≤ a % F ∧ a % F < 8 := by omega
  have e1 : bk8 F R (v 64) (s8F F R (v 64) a) = a := by
    unfold bk8 s8F
    rw [cd8_x hX hY, cd8_y hX hY, ofY_toY]
    exact e
  refine ⟨cd8_l hX hY, e1, ?_⟩
  unfold typF
  rw [e1]
  unfold s8F
  rw [cd8_x hX hY, cd8_y hX hY, ofY_toY, if_pos ⟨hx.2, hy.1, hy.2⟩]
theorem typA_5 (v : Int → Int) (a : Int) : typA v a < 5 := by unfold typA; split <;> (try split) <;> (try split) <;> (try split) <;> omega
theorem typF_5 (F R : Int) (v : Int → Int) (s : Nat) : typF F R v s < 5 := by unfold typF; split; exact typA_5 _ _; omega
theorem typF_4 {F R : Int} {v : Int → Int} (h4 : 4 ≤ F) (r4 : 4 ≤ R) (r8 : R ≤ 8) (hs : v 64 = 0 ∨ v 64 = 1) (hp : allL (pawnFree F R v) 0 F.toNat = true) {s : Nat} (hs64 : s < 64) (h : typF F R v s = 4) : 1 ≤ s / 8 ∧ s / 8 ≤ 6 := by
  unfold typF at h
  split at h
  · rename_i c
    have hk : kindO (v (bk8 F R (v 64) s)) = 6 := by
      unfold typA at h
      split at h
      · split at h <;> omega
      · split at h
        · split at h
          · omega
          · split at h
            · assumption
            · omega
        · omega
    rw [allL_iff] at hp
    have p := hp ((s % 8 : Nat) : Int) (by omega) (by omega)
    unfold pawnFree at p
    simp only [Bool.and_eq_true, Bool.not_eq_true', decide_eq_false_iff_not] at p
    have g1 : ofY R (v 64) ((s / 8 : Nat) : Int) ≠ 0 := by
      intro z
      apply p.1
      have : bk8 F R (v 64) s = ((s % 8 : Nat) : Int) := by unfold bk8; rw [z]; omega
      rw [← this]; exact hk
    have g2 : ofY R (v 64) ((s / 8 : Nat) : Int) ≠ R - 1 := by
      intro z
      apply p.2
      have : bk8 F R (v 64) s = F * (R - 1) + ((s % 8 : Nat) : Int) := by unfold bk8; rw [z]
      rw [← this]; exact hk
    unfold ofY at g1 g2 c
    rcases hs with z | z <;> simp only [z] at g1 g2 c <;> simp at g1 g2 c <;> omega
  · omega
theorem sm_inj (ψ : Nat → Int) {f g : Nat → Nat} {n : Nat} (h : ∀ j, j < n → f j = 0 ∨ ∃ s, s < 64 ∧ ψ s = (j : Int) ∧ f j ≤ g s) : sm f n ≤ sm g 64 := by
  have a1 : ∀ (k : Nat) (c : Int) (w : Nat), sm (fun j => if c = (j : Int) then w else 0) k ≤ w := by
    intro k c w
    have : ∀ k : Nat, sm (fun j => if c = (j : Int) then w else 0) k = if 0 ≤ c ∧ c < k then w else 0 := by
      intro k
      induction k with
      | zero => rw [if_neg (by omega)]; rfl
      | succ k ih =>
        unfold sm
        rw [ih]
        by_cases z : c = (k : Int)
        · rw [if_pos z, if_neg (by omega), if_pos (by omega)]; omega
        · rw [if_neg z]
          by_cases y : 0 ≤ c ∧ c < k
          · rw [if_pos y, if_pos (by omega)]; omega
          · rw [if_neg y, if_neg (by omega)]
    rw [this]; split <;> omega
  have a2 : ∀ (k : Nat) (u : Nat → Nat) (s : Nat), s < k → u s ≤ sm u k := by
    intro k
    induction k with
    | zero => intro u s z; omega
    | succ k ih =>
      intro u s z
      unfold sm
      by_cases y : s = k
      · rw [y]; omega
      · have := ih u s (by omega); omega
  have b1 : sm f n ≤ sm (fun j => sm (fun s => if ψ s = (j : Int) then g s else 0) 64) n := by
    apply sm_le
    intro j hj
    rcases h j hj with z | ⟨s, z1, z2, z3⟩
    · omega
    · have := a2 64 (fun s => if ψ s = (j : Int) then g s else 0) s z1
      rw [if_pos z2] at this
      omega
  rw [sm_swap] at b1
  refine Nat.le_trans b1 (sm_le fun s _ => a1 n (ψ s) (g s))
theorem sm_list {f : Nat → Nat} {n : Nat} : ∀ {L : List Int}, (∀ j, j < n → f j = 0 ∨ ((j : Int) ∈ L ∧ f j ≤ 1)) → sm f n ≤ L.length
  | [], h => by
    have : sm f n ≤ sm (fun _ => 0) n := sm_le fun i hi => by rcases h i hi with z | z; omega; exact absurd z.1 (by simp)
    rw [sm_zero] at this
    simpa using this
  | c :: L, h => by
    have e1 : sm f n ≤ sm (fun j => (if c = (j : Int) then 1 else 0) + (if c = (j : Int) then 0 else f j)) n := by
      apply sm_le
      intro j hj
      by_cases z : c = (j : Int)
      · rw [if_pos z, if_pos z]; rcases h j hj with y | y; omega; exact y.2
      · rw [if_neg z, if_neg z]; omega
    rw [sm_add] at e1
    have e2 : sm (fun j => if c = (j : Int) then 0 else f j) n ≤ L.length := by
      apply sm_list
      intro j hj
      by_cases z : c = (j : Int)
      · rw [if_pos z]; exact .inl rfl
      · rw [if_neg z]
        rcases h j hj with y | y
        · exact .inl y
        · refine .inr ⟨?_, y.2⟩
          rcases List.mem_cons.mp y.1 with w | w
          · exact absurd w.symm z
          · exact w
    have e3 : sm (fun j => if c = (j : Int) then 1 else 0) n ≤ 1 := by
      have : ∀ k : Nat, sm (fun j => if c = (j : Int) then 1 else 0) k = if 0 ≤ c ∧ c < k then 1 else 0 := by
        intro k
        induction k with
        | zero => rw [if_neg (by omega)]; rfl
        | succ k ih =>
          unfold sm
          rw [ih]
          by_cases z : c = (k : Int)
          · rw [if_pos z, if_neg (by omega), if_pos (by omega)]
          · rw [if_neg z]
            by_cases y : 0 ≤ c ∧ c < k
            · rw [if_pos y, if_pos (by omega)]
            · rw [if_neg y, if_neg (by omega)]
      rw [this]; split <;> omega
    rw [List.length_cons]
    omega
theorem sm_front (f : Nat → Nat) : ∀ n, sm f (n + 1) = f 0 + sm (fun i => f (i + 1)) n
  | 0 => by simp [sm]
  | n + 1 => by
    rw [show sm f (n + 1 + 1) = sm f (n + 1) + f (n + 1) from rfl, sm_front f n]
    simp only [sm]
    omega
def cstF (F R : Int) (v : Int → Int) (a b : Int) : Nat := if legB F R v a b = true then (bec4 a b (becB F R v a b)).length else 0
theorem mTo_sm (F R : Int) (v : Int → Int) (a : Int) : ∀ (d : Nat) (b : Int), (mTo F R v a b d).length = sm (fun i => cstF F R v a (b + i)) d
  | 0, b => rfl
  | d + 1, b => by
    rw [sm_front, show mTo F R v a b (d + 1) = (if legB F R v a b = true then bec4 a b (becB F R v a b) else []) ++ mTo F R v a (b + 1) d from rfl, List.length_append, mTo_sm F R v a d (b + 1)]
    congr 1
    · unfold cstF; simp only [Int.natCast_zero, Int.add_zero]; split <;> rfl
    · congr 1; funext i; congr 1; omega
theorem mFrom_sm (F R : Int) (v : Int → Int) : ∀ (d : Nat) (a : Int), (mFrom F R v a d).length = sm (fun i => if isOfB (v (a + i)) (v 64) = true then sm (fun j => cstF F R v (a + i) j) (F * R).toNat else 0) d
  | 0, a => rfl
  | d + 1, a => by
    rw [sm_front, show mFrom F R v a (d + 1) = (if isOfB (v a) (v 64) = true then mTo F R v a 0 (F * R).toNat else []) ++ mFrom F R v (a + 1) d from rfl, List.length_append, mFrom_sm F R v d (a + 1)]
    congr 1
    · simp only [Int.natCast_zero, Int.add_zero]
      split
      · rw [mTo_sm]; congr 1; funext i; rw [Int.zero_add]
      · rfl
    · congr 1; funext i
      rw [show a + 1 + (i : Int) = a + ((i + 1 : Nat) : Int) by omega]
/-- a ray's prefix -/
def preL (τ : Nat → Nat) : List Nat → List Nat
  | [] => []
  | x :: c => if τ x ≤ 1 then x :: preL τ c else []
theorem preL_len (τ : Nat → Nat) : ∀ c, (preL τ c).length = pre τ c
  | [] => rfl
  | x :: c => by unfold preL pre; split; rw [List.length_cons, preL_len τ c]; rfl
theorem ray_mem (τ : Nat → Nat) (dx dy : Int) : ∀ (n : Nat) (x y : Int) (k : Nat), k < n → (∀ i : Nat, i ≤ k → (0 ≤ x + dx * (i + 1) ∧ x + dx * (i + 1) < 8 ∧ 0 ≤ y + dy * (i + 1) ∧ y + dy * (i + 1) < 8) ∧ τ (cd8 (x + dx * (i + 1)) (y + dy * (i + 1))) ≤ 1) →
    cd8 (x + dx * (k + 1)) (y + dy * (k + 1)) ∈ preL τ (ray8 x y dx dy n)
  | n + 1, x, y, k, hk, h => by
    have h0 := h 0 (by omega)
    simp only [Int.natCast_zero, Int.zero_add, Int.mul_one] at h0
    unfold ray8
    rw [if_pos h0.1]
    unfold preL
    rw [show (8 * (y + dy) + (x + dx)).toNat = cd8 (x + dx) (y + dy) from rfl, if_pos h0.2]
    cases k with
    | zero =>
      simp only [Int.natCast_zero, Int.zero_add, Int.mul_one]
      exact List.mem_cons_self
    | succ k =>
      refine List.mem_cons_of_mem _ ?_
      have hx : ∀ (z d : Int) (i : Nat), z + d * (((i + 1 : Nat) : Int) + 1) = z + d + d * (i + 1) := by
        intro z d i
        rw [show ((i + 1 : Nat) : Int) = (i : Int) + 1 by omega, Int.mul_add d ((i : Int) + 1) 1, Int.mul_one]
        omega
      rw [hx, hx]
      refine ray_mem τ dx dy n (x + dx) (y + dy) k (by omega) fun i hi => ?_
      have := h (i + 1) (by omega)
      rw [hx, hx] at this
      exact this
