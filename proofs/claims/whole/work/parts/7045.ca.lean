/-! PHASE 3, LONGS AS SETS OF SQUARES -/
/-- a bit of a long -/
def zt (z : Int64) (k : Int) : Bool := z.toBitVec.getLsbD k.toNat
def zN (P : Int → Bool) : Nat → Nat
  | 0 => 0
  | n + 1 => zN P n + (if P (n : Int) then 2 ^ n else 0)
theorem zN_lt (P : Int → Bool) : ∀ n, zN P n < 2 ^ n
  | 0 => Nat.one_pos
  | n + 1 => by
    have := zN_lt P n
    unfold zN
    rw [Nat.pow_succ]
    split <;> omega
theorem zN_bit (P : Int → Bool) : ∀ (n k : Nat), (zN P n).testBit k = (decide (k < n) && P (k : Int))
  | 0, k => by simp [zN]
  | n + 1, k => by
    have h1 := zN_bit P n k
    have h2 := zN_lt P n
    unfold zN
    by_cases hP : P (n : Int) = true
    · rw [if_pos hP]
      rcases Nat.lt_trichotomy k n with h | h | h
      · rw [Nat.add_comm, Nat.testBit_two_pow_add_gt h, h1]
        simp [h, Nat.lt_succ_of_lt h]
      · subst h
        rw [Nat.add_comm, Nat.testBit_two_pow_add_eq, h1]
        simp [hP]
      · have : zN P n + 2 ^ n < 2 ^ k := by
          have : 2 ^ (n + 1) ≤ 2 ^ k := Nat.pow_le_pow_right (by decide) h
          rw [Nat.pow_succ] at this
          omega
        rw [Nat.testBit_lt_two_pow this]
        have : ¬ k < n + 1 := by omega
        simp [this]
    · rw [if_neg hP, Nat.add_zero, h1]
      by_cases h : k = n
      · subst h
        have : P (k : Int) = false := by simpa using hP
        simp [this]
      · have : (k < n + 1) = (k < n) := by apply propext; omega
        simp [this]
/-- the long whose bits are those of a set -/
def zS (P : Int → Bool) : Int64 := Int64.ofBitVec (BitVec.ofNat 64 (zN P 64))
theorem zt_S (P : Int → Bool) {k : Int} (h0 : 0 ≤ k) (h1 : k < 64) : zt (zS P) k = P k := by
  unfold zt zS
  show (BitVec.ofNat 64 (zN P 64)).getLsbD k.toNat = P k
  rw [BitVec.getLsbD_ofNat, zN_bit]
  have e : ((k.toNat : Nat) : Int) = k := Int.toNat_of_nonneg h0
  have : k.toNat < 64 := by omega
  simp [this, e]
theorem z_ext {x y : Int64} (h : ∀ k : Int, 0 ≤ k → k < 64 → zt x k = zt y k) : x = y :=
  Int64.toBitVec_inj.mp (BitVec.eq_of_getLsbD_eq (fun i hi => by
    have := h (i : Int) (by omega) (by omega)
    simpa [zt] using this))
theorem zS_eq {x : Int64} {P : Int → Bool} (h : ∀ k : Int, 0 ≤ k → k < 64 → zt x k = P k) : x = zS P :=
  z_ext fun k h0 h1 => by rw [h k h0 h1, zt_S P h0 h1]
theorem zS_congr {P Q : Int → Bool} (h : ∀ k : Int, 0 ≤ k → k < 64 → P k = Q k) : zS P = zS Q :=
  z_ext fun k h0 h1 => by rw [zt_S P h0 h1, zt_S Q h0 h1, h k h0 h1]
theorem zS_inj {P Q : Int → Bool} (h : zS P = zS Q) {k : Int} (h0 : 0 ≤ k) (h1 : k < 64) : P k = Q k := by
  rw [← zt_S P h0 h1, h, zt_S Q h0 h1]
theorem zS_t (z : Int64) : zS (zt z) = z := (zS_eq fun _ _ _ => rfl).symm
theorem zt_and (x y : Int64) (k : Int) : zt (x &&& y) k = (zt x k && zt y k) := by unfold zt; rw [Int64.toBitVec_and, BitVec.getLsbD_and]
theorem zt_or (x y : Int64) (k : Int) : zt (x ||| y) k = (zt x k || zt y k) := by unfold zt; rw [Int64.toBitVec_or, BitVec.getLsbD_or]
theorem zt_xor (x y : Int64) (k : Int) : zt (x ^^^ y) k = (zt x k ^^ zt y k) := by unfold zt; rw [Int64.toBitVec_xor, BitVec.getLsbD_xor]
theorem zt_0 (k : Int) : zt 0 k = false := BitVec.getLsbD_zero
theorem zt_m1 {k : Int} (h0 : 0 ≤ k) (h1 : k < 64) : zt (-1) k = true := by
  have key : ∀ n : Nat, n < 64 → (-1 : Int64).toBitVec.getLsbD n = true := by decide +kernel
  exact key _ (by omega)
theorem zS_and (P Q : Int → Bool) : zS P &&& zS Q = zS (fun k => P k && Q k) := zS_eq fun k h0 h1 => by rw [zt_and, zt_S P h0 h1, zt_S Q h0 h1]
theorem zS_or (P Q : Int → Bool) : zS P ||| zS Q = zS (fun k => P k || Q k) := zS_eq fun k h0 h1 => by rw [zt_or, zt_S P h0 h1, zt_S Q h0 h1]
theorem zS_not (P : Int → Bool) : zS P ^^^ (-1) = zS (fun k => !P k) := zS_eq fun k h0 h1 => by rw [zt_xor, zt_S P h0 h1, zt_m1 h0 h1]; cases P k <;> rfl
theorem zS_f : (0 : Int64) = zS (fun _ => false) := zS_eq fun k _ _ => zt_0 k
theorem zS_0 (P : Int → Bool) : (zS P = 0) = (∀ k : Int, 0 ≤ k → k < 64 → P k = false) := propext
  ⟨fun h k h0 h1 => by rw [← zt_S P h0 h1, h, zt_0], fun h => by rw [zS_f]; exact zS_congr h⟩
theorem zt_one {k : Int} (h0 : 0 ≤ k) (h1 : k < 64) : zt 1 k = decide (k = 0) := by
  have key : ∀ n : Nat, n < 64 → (1 : Int64).toBitVec.getLsbD n = decide (n = 0) := by decide +kernel
  unfold zt
  rw [key _ (by omega)]
  exact decide_eq_decide.mpr (by omega)
theorem z_cs : ∀ n : Nat, n < 64 → (((iI (n : Int)).toInt64 &&& 63).toBitVec.smod 64).toNat = n := by decide +kernel
theorem z_cu : ∀ n : Nat, n < 64 → (((iI (n : Int)).toInt64.toUInt64 &&& Int64.toUInt64 63).toBitVec % 64).toNat = n := by decide +kernel
theorem zt_shl (x : Int64) {n k : Int} (hn : 0 ≤ n ∧ n < 64) (h0 : 0 ≤ k) (h1 : k < 64) : zt (jlshl x (iI n)) k = (decide (n ≤ k) && zt x (k - n)) := by
  obtain ⟨m, rfl⟩ : ∃ m : Nat, n = m := ⟨n.toNat, by omega⟩
  unfold zt jlshl
  rw [Int64.toBitVec_shiftLeft, BitVec.shiftLeft_eq', BitVec.getLsbD_shiftLeft, z_cs m (by omega)]
  have e1 : decide (k.toNat < 64) = true := decide_eq_true (by omega)
  have e2 : (k - (m : Int)).toNat = k.toNat - m := by omega
  rw [e1, e2, Bool.true_and]
  by_cases h : (m : Int) ≤ k
  · rw [decide_eq_false (show ¬ k.toNat < m by omega), decide_eq_true h]; rfl
  · rw [decide_eq_true (show k.toNat < m by omega), decide_eq_false h]; rfl
theorem zt_ushr (x : Int64) {n k : Int} (hn : 0 ≤ n ∧ n < 64) (h0 : 0 ≤ k) : zt (jlushr x (iI n)) k = zt x (n + k) := by
  obtain ⟨m, rfl⟩ : ∃ m : Nat, n = m := ⟨n.toNat, by omega⟩
  unfold zt jlushr
  show ((x.toUInt64 >>> ((iI (m : Int)).toInt64.toUInt64 &&& Int64.toUInt64 63)).toBitVec).getLsbD _ = _
  rw [UInt64.toBitVec_shiftRight, BitVec.ushiftRight_eq', BitVec.getLsbD_ushiftRight, z_cu m (by omega)]
  have e2 : ((m : Int) + k).toNat = m + k.toNat := by omega
  rw [e2]; rfl
theorem zt_big (x : Int64) {k : Int} (h : 64 ≤ k) : zt x k = false := BitVec.getLsbD_of_ge _ _ (by omega)
theorem zS_one {n : Int} (hn : 0 ≤ n ∧ n < 64) : jlshl 1 (iI n) = zS (fun k => decide (k = n)) := zS_eq fun k h0 h1 => by
  rw [zt_shl 1 hn h0 h1]
  by_cases h : n ≤ k
  · rw [zt_one (by omega) (by omega), decide_eq_true h, Bool.true_and]
    exact decide_eq_decide.mpr (by omega)
  · rw [decide_eq_false h, decide_eq_false (by omega)]; rfl
theorem zS_bit (P : Int → Bool) {n : Int} (hn : 0 ≤ n ∧ n < 64) : jlushr (zS P) (iI n) &&& 1 = if P n then 1 else 0 := by
  have : (if P n then (1 : Int64) else 0) = zS (fun k => decide (k = 0) && P n) := by
    refine zS_eq fun k h0 h1 => ?_
    cases P n
    · rw [if_neg (by decide), zt_0]; simp
    · rw [if_pos rfl, zt_one h0 h1]; simp
  rw [this]
  refine zS_eq fun k h0 h1 => ?_
  rw [zt_and, zt_ushr _ hn h0, zt_one h0 h1]
  by_cases h : k = 0
  · subst h
    rw [Int.add_zero, zt_S P hn.1 hn.2]; simp
  · simp [h]
/-- whether a bit below is set -/
def zlow (P : Int → Bool) (k : Int) : Bool := decide (∃ j : Fin 64, (j.val : Int) < k ∧ P (j.val : Int) = true)
theorem zlow_iff {P : Int → Bool} {k : Int} (hk : k ≤ 64) : zlow P k = true ↔ ∃ j : Int, 0 ≤ j ∧ j < k ∧ P j = true := by
  unfold zlow
  rw [decide_eq_true_eq]
  constructor
  · rintro ⟨j, h1, h2⟩; exact ⟨j.val, by omega, h1, h2⟩
  · rintro ⟨j, h0, h1, h2⟩; exact ⟨⟨j.toNat, by omega⟩, by show ((j.toNat : Nat) : Int) < k; omega, by show P ((j.toNat : Nat) : Int) = true; rw [Int.toNat_of_nonneg h0]; exact h2⟩
theorem zt_neg (P : Int → Bool) {k : Int} (h0 : 0 ≤ k) (h1 : k < 64) : zt (- zS P) k = (P k ^^ zlow P k) := by
  unfold zt
  rw [Int64.toBitVec_neg, BitVec.getLsbD_neg]
  have e0 : (zS P).toBitVec.getLsbD k.toNat = P k := zt_S P h0 h1
  have e1 : decide (k.toNat < 64) = true := decide_eq_true (by omega)
  have e2 : decide (∃ j, j < k.toNat ∧ (zS P).toBitVec.getLsbD j = true) = zlow P k := by
    apply Bool.eq_iff_iff.mpr
    rw [zlow_iff (by omega), decide_eq_true_eq]
    constructor
    · rintro ⟨j, h, h2⟩
      exact ⟨j, by omega, by omega, by rw [← zt_S P (k := (j : Int)) (by omega) (by omega)]; exact h2⟩
    · rintro ⟨j, h, h2, h3⟩
      exact ⟨j.toNat, by omega, by rw [← zt_S P (k := j) (by omega) (by omega)] at h3; exact h3⟩
  rw [e0, e1, Bool.true_and, e2]
theorem zt_dec (P : Int → Bool) {k : Int} (h0 : 0 ≤ k) (h1 : k < 64) : zt (zS P - 1) k = !(P k ^^ zlow P k) := by
  have e : zS P - 1 = (- zS P) ^^^ (-1) := by
    apply Int64.toBitVec_inj.mp
    rw [Int64.toBitVec_sub, Int64.toBitVec_xor, Int64.toBitVec_neg]
    show (zS P).toBitVec - 1#64 = (-(zS P).toBitVec) ^^^ (-1 : Int64).toBitVec
    rw [show (-1 : Int64).toBitVec = BitVec.allOnes 64 by decide]
    generalize (zS P).toBitVec = x
    rw [BitVec.xor_allOnes]
    rw [BitVec.not_neg]
  rw [e, zt_xor, zt_neg P h0 h1, zt_m1 h0 h1]
  cases (P k ^^ zlow P k) <;> rfl
/-- everything up to the least of a set; without one everything -/
theorem zS_upto (P : Int → Bool) : zS P ^^^ (zS P - 1) = zS (fun k => !zlow P k) := zS_eq fun k h0 h1 => by
  rw [zt_xor, zt_S P h0 h1, zt_dec P h0 h1]
  cases P k <;> cases zlow P k <;> rfl
/-- the least of a set is taken out -/
theorem zS_rest (P : Int → Bool) : zS P &&& (zS P - 1) = zS (fun k => P k && zlow P k) := zS_eq fun k h0 h1 => by
  rw [zt_and, zt_S P h0 h1, zt_dec P h0 h1]
  cases P k <;> cases zlow P k <;> rfl
theorem zS_least (P : Int → Bool) : zS P &&& (- zS P) = zS (fun k => P k && !zlow P k) := zS_eq fun k h0 h1 => by
  rw [zt_and, zt_S P h0 h1, zt_neg P h0 h1]
  cases P k <;> cases zlow P k <;> rfl
theorem zS_below (P : Int → Bool) {n : Int} (hn : 0 ≤ n ∧ n < 64) (hP : P n = true) (hl : zlow P n = false) : (zS P &&& (- zS P)) - 1 = zS (fun k => decide (k < n)) := by
  have hL : ∀ j : Int, 0 ≤ j → j < n → P j = false := fun j h0 h1 => by
    cases h : P j
    · rfl
    · rw [(zlow_iff (P := P) (k := n) (by omega)).mpr ⟨j, h0, h1, h⟩] at hl
      exact absurd hl (by decide)
  have hZ : ∀ k : Int, 0 ≤ k → k < 64 → (P k && !zlow P k) = decide (k = n) := fun k h0 h1 => by
    rcases (show k < n ∨ k = n ∨ n < k by omega) with h | h | h
    · rw [hL k h0 h, decide_eq_false (by omega)]; rfl
    · rw [h, hP, hl]; simp
    · rw [(zlow_iff (P := P) (k := k) (by omega)).mpr ⟨n, hn.1, h, hP⟩, decide_eq_false (by omega)]; simp
  rw [zS_least, zS_congr hZ]
  refine zS_eq fun k h0 h1 => ?_
  rw [zt_dec _ h0 h1]
  rcases (show k < n ∨ k = n ∨ n < k by omega) with h | h | h
  · have : zlow (fun k => decide (k = n)) k = false := by
      cases hq : zlow (fun k => decide (k = n)) k
      · rfl
      · obtain ⟨j, a, b, e⟩ := (zlow_iff (by omega)).mp hq
        have := of_decide_eq_true e
        omega
    rw [this, decide_eq_false (by omega), decide_eq_true h]; rfl
  · have : zlow (fun k => decide (k = n)) k = false := by
      cases hq : zlow (fun k => decide (k = n)) k
      · rfl
      · obtain ⟨j, a, b, e⟩ := (zlow_iff (by omega)).mp hq
        have := of_decide_eq_true e
        omega
    rw [this, decide_eq_true h, decide_eq_false (by omega)]; rfl
  · have : zlow (fun k => decide (k = n)) k = true := (zlow_iff (by omega)).mpr ⟨n, hn.1, h, decide_eq_true rfl⟩
    rw [this, decide_eq_false (by omega), decide_eq_false (by omega)]; rfl
/-- whether a bit from here on is set -/
def zup (P : Int → Bool) (k : Int) : Nat → Bool
  | 0 => false
  | d + 1 => zup P k d || P (k + d)
theorem zup_iff {P : Int → Bool} {k : Int} : ∀ {d : Nat}, zup P k d = true ↔ ∃ j : Nat, j < d ∧ P (k + j) = true
  | 0 => by simp [zup]
  | d + 1 => by
    unfold zup
    rw [Bool.or_eq_true, zup_iff]
    constructor
    · rintro (⟨j, h1, h2⟩ | h)
      · exact ⟨j, by omega, h2⟩
      · exact ⟨d, by omega, h⟩
    · rintro ⟨j, h1, h2⟩
      by_cases h : j = d
      · subst h; exact Or.inr h2
      · exact Or.inl ⟨j, by omega, h2⟩
theorem zS_fill {P : Int → Bool} (d : Nat) (hd : d < 64) (hb : ∀ k : Int, 64 ≤ k → P k = false) : zS (fun k => zup P k d) ||| jlushr (zS (fun k => zup P k d)) (iI d) = zS (fun k => zup P k (d + d)) := zS_eq fun k h0 h1 => by
  rw [zt_or, zt_S _ h0 h1, zt_ushr _ (by omega) h0]
  have e : zt (zS fun k => zup P k d) (d + k) = zup P (d + k) d := by
    by_cases h : (d : Int) + k < 64
    · exact zt_S _ (by omega) h
    · rw [zt_big _ (by omega)]
      cases hq : zup P (d + k) d
      · rfl
      · obtain ⟨j, h1, h2⟩ := zup_iff.mp hq
        rw [hb _ (by omega)] at h2
        exact absurd h2 (by decide)
  rw [e]
  apply Bool.eq_iff_iff.mpr
  rw [Bool.or_eq_true, zup_iff, zup_iff, zup_iff]
  constructor
  · rintro (⟨j, h1, h2⟩ | ⟨j, h1, h2⟩)
    · exact ⟨j, by omega, h2⟩
    · exact ⟨d + j, by omega, by rw [← h2]; congr 1; push_cast; omega⟩
  · rintro ⟨j, h1, h2⟩
    by_cases h : j < d
    · exact Or.inl ⟨j, h, h2⟩
    · exact Or.inr ⟨j - d, by omega, by rw [← h2]; congr 1; omega⟩
theorem zup_1 (P : Int → Bool) : (fun k => zup P k 1) = P := by
  funext k; simp [zup]
/-- what lies above the greatest of a set, and it itself: filled up below, one down, left out -/
theorem zS_above {P : Int → Bool} {b0 b1 b2 b3 b4 b5 b6 : Int64} (hb : ∀ k : Int, 64 ≤ k → P k = false) (e0 : b0 = zS P) (e1 : b1 = b0 ||| jlushr b0 (iI 1)) (e2 : b2 = b1 ||| jlushr b1 (iI 2)) (e3 : b3 = b2 ||| jlushr b2 (iI 4))
    (e4 : b4 = b3 ||| jlushr b3 (iI 8)) (e5 : b5 = b4 ||| jlushr b4 (iI 16)) (e6 : b6 = b5 ||| jlushr b5 (iI 32)) : jlushr b6 (iI 1) ^^^ (-1) = zS (fun k => !zup P (k + 1) 64) := by
  have f0 : b0 = zS (fun k => zup P k 1) := by rw [zup_1]; exact e0
  have f1 : b1 = zS (fun k => zup P k 2) := by rw [e1, f0]; exact zS_fill 1 (by decide) hb
  have f2 : b2 = zS (fun k => zup P k 4) := by rw [e2, f1]; exact zS_fill 2 (by decide) hb
  have f3 : b3 = zS (fun k => zup P k 8) := by rw [e3, f2]; exact zS_fill 4 (by decide) hb
  have f4 : b4 = zS (fun k => zup P k 16) := by rw [e4, f3]; exact zS_fill 8 (by decide) hb
  have f5 : b5 = zS (fun k => zup P k 32) := by rw [e5, f4]; exact zS_fill 16 (by decide) hb
  have f6 : b6 = zS (fun k => zup P k 64) := by rw [e6, f5]; exact zS_fill 32 (by decide) hb
  refine zS_eq fun k h0 h1 => ?_
  rw [zt_xor, zt_m1 h0 h1, zt_ushr _ (by decide) h0, f6, Bool.xor_true]
  congr 1
  rw [show (1 : Int) + k = k + 1 by omega]
  by_cases h : k + 1 < 64
  · exact zt_S _ (by omega) h
  · rw [zt_big _ (by omega)]
    cases hq : zup P (k + 1) 64
    · rfl
    · obtain ⟨j, h2, h3⟩ := zup_iff.mp hq
      rw [hb _ (by omega)] at h3
      exact absurd h3 (by decide)
/-! how many bits are set -/
def zc1 (b : Nat) : Nat := b - ((b / 2) &&& 85)
def zc2 (b : Nat) : Nat := (b &&& 51) + ((b / 4) &&& 51)
theorem za_split {a c d e : Nat} (ha : a < 256) (hd : d < 256) : (a + 256 * c) &&& (d + 256 * e) = (a &&& d) + 256 * (c &&& e) := by
  have h : (a &&& d) < 256 := Nat.lt_of_le_of_lt Nat.and_le_left ha
  apply Nat.eq_of_testBit_eq
  intro i
  have t : ∀ (x y : Nat), x < 256 → (x + 256 * y).testBit i = if i < 8 then x.testBit i else y.testBit (i - 8) := fun x y hx => by
    rw [Nat.add_comm, show 256 * y = 2 ^ 8 * y by rfl]
    exact Nat.testBit_two_pow_mul_add y (by simpa using hx) i
  rw [Nat.testBit_and, t a c ha, t d e hd, t _ _ h, Nat.testBit_and, Nat.testBit_and]
  split <;> rfl
theorem zc1_s : ∀ b : Nat, b < 256 → ∀ q : Nat, q < 2 → (b / 2 + 128 * q) &&& 85 = (b / 2) &&& 85 := by decide +kernel
theorem zc1_r : ∀ b : Nat, b < 256 → (b / 2) &&& 85 ≤ b ∧ zc1 b < 256 := by decide +kernel
theorem zc2_s : ∀ b : Nat, b < 256 → ∀ q : Nat, q < 4 → (b / 4 + 64 * q) &&& 51 = (b / 4) &&& 51 := by decide +kernel
theorem zc2_r : ∀ b : Nat, b < 256 → zc2 (zc1 b) % 16 ≤ 4 ∧ zc2 (zc1 b) / 16 ≤ 4 := by decide +kernel
theorem zc2_l : ∀ b : Nat, b < 256 → zc2 b < 256 := by decide +kernel
theorem zc3_s : ∀ b : Nat, b < 256 → b &&& 15 = b % 16 := by decide +kernel
theorem zstep1 {b r M : Nat} (hb : b < 256) : (b + 256 * r) - (((b + 256 * r) / 2) &&& (85 + 256 * M)) = zc1 b + 256 * (r - ((r / 2) &&& M)) := by
  have e : (b + 256 * r) / 2 = (b / 2 + 128 * (r % 2)) + 256 * (r / 2) := by omega
  rw [e, za_split (by omega) (by decide), zc1_s b hb _ (by omega)]
  have h1 := (zc1_r b hb).1
  have h2 : (r / 2) &&& M ≤ r := Nat.le_trans Nat.and_le_left (Nat.div_le_self _ _)
  unfold zc1
  omega
theorem zstep2 {b r M : Nat} (hb : b < 256) : ((b + 256 * r) &&& (51 + 256 * M)) + (((b + 256 * r) / 4) &&& (51 + 256 * M)) = zc2 b + 256 * ((r &&& M) + ((r / 4) &&& M)) := by
  have e : (b + 256 * r) / 4 = (b / 4 + 64 * (r % 4)) + 256 * (r / 4) := by omega
  rw [e, za_split hb (by decide), za_split (by omega) (by decide), zc2_s b hb _ (by omega)]
  unfold zc2
  omega
theorem zstep3 {b r M : Nat} (hb : b % 16 ≤ 4 ∧ b / 16 ≤ 4) (hr : r % 16 ≤ 4) : ((b + 256 * r) + (b + 256 * r) / 16) &&& (15 + 256 * M) = (b % 16 + b / 16) + 256 * ((r + r / 16) &&& M) := by
  have e : (b + 256 * r) + (b + 256 * r) / 16 = (b + b / 16 + 16 * (r % 16)) + 256 * (r + r / 16) := by omega
  rw [e, za_split (by omega) (by decide), zc3_s _ (by omega)]
  omega
def zpop (b : Nat) : Nat := zc2 (zc1 b) % 16 + zc2 (zc1 b) / 16
def zbits (b : Nat) : Nat := (List.range 8).foldl (fun s i => s + (b / 2 ^ i % 2)) 0
theorem zpop_b : ∀ b : Nat, b < 256 → zpop b = zbits b := by decide +kernel
def zcnt (P : Int → Bool) : Int := sumL (fun k => if P k then 1 else 0) 0 64
def zsum8 (m : Nat) : Nat := zpop (m % 256)
theorem zsum8_e (m : Nat) : zsum8 m = m % 2 + m / 2 % 2 + m / 4 % 2 + m / 8 % 2 + m / 16 % 2 + m / 32 % 2 + m / 64 % 2 + m / 128 % 2 := by
  unfold zsum8
  rw [zpop_b _ (Nat.mod_lt _ (by decide))]
  simp only [zbits, List.range, List.range.loop, List.foldl]
  omega
theorem zbit_n (P : Int → Bool) (k : Nat) (hk : k < 64) : ((zN P 64 / 2 ^ k % 2 : Nat) : Int) = if P (k : Int) then 1 else 0 := by
  have := zN_bit P 64 k
  rw [decide_eq_true hk, Bool.true_and] at this
  rw [← Nat.toNat_testBit, this]
  cases P (k : Int) <;> rfl
theorem zcnt_n (P : Int → Bool) : zcnt P = ((zsum8 (zN P 64) + zsum8 (zN P 64 / 256) + zsum8 (zN P 64 / 65536) + zsum8 (zN P 64 / 16777216) + zsum8 (zN P 64 / 4294967296) + zsum8 (zN P 64 / 1099511627776) + zsum8 (zN P 64 / 281474976710656) + zsum8 (zN P 64 / 72057594037927936) : Nat) : Int) := by
  have h : ∀ k : Nat, k < 64 → (if P (k : Int) then (1 : Int) else 0) = ((zN P 64 / 2 ^ k % 2 : Nat) : Int) := fun k hk => (zbit_n P k hk).symm
  have e : zcnt P = sumL (fun k => ((zN P 64 / 2 ^ k.toNat % 2 : Nat) : Int)) 0 64 := by
    have key : ∀ (d : Nat) (k : Int), 0 ≤ k → k + d ≤ 64 → sumL (fun k => if P k then (1 : Int) else 0) k d = sumL (fun k => ((zN P 64 / 2 ^ k.toNat % 2 : Nat) : Int)) k d := by
      intro d
      induction d with
      | zero => intro k _ _; rfl
      | succ d ih =>
        intro k h0 h1
        unfold sumL
        rw [ih (k + 1) (by omega) (by omega)]
        congr 1
        have := h k.toNat (by omega)
        rw [Int.toNat_of_nonneg h0] at this
        exact this
    exact key 64 0 (by decide) (by decide)
  rw [e]
  generalize zN P 64 = n
  simp only [zsum8_e, Nat.div_div_eq_div_mul]
  simp [sumL]
  omega
def zu (x : Int64) : Nat := x.toBitVec.toNat
theorem zu_S (P : Int → Bool) : zu (zS P) = zN P 64 := by
  unfold zu zS
  show (BitVec.ofNat 64 (zN P 64)).toNat = _
  rw [BitVec.toNat_ofNat, Nat.mod_eq_of_lt (zN_lt P 64)]
theorem zu_and (x y : Int64) : zu (x &&& y) = zu x &&& zu y := by unfold zu; rw [Int64.toBitVec_and, BitVec.toNat_and]
theorem zu_add (x y : Int64) : zu (x + y) = (zu x + zu y) % 18446744073709551616 := by unfold zu; rw [Int64.toBitVec_add, BitVec.toNat_add]
theorem zu_sub {x y : Int64} (h : zu y ≤ zu x) : zu (x - y) = zu x - zu y := by
  have := x.toBitVec.isLt
  unfold zu at *
  rw [Int64.toBitVec_sub, BitVec.toNat_sub]
  omega
theorem zu_shr (x : Int64) {n : Nat} (hn : n < 64) : zu (jlushr x (iI (n : Int))) = zu x / 2 ^ n := by
  unfold zu jlushr
  show ((x.toUInt64 >>> ((iI (n : Int)).toInt64.toUInt64 &&& Int64.toUInt64 63)).toBitVec).toNat = _
  rw [UInt64.toBitVec_shiftRight, BitVec.ushiftRight_eq', BitVec.toNat_ushiftRight, z_cu n hn, Nat.shiftRight_eq_div_pow]
  rfl
theorem zu_s1 (x : Int64) : zu (jlushr x (iI 1)) = zu x / 2 := zu_shr x (n := 1) (by decide)
theorem zu_s2 (x : Int64) : zu (jlushr x (iI 2)) = zu x / 4 := zu_shr x (n := 2) (by decide)
theorem zu_s4 (x : Int64) : zu (jlushr x (iI 4)) = zu x / 16 := zu_shr x (n := 4) (by decide)
theorem zu_s8 (x : Int64) : zu (jlushr x (iI 8)) = zu x / 256 := zu_shr x (n := 8) (by decide)
theorem zu_s16 (x : Int64) : zu (jlushr x (iI 16)) = zu x / 65536 := zu_shr x (n := 16) (by decide)
theorem zu_s32 (x : Int64) : zu (jlushr x (iI 32)) = zu x / 4294967296 := zu_shr x (n := 32) (by decide)
theorem zpop_r (b : Nat) (hb : b < 256) : zpop b ≤ 8 := by
  have := zc2_r b hb
  unfold zpop
  omega
theorem zfin {x3 x4 x5 x6 d0 d1 d2 d3 d4 d5 d6 d7 : Nat} (p0 : d0 ≤ 8) (p1 : d1 ≤ 8) (p2 : d2 ≤ 8) (p3 : d3 ≤ 8) (p4 : d4 ≤ 8) (p5 : d5 ≤ 8) (p6 : d6 ≤ 8) (p7 : d7 ≤ 8)
    (h3 : x3 = d0 + 256 * (d1 + 256 * (d2 + 256 * (d3 + 256 * (d4 + 256 * (d5 + 256 * (d6 + 256 * (d7 + 256 * 0))))))))
    (h4 : x4 = (x3 + x3 / 256) % 18446744073709551616) (h5 : x5 = (x4 + x4 / 65536) % 18446744073709551616) (h6 : x6 = (x5 + x5 / 4294967296) % 18446744073709551616) :
    x6 % 128 = d0 + d1 + d2 + d3 + d4 + d5 + d6 + d7 := by
  have a : x3 / 256 = d1 + 256 * (d2 + 256 * (d3 + 256 * (d4 + 256 * (d5 + 256 * (d6 + 256 * d7))))) := by rw [h3]; omega
  have b : x4 = (d0 + d1) + 256 * ((d1 + d2) + 256 * ((d2 + d3) + 256 * ((d3 + d4) + 256 * ((d4 + d5) + 256 * ((d5 + d6) + 256 * ((d6 + d7) + 256 * d7)))))) := by
    rw [h4, a, h3, Nat.mod_eq_of_lt (by omega)]; omega
  clear h4 a h3
  have c : x4 / 65536 = (d2 + d3) + 256 * ((d3 + d4) + 256 * ((d4 + d5) + 256 * ((d5 + d6) + 256 * ((d6 + d7) + 256 * d7)))) := by rw [b]; omega
  have d : x5 = (d0 + d1 + d2 + d3) + 256 * ((d1 + d2 + d3 + d4) + 256 * ((d2 + d3 + d4 + d5) + 256 * ((d3 + d4 + d5 + d6) + 256 * ((d4 + d5 + d6 + d7) + 256 * ((d5 + d6 + d7) + 256 * ((d6 + d7) + 256 * d7)))))) := by
    rw [h5, c, b, Nat.mod_eq_of_lt (by omega)]; omega
  clear h5 c b
  have e : x5 / 4294967296 = (d4 + d5 + d6 + d7) + 256 * ((d5 + d6 + d7) + 256 * ((d6 + d7) + 256 * d7)) := by rw [d]; omega
  have f : x6 = (d0 + d1 + d2 + d3 + d4 + d5 + d6 + d7) + 256 * ((d1 + d2 + d3 + d4 + d5 + d6 + d7) + 256 * ((d2 + d3 + d4 + d5 + d6 + d7) + 256 * ((d3 + d4 + d5 + d6 + d7) + 256 * ((d4 + d5 + d6 + d7) + 256 * ((d5 + d6 + d7) + 256 * ((d6 + d7) + 256 * d7)))))) := by
    rw [h6, e, d, Nat.mod_eq_of_lt (by clear h6 e d; omega)]; clear h6 e d; omega
  clear h6 e d
  omega
/-- the eight bytes of a long -/
theorem zbytes (n : Nat) (h : n < 18446744073709551616) : n = n % 256 + 256 * (n / 256 % 256 + 256 * (n / 65536 % 256 + 256 * (n / 16777216 % 256 + 256 * (n / 4294967296 % 256 + 256 * (n / 1099511627776 % 256 + 256 * (n / 281474976710656 % 256 + 256 * (n / 72057594037927936 % 256 + 256 * 0))))))) := by omega
set_option maxHeartbeats 1000000 in
theorem zcount {x x1 x2 x3 x4 x5 x6 : Int64} (h1 : x1 = x - (jlushr x (iI 1) &&& 6148914691236517205)) (h2 : x2 = (x1 &&& 3689348814741910323) + (jlushr x1 (iI 2) &&& 3689348814741910323))
    (h3 : x3 = (x2 + jlushr x2 (iI 4)) &&& 1085102592571150095) (h4 : x4 = x3 + jlushr x3 (iI 8)) (h5 : x5 = x4 + jlushr x4 (iI 16)) (h6 : x6 = x5 + jlushr x5 (iI 32)) :
    zu x6 % 128 = zsum8 (zu x) + zsum8 (zu x / 256) + zsum8 (zu x / 65536) + zsum8 (zu x / 16777216) + zsum8 (zu x / 4294967296) + zsum8 (zu x / 1099511627776) + zsum8 (zu x / 281474976710656) + zsum8 (zu x / 72057594037927936) := by
  have hx : zu x < 18446744073709551616 := x.toBitVec.isLt
  have m1 : zu (6148914691236517205 : Int64) = 85 + 256 * (85 + 256 * (85 + 256 * (85 + 256 * (85 + 256 * (85 + 256 * (85 + 256 * (85 + 256 * 0))))))) := by decide +kernel
  have m2 : zu (3689348814741910323 : Int64) = 51 + 256 * (51 + 256 * (51 + 256 * (51 + 256 * (51 + 256 * (51 + 256 * (51 + 256 * (51 + 256 * 0))))))) := by decide +kernel
  have m3 : zu (1085102592571150095 : Int64) = 15 + 256 * (15 + 256 * (15 + 256 * (15 + 256 * (15 + 256 * (15 + 256 * (15 + 256 * (15 + 256 * 0))))))) := by decide +kernel
  unfold zsum8
  have e := zbytes (zu x) hx
  have b0 : zu x % 256 < 256 := Nat.mod_lt _ (by decide)
  have b1 : zu x / 256 % 256 < 256 := Nat.mod_lt _ (by decide)
  have b2 : zu x / 65536 % 256 < 256 := Nat.mod_lt _ (by decide)
  have b3 : zu x / 16777216 % 256 < 256 := Nat.mod_lt _ (by decide)
  have b4 : zu x / 4294967296 % 256 < 256 := Nat.mod_lt _ (by decide)
  have b5 : zu x / 1099511627776 % 256 < 256 := Nat.mod_lt _ (by decide)
  have b6 : zu x / 281474976710656 % 256 < 256 := Nat.mod_lt _ (by decide)
  have b7 : zu x / 72057594037927936 % 256 < 256 := Nat.mod_lt _ (by decide)
  generalize zu x % 256 = c0 at e b0 ⊢
  generalize zu x / 256 % 256 = c1 at e b1 ⊢
  generalize zu x / 65536 % 256 = c2 at e b2 ⊢
  generalize zu x / 16777216 % 256 = c3 at e b3 ⊢
  generalize zu x / 4294967296 % 256 = c4 at e b4 ⊢
  generalize zu x / 1099511627776 % 256 = c5 at e b5 ⊢
  generalize zu x / 281474976710656 % 256 = c6 at e b6 ⊢
  generalize zu x / 72057594037927936 % 256 = c7 at e b7 ⊢
  have a1 : zu x1 = zc1 c0 + 256 * (zc1 c1 + 256 * (zc1 c2 + 256 * (zc1 c3 + 256 * (zc1 c4 + 256 * (zc1 c5 + 256 * (zc1 c6 + 256 * (zc1 c7 + 256 * 0))))))) := by
    have s : zu (jlushr x (iI 1) &&& 6148914691236517205) = (zu x / 2) &&& zu (6148914691236517205 : Int64) := by rw [zu_and, zu_s1]
    rw [h1, zu_sub (by rw [s]; exact Nat.le_trans Nat.and_le_left (Nat.div_le_self _ _)), s, m1, e]
    rw [zstep1 b0, zstep1 b1, zstep1 b2, zstep1 b3, zstep1 b4, zstep1 b5, zstep1 b6, zstep1 b7]
    simp
  have l0 := (zc1_r c0 b0).2
  have l1 := (zc1_r c1 b1).2
  have l2 := (zc1_r c2 b2).2
  have l3 := (zc1_r c3 b3).2
  have l4 := (zc1_r c4 b4).2
  have l5 := (zc1_r c5 b5).2
  have l6 := (zc1_r c6 b6).2
  have l7 := (zc1_r c7 b7).2
  have q0 := zc2_l _ l0
  have q1 := zc2_l _ l1
  have q2 := zc2_l _ l2
  have q3 := zc2_l _ l3
  have q4 := zc2_l _ l4
  have q5 := zc2_l _ l5
  have q6 := zc2_l _ l6
  have q7 := zc2_l _ l7
  have a2 : zu x2 = zc2 (zc1 c0) + 256 * (zc2 (zc1 c1) + 256 * (zc2 (zc1 c2) + 256 * (zc2 (zc1 c3) + 256 * (zc2 (zc1 c4) + 256 * (zc2 (zc1 c5) + 256 * (zc2 (zc1 c6) + 256 * (zc2 (zc1 c7) + 256 * 0))))))) := by
    rw [h2, zu_add, zu_and, zu_and, zu_s2, m2, a1]
    rw [zstep2 l0, zstep2 l1, zstep2 l2, zstep2 l3, zstep2 l4, zstep2 l5, zstep2 l6, zstep2 l7]
    rw [Nat.mod_eq_of_lt]
    · simp
    · simp; omega
  have r0 := zc2_r c0 b0
  have r1 := zc2_r c1 b1
  have r2 := zc2_r c2 b2
  have r3 := zc2_r c3 b3
  have r4 := zc2_r c4 b4
  have r5 := zc2_r c5 b5
  have r6 := zc2_r c6 b6
  have r7 := zc2_r c7 b7
  have a3 : zu x3 = zpop c0 + 256 * (zpop c1 + 256 * (zpop c2 + 256 * (zpop c3 + 256 * (zpop c4 + 256 * (zpop c5 + 256 * (zpop c6 + 256 * (zpop c7 + 256 * 0))))))) := by
    rw [h3, zu_and, zu_add, zu_s4, m3, a2]
    rw [Nat.mod_eq_of_lt (by omega)]
    rw [zstep3 r0 (by omega), zstep3 r1 (by omega), zstep3 r2 (by omega), zstep3 r3 (by omega), zstep3 r4 (by omega), zstep3 r5 (by omega), zstep3 r6 (by omega), zstep3 r7 (by omega)]
    simp [zpop]
  have p0 := zpop_r c0 b0
  have p1 := zpop_r c1 b1
  have p2 := zpop_r c2 b2
  have p3 := zpop_r c3 b3
  have p4 := zpop_r c4 b4
  have p5 := zpop_r c5 b5
  have p6 := zpop_r c6 b6
  have p7 := zpop_r c7 b7
  have a4 : zu x4 = (zu x3 + zu x3 / 256) % 18446744073709551616 := by rw [h4, zu_add, zu_s8]
  have a5 : zu x5 = (zu x4 + zu x4 / 65536) % 18446744073709551616 := by rw [h5, zu_add, zu_s16]
  have a6 : zu x6 = (zu x5 + zu x5 / 4294967296) % 18446744073709551616 := by rw [h6, zu_add, zu_s32]
  exact zfin p0 p1 p2 p3 p4 p5 p6 p7 a3 a4 a5 a6
theorem z_low7 (x : Int64) : Int64.toInt32 x &&& (127 : Int32) = iI ((zu x % 128 : Nat) : Int) := by
  apply Int32.toBitVec_inj.mp
  apply BitVec.eq_of_toNat_eq
  rw [Int32.toBitVec_and, BitVec.toNat_and]
  have h1 : (Int64.toInt32 x).toBitVec.toNat = zu x % 4294967296 := by
    show (x.toBitVec.signExtend 32).toNat = _
    rw [BitVec.signExtend_eq_setWidth_of_le _ (by decide), BitVec.toNat_setWidth]; rfl
  have h2 : (127 : Int32).toBitVec.toNat = 2 ^ 7 - 1 := by decide +kernel
  have h3 : (iI ((zu x % 128 : Nat) : Int)).toBitVec.toNat = zu x % 128 := by
    show (BitVec.ofInt 32 ((zu x % 128 : Nat) : Int)).toNat = _
    rw [BitVec.ofInt_natCast, BitVec.toNat_ofNat]
    omega
  rw [h1, h2, Nat.and_two_pow_sub_one_eq_mod, h3]
  omega
