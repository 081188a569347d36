theorem byt_zu (z : Int64) {d : Nat} (hd : d < 8) : byt z (8 * d) = ((zu z / 2 ^ (8 * d) % 256 : Nat) : Int) := by
  have e := shr_same z hd
  unfold byt
  rw [← e]
  have h1 : ∀ y : Int64, (Int64.toInt32 (y &&& 255)).toInt = ((zu y % 256 : Nat) : Int) := by
    intro y
    have h1 : (Int64.toInt32 (y &&& 255)).toBitVec = (y.toBitVec &&& 255#64).setWidth 32 := by
      show (y &&& 255).toBitVec.signExtend 32 = _
      rw [BitVec.signExtend_eq_setWidth_of_le _ (by decide)]
      rfl
    have h2 : (y.toBitVec &&& 255#64).toNat = zu y % 256 := by
      rw [BitVec.toNat_and]
      exact Nat.and_two_pow_sub_one_eq_mod _ 8
    have h4 : zu y % 256 < 256 := Nat.mod_lt _ (by decide)
    show (Int64.toInt32 (y &&& 255)).toBitVec.toInt = _
    rw [h1, BitVec.toInt_eq_toNat_cond, BitVec.toNat_setWidth, h2, Nat.mod_eq_of_lt (by omega), if_pos (by omega)]
  rw [h1, show (8 * (d : Int)) = ((8 * d : Nat) : Int) by omega, zu_shr z (by omega)]
theorem zu_I {a : Int} (h0 : 0 ≤ a) (h1 : a < 9223372036854775808) : zu (zI a) = a.toNat := by
  unfold zu zI
  show (BitVec.ofInt 64 a).toNat = _
  rw [show a = ((a.toNat : Nat) : Int) by omega, BitVec.ofInt_natCast, BitVec.toNat_ofNat, Nat.mod_eq_of_lt (by omega)]
  omega
theorem pkA_lin : ∀ (L : List Int) (a : Int), pkA a L = a * (256 ^ L.length : Nat) + pkA 0 L
  | [], a => by simp [pkA]
  | x :: L, a => by
    show pkA (a * 256 + x) L = a * (256 ^ (L.length + 1) : Nat) + pkA (0 * 256 + x) L
    rw [pkA_lin L (a * 256 + x), pkA_lin L (0 * 256 + x), Nat.pow_succ, Int.natCast_mul, Int.add_mul, Int.add_mul]
    have : a * 256 * ((256 ^ L.length : Nat) : Int) = a * (((256 ^ L.length : Nat) : Int) * ((256 : Nat) : Int)) := by
      rw [Int.mul_assoc, Int.mul_comm (256 : Int)]; rfl
    omega
/-- the digits of a number that are not 0, the highest first -/
def dgL (m : Nat) : Nat → List Int
  | 0 => []
  | d + 1 => (if ((m / 2 ^ (8 * d) % 256 : Nat) : Int) = 0 then [] else [((m / 2 ^ (8 * d) % 256 : Nat) : Int)]) ++ dgL m d
theorem tyL_dg {m : Int} (h0 : 0 ≤ m) (h1 : m < 9223372036854775808) : ∀ d : Nat, d ≤ 8 → tyL (zI m) d = dgL m.toNat d
  | 0, _ => rfl
  | d + 1, hd => by
    unfold tyL dgL
    rw [byt_zu _ (by omega), zu_I h0 h1, tyL_dg h0 h1 d (by omega)]
theorem dgL_cong {m k : Nat} : ∀ (d : Nat), (∀ e, e < d → m / 2 ^ (8 * e) % 256 = k / 2 ^ (8 * e) % 256) → dgL m d = dgL k d
  | 0, _ => rfl
  | d + 1, h => by
    unfold dgL
    rw [h d (by omega), dgL_cong d (fun e he => h e (by omega))]
theorem p256 (n : Nat) : 2 ^ (8 * n) = 256 ^ n := by rw [Nat.pow_mul]
theorem dgL_pk : ∀ (W : List Int) (d : Nat), W.length ≤ d → (∀ x ∈ W, 0 < x ∧ x < 128) → dgL (pkA 0 W).toNat d = W
  | [], d, _, _ => by
    have : ∀ d : Nat, dgL 0 d = [] := by
      intro d
      induction d with
      | zero => rfl
      | succ d ih => unfold dgL; rw [ih]; simp
    exact this d
  | x :: L, d, hd, h => by
    have hx := h x List.mem_cons_self
    have hl : ∀ y ∈ L, 0 < y ∧ y < 128 := fun y hy => h y (List.mem_cons_of_mem _ hy)
    have pr := pkA_r L 0 0 (by decide) (by decide) (fun y hy => by have := hl y hy; omega)
    have lin : pkA 0 (x :: L) = x * (256 ^ L.length : Nat) + pkA 0 L := by
      show pkA (0 * 256 + x) L = _
      rw [pkA_lin]; congr 1; rw [show (0 : Int) * 256 + x = x by omega]
    have lt : ∀ (L : List Int), (∀ y ∈ L, 0 < y ∧ y < 128) → 0 ≤ pkA 0 L ∧ pkA 0 L < (256 ^ L.length : Nat) := by
      intro L
      induction L with
      | nil => intro _; exact ⟨by decide, by decide⟩
      | cons y M ih =>
        intro hM
        have hy := hM y List.mem_cons_self
        have q := ih (fun w hw => hM w (List.mem_cons_of_mem _ hw))
        have lin : pkA 0 (y :: M) = y * (256 ^ M.length : Nat) + pkA 0 M := by
          show pkA (0 * 256 + y) M = _
          rw [pkA_lin]; congr 1; rw [show (0 : Int) * 256 + y = y by omega]
        rw [lin, show (y :: M).length = M.length + 1 from rfl, Nat.pow_succ, Int.natCast_mul]
        have e1 : y * ((256 ^ M.length : Nat) : Int) ≤ 127 * ((256 ^ M.length : Nat) : Int) := Int.mul_le_mul_of_nonneg_right (by omega) (by omega)
        have e0 : 0 ≤ y * ((256 ^ M.length : Nat) : Int) := Int.mul_nonneg (by omega) (by omega)
        omega
    have lq := lt L hl
    have hn : (pkA 0 (x :: L)).toNat = x.toNat * 256 ^ L.length + (pkA 0 L).toNat := by
      have : ((x.toNat * 256 ^ L.length + (pkA 0 L).toNat : Nat) : Int) = pkA 0 (x :: L) := by
        rw [lin, Int.natCast_add, Int.natCast_mul, Int.toNat_of_nonneg (by omega), Int.toNat_of_nonneg lq.1]
      omega
    have hr : (pkA 0 L).toNat < 256 ^ L.length := by omega
    have top : ∀ k, (pkA 0 (x :: L)).toNat / 2 ^ (8 * (L.length + k)) = x.toNat / 256 ^ k := by
      intro k
      rw [p256, Nat.pow_add, ← Nat.div_div_eq_div_mul, hn, Nat.add_comm, Nat.add_mul_div_right _ _ (Nat.pow_pos (by decide)), Nat.div_eq_of_lt hr, Nat.zero_add]
    have base : dgL (pkA 0 (x :: L)).toNat (L.length + 1) = x :: L := by
      unfold dgL
      have t0 := top 0
      rw [Nat.add_zero, Nat.pow_zero, Nat.div_one] at t0
      rw [t0, Nat.mod_eq_of_lt (by omega), if_neg (by omega)]
      have ih := dgL_pk L L.length (Nat.le_refl _) hl
      have cg := dgL_cong (m := (pkA 0 (x :: L)).toNat) (k := (pkA 0 L).toNat) L.length (fun e he => by
        rw [hn, p256]
        obtain ⟨q, hq⟩ : ∃ q, L.length = e + 1 + q := ⟨L.length - e - 1, by omega⟩
        rw [hq, show e + 1 + q = e + (1 + q) by omega, Nat.pow_add, Nat.mul_comm (256 ^ e), ← Nat.mul_assoc, Nat.add_comm, Nat.add_mul_div_right _ _ (Nat.pow_pos (by decide)), Nat.pow_add, Nat.pow_one, Nat.mul_comm 256, ← Nat.mul_assoc, Nat.add_mul_mod_self_right])
      rw [cg, ih]
      rw [show ((x.toNat : Nat) : Int) = x by omega]
      rfl
    have ext : ∀ k, dgL (pkA 0 (x :: L)).toNat (L.length + 1 + k) = x :: L := by
      intro k
      induction k with
      | zero => exact base
      | succ k ih =>
        rw [show L.length + 1 + (k + 1) = (L.length + 1 + k) + 1 by omega]
        unfold dgL
        have t := top (1 + k)
        rw [← Nat.add_assoc] at t
        rw [t, Nat.div_eq_of_lt, ih]
        · rfl
        · have : 256 ^ 1 ≤ 256 ^ (1 + k) := Nat.pow_le_pow_right (by decide) (by omega)
          omega
    obtain ⟨k, hk⟩ : ∃ k, d = L.length + 1 + k := ⟨d - (L.length + 1), by simp at hd; omega⟩
    rw [hk]; exact ext k
/-- the bytes of packed letters are the letters -/
theorem tyL_pk {W : List Int} (hl : W.length ≤ 7) (h : ∀ x ∈ W, 0 < x ∧ x < 128) : tyL (zI (pkA 0 W)) 8 = W := by
  have pr := pkA_r W 0 0 (by decide) (by decide) (fun y hy => by have := h y hy; omega)
  have : (256 ^ (0 + W.length) : Nat) ≤ 256 ^ 7 := Nat.pow_le_pow_right (by decide) (by omega)
  have e7 : (256 ^ 7 : Nat) = 72057594037927936 := by decide
  rw [tyL_dg pr.1 (by omega) 8 (by decide)]
  exact dgL_pk W 8 (by omega) h
