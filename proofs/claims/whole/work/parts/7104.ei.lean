/-! PHASE 3, LETTERS PACKED IN A LONG -/
theorem zt_I {a : Int} (h0 : 0 ≤ a) (h1 : a < 9223372036854775808) {k : Int} (k0 : 0 ≤ k) (k1 : k < 64) : zt (zI a) k = a.toNat.testBit k.toNat := by
  unfold zt zI
  show (BitVec.ofInt 64 a).getLsbD k.toNat = _
  rw [show a = ((a.toNat : Nat) : Int) by omega, BitVec.ofInt_natCast, BitVec.getLsbD_ofNat, decide_eq_true (show k.toNat < 64 by omega), Bool.true_and]
  rfl
theorem shl_or {a b : Int} {s : Nat} (hs : s < 63) (h0 : 0 ≤ a) (hb : 0 ≤ b ∧ b < (2 ^ s : Nat)) (hm : a * (2 ^ s : Nat) + b < 9223372036854775808) : jlshl (zI a) (iI (s : Int)) ||| zI b = zI (a * (2 ^ s : Nat) + b) := by
  have hp : 0 < 2 ^ s := Nat.two_pow_pos s
  have hab : 0 ≤ a * (2 ^ s : Nat) := Int.mul_nonneg h0 (by omega)
  have ha : a < 9223372036854775808 := by
    have : a * 1 ≤ a * (2 ^ s : Nat) := Int.mul_le_mul_of_nonneg_left (by omega) h0
    omega
  apply z_ext
  intro k k0 k1
  rw [zt_or, zt_shl _ (by omega) k0 k1, zt_I hb.1 (by omega) k0 k1, zt_I (by omega) hm k0 k1]
  have e : (a * (2 ^ s : Nat) + b).toNat = 2 ^ s * a.toNat + b.toNat := by
    have : ((2 ^ s * a.toNat + b.toNat : Nat) : Int) = a * (2 ^ s : Nat) + b := by
      rw [Int.natCast_add, Int.natCast_mul, Int.toNat_of_nonneg h0, Int.toNat_of_nonneg hb.1, Int.mul_comm]
    omega
  rw [e, Nat.testBit_two_pow_mul_add _ (by omega)]
  by_cases z : k.toNat < s
  · rw [if_pos z, decide_eq_false (by omega)]; rfl
  · rw [if_neg z, decide_eq_true (by omega), Bool.true_and, zt_I h0 ha (by omega) (by omega)]
    rw [show (k - (s : Int)).toNat = k.toNat - s by omega]
    have : b.toNat.testBit k.toNat = false := Nat.testBit_lt_two_pow (Nat.lt_of_lt_of_le (by omega) (Nat.pow_le_pow_right (by decide) (show s ≤ k.toNat by omega)))
    rw [this, Bool.or_false]
/-- the letters as one number, the last one lowest -/
def pkA (a : Int) : List Int → Int
  | [] => a
  | x :: L => pkA (a * 256 + x) L
theorem pkA_app (a : Int) (L M : List Int) : pkA a (L ++ M) = pkA (pkA a L) M := by
  induction L generalizing a with
  | nil => rfl
  | cons x L ih => exact ih _
theorem pkA_r : ∀ (L : List Int) (a : Int) (n : Nat), 0 ≤ a → a < 128 * (256 ^ n : Nat) → (∀ x ∈ L, 0 ≤ x ∧ x < 128) → 0 ≤ pkA a L ∧ pkA a L < 128 * (256 ^ (n + L.length) : Nat)
  | [], a, n, h0, h1, _ => ⟨h0, h1⟩
  | x :: L, a, n, h0, h1, h => by
    have hx := h x List.mem_cons_self
    have := pkA_r L (a * 256 + x) (n + 1) (by omega) (by rw [Nat.pow_succ, Int.natCast_mul]; omega) (fun y hy => h y (List.mem_cons_of_mem _ hy))
    rw [show n + (x :: L).length = n + 1 + L.length by simp; omega]
    exact this
theorem sh8 {a x : Int} (h0 : 0 ≤ a) (h1 : a < 36028797018963968) (hx : 0 ≤ x ∧ x < 256) : jlshl (zI a) (8 : Int32) ||| zI x = zI (a * 256 + x) := by
  have := shl_or (s := 8) (a := a) (b := x) (by decide) h0 (by simpa using hx) (by show a * 256 + x < _; omega)
  exact this
theorem sh16 {a x y : Int} (h0 : 0 ≤ a) (h1 : a < 140737488355328) (hx : 0 ≤ x ∧ x < 256) (hy : 0 ≤ y ∧ y < 256) : (jlshl (zI a) (16 : Int32) ||| jlshl (zI x) (8 : Int32)) ||| zI y = zI ((a * 256 + x) * 256 + y) := by
  have e1 : jlshl (zI x) (8 : Int32) = zI (x * 256) := by
    have := shl_or (s := 8) (a := x) (b := 0) (by decide) hx.1 (by decide) (by show x * 256 + 0 < _; omega)
    rw [show zI 0 = zS (fun _ => false) from zS_f, show jlshl (zI x) (iI ((8 : Nat) : Int)) = zS (zt (jlshl (zI x) (8 : Int32))) from (zS_t _).symm, zS_or] at this
    simp only [Bool.or_false] at this
    rw [zS_t] at this
    rw [this]; show zI (x * 256 + 0) = _; rw [Int.add_zero]
  have e2 := shl_or (s := 16) (a := a) (b := x * 256) (by decide) h0 ⟨by omega, by show x * 256 < 65536; omega⟩ (by show a * 65536 + x * 256 < _; omega)
  have e3 : jlshl (zI a) (16 : Int32) ||| jlshl (zI x) (8 : Int32) = zI (a * 65536 + x * 256) := by rw [e1]; exact e2
  have e4 : zI (x * 256) ||| zI y = zI (x * 256 + y) := by
    have := shl_or (s := 8) (a := x) (b := y) (by decide) hx.1 (by simpa using hy) (by show x * 256 + y < _; omega)
    rw [show jlshl (zI x) (iI ((8 : Nat) : Int)) = zI (x * 256) from e1] at this
    exact this
  rw [e3]
  have e5 := shl_or (s := 16) (a := a) (b := x * 256 + y) (by decide) h0 ⟨by omega, by show x * 256 + y < 65536; omega⟩ (by show a * 65536 + (x * 256 + y) < _; omega)
  have e6 : jlshl (zI a) (16 : Int32) ||| zI (x * 256 + y) = zI (a * 65536 + (x * 256 + y)) := e5
  rw [show zI (a * 65536 + x * 256) = jlshl (zI a) (16 : Int32) ||| zI (x * 256) from e2.symm, Int64.or_assoc, e4, e6]
  congr 1; omega
