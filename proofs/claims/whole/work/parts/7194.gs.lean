/-! PHASE 3: letters from the highest byte on; their order -/
section
variable {D : wD} {U : wS}
theorem ushr56 {a : Int} (h0 : 0 ≤ a) (h1 : a < 9223372036854775808) : (jlushr (zI a) (56 : Int32) = (0 : Int64)) = (a < 72057594037927936) := by
  have e : zu (jlushr (zI a) (56 : Int32)) = a.toNat / 2 ^ 56 := by
    rw [← zu_I h0 h1]
    unfold zu jlushr
    show ((zI a).toUInt64 >>> ((iI ((56 : Nat) : Int)).toInt64.toUInt64 &&& Int64.toUInt64 63)).toBitVec.toNat = _
    rw [UInt64.toBitVec_shiftRight, BitVec.ushiftRight_eq', z_cu 56 (by decide), BitVec.toNat_ushiftRight, Nat.shiftRight_eq_div_pow]
    rfl
  apply propext
  constructor
  · intro h
    rw [h] at e
    have : zu (0 : Int64) = 0 := rfl
    rw [this] at e
    have := Nat.div_eq_zero_iff.mp e.symm
    omega
  · intro h
    have z : a.toNat / 2 ^ 56 = 0 := Nat.div_eq_of_lt (by omega)
    rw [z] at e
    apply Int64.toBitVec_inj.mp
    apply BitVec.eq_of_toNat_eq
    exact e
theorem shl8 {a : Int} (h0 : 0 ≤ a) (h1 : a < 36028797018963968) : jlshl (zI a) (8 : Int32) = zI (a * 256) := by
  have := shl_or (s := 8) (a := a) (b := 0) (by decide) h0 (by decide) (by show a * 256 + 0 < _; omega)
  rw [show zI 0 = zS (fun _ => false) from zS_f, show jlshl (zI a) (iI ((8 : Nat) : Int)) = zS (zt (jlshl (zI a) (8 : Int32))) from (zS_t _).symm, zS_or] at this
  simp only [Bool.or_false] at this
  rw [zS_t] at this
  rw [this]; show zI (a * 256 + 0) = _; rw [Int.add_zero]
theorem q_aligned_5 {post : Int64 → wS → Prop} : ∀ (f d : Nat) (a x : Int), d < f → 0 ≤ x → x + d ≤ 7 → (256 ^ (7 - d) : Nat) ≤ a → a < 128 * (256 ^ (7 - d) : Nat) → post (zI (a * (256 ^ d : Nat))) U → wp_X1_aligned_5 D post f U (zI a) (iI x) := by
  intro f
  induction f with
  | zero => intro d a x h; omega
  | succ f ih =>
    intro d a x hd x0 x7 a0 a1 k
    unfold wp_X1_aligned_5 wp_X1_aligned_32
    rw [show (8 : Int32) = iI 8 from rfl, iI_le (by decide) (by decide) (by omega) (by omega)]
    refine ⟨fun q => absurd q (by omega), fun _ => ?_⟩
    have p7 : (256 ^ (7 - d) : Nat) ≤ 256 ^ 7 := Nat.pow_le_pow_right (by decide) (by omega)
    have e7 : (256 ^ 7 : Nat) = 72057594037927936 := by decide
    have p0 : 0 < (256 ^ (7 - d) : Nat) := Nat.pow_pos (by decide)
    simp only [lg_cmp_eq]
    rw [ushr56 (by omega) (by omega)]
    cases d with
    | zero =>
      refine ⟨fun _ => ?_, fun q => ?_⟩
      · rw [show ((256 ^ 0 : Nat) : Int) = 1 from rfl, Int.mul_one] at k; exact k
      · rw [show 7 - 0 = 7 from rfl, e7] at a0; omega
    | succ d =>
      have p6 : (256 ^ (7 - (d + 1)) : Nat) ≤ 256 ^ 6 := Nat.pow_le_pow_right (by decide) (by omega)
      have e6 : (256 ^ 6 : Nat) = 281474976710656 := by decide
      refine ⟨fun q => absurd (show a < 72057594037927936 by omega) q, fun _ x3 e3 x4 e4 => ?_⟩
      rw [show (iI 8 : Int32) = (8 : Int32) from rfl, shl8 (by omega) (by omega)] at e3
      have e4 : x4 = iI (x + 1) := by rw [e4, show (1 : Int32) = iI 1 from rfl, iI_add]
      rw [e3, e4]
      have ep : (256 ^ (7 - d) : Nat) = 256 ^ (7 - (d + 1)) * 256 := by rw [← Nat.pow_succ]; congr 1; omega
      refine ih d (a * 256) (x + 1) (by omega) (by omega) (by omega) (by rw [ep, Int.natCast_mul]; omega) (by rw [ep, Int.natCast_mul]; omega) ?_
      rw [Nat.pow_succ, Int.natCast_mul] at k
      have e : a * 256 * ((256 ^ d : Nat) : Int) = a * (((256 ^ d : Nat) : Int) * ((256 : Nat) : Int)) := by rw [Int.mul_assoc, Int.mul_comm (256 : Int)]; rfl
      rw [e]
      exact k
/-- letters, filled up with noughts -/
def padA (W : List Int) (n : Nat) : Int := pkA 0 W * (256 ^ (n - W.length) : Nat)
theorem padA_c (x : Int) (W : List Int) {n : Nat} (h : W.length ≤ n) : padA (x :: W) (n + 1) = x * (256 ^ n : Nat) + padA W n := by
  unfold padA
  show pkA (0 * 256 + x) W * _ = _
  rw [pkA_lin W (0 * 256 + x), show (0 : Int) * 256 + x = x by omega, List.length_cons, show n + 1 - (W.length + 1) = n - W.length by omega, Int.add_mul, Int.mul_assoc, ← Int.natCast_mul, ← Nat.pow_add, show W.length + (n - W.length) = n by omega]
theorem padA_r : ∀ (W : List Int) (n : Nat), W.length ≤ n → (∀ x ∈ W, 0 < x ∧ x < 128) → 0 ≤ padA W n ∧ padA W n < (256 ^ n : Nat) := by
  intro W
  induction W with
  | nil => intro n _ _; unfold padA pkA; rw [Int.zero_mul]; exact ⟨Int.le_refl _, by exact_mod_cast Nat.pow_pos (by decide)⟩
  | cons x W ih =>
    intro n h hx
    obtain ⟨n, rfl⟩ : ∃ n', n = n' + 1 := ⟨n - 1, by rw [List.length_cons] at h; omega⟩
    rw [List.length_cons] at h
    rw [padA_c x W (by omega)]
    have := ih n (by omega) (fun y hy => hx y (List.mem_cons_of_mem _ hy))
    have h1 := hx x List.mem_cons_self
    have p : (0 : Int) < (256 ^ n : Nat) := by exact_mod_cast Nat.pow_pos (by decide)
    rw [Nat.pow_succ, Int.natCast_mul]
    generalize ((256 ^ n : Nat) : Int) = B at *
    have m0 : 0 ≤ x * B := Int.mul_nonneg (by omega) (by omega)
    have m1 : (x + 1) * B ≤ 256 * B := Int.mul_le_mul_of_nonneg_right (by omega) (by omega)
    rw [Int.add_mul, Int.one_mul] at m1
    rw [Int.mul_comm B _]
    have : ((256 : Nat) : Int) * B = 256 * B := rfl
    omega
/-- the order of the letters is that of the numbers -/
theorem ahead_pad : ∀ (n : Nat) (W V : List Int), W.length ≤ n → V.length ≤ n → (∀ x ∈ W, 0 < x ∧ x < 128) → (∀ x ∈ V, 0 < x ∧ x < 128) → (ahead W V = true ↔ padA W n < padA V n) := by
  intro n
  induction n with
  | zero =>
    intro W V h1 h2 _ _
    rw [List.length_eq_zero_iff.mp (Nat.le_zero.mp h1), List.length_eq_zero_iff.mp (Nat.le_zero.mp h2)]
    simp [ahead]
  | succ n ih =>
    intro W V h1 h2 w v
    have p : (0 : Int) < (256 ^ n : Nat) := by exact_mod_cast Nat.pow_pos (by decide)
    cases W with
    | nil =>
      cases V with
      | nil => simp [ahead]
      | cons y V =>
        rw [List.length_cons] at h2
        have hy := v y List.mem_cons_self
        have r := padA_r V n (by omega) (fun z hz => v z (List.mem_cons_of_mem _ hz))
        rw [padA_c y V (by omega)]
        have e0 : padA [] (n + 1) = 0 := by unfold padA pkA; exact Int.zero_mul _
        rw [e0]
        have m0 : 0 < y * (256 ^ n : Nat) := Int.mul_pos (by omega) p
        simp only [ahead, true_iff]
        omega
    | cons x W =>
      rw [List.length_cons] at h1
      have hx := w x List.mem_cons_self
      have rw' := padA_r W n (by omega) (fun z hz => w z (List.mem_cons_of_mem _ hz))
      rw [padA_c x W (by omega)]
      cases V with
      | nil =>
        have e0 : padA [] (n + 1) = 0 := by unfold padA pkA; exact Int.zero_mul _
        rw [e0]
        have m0 : 0 < x * (256 ^ n : Nat) := Int.mul_pos (by omega) p
        simp only [ahead, Bool.false_eq_true, false_iff]
        omega
      | cons y V =>
        rw [List.length_cons] at h2
        have hy := v y List.mem_cons_self
        have rv := padA_r V n (by omega) (fun z hz => v z (List.mem_cons_of_mem _ hz))
        rw [padA_c y V (by omega)]
        have ih := ih W V (by omega) (by omega) (fun z hz => w z (List.mem_cons_of_mem _ hz)) (fun z hz => v z (List.mem_cons_of_mem _ hz))
        rw [ahead]
        by_cases q : x = y
        · rw [if_pos q, ih, q]
          omega
        · rw [if_neg q, decide_eq_true_eq]
          generalize ((256 ^ n : Nat) : Int) = B at *
          constructor
          · intro z
            have m1 : (x + 1) * B ≤ y * B := Int.mul_le_mul_of_nonneg_right (by omega) (by omega)
            rw [Int.add_mul, Int.one_mul] at m1
            omega
          · intro z
            by_cases u : x < y
            · exact u
            · have m1 : (y + 1) * B ≤ x * B := Int.mul_le_mul_of_nonneg_right (by omega) (by omega)
              rw [Int.add_mul, Int.one_mul] at m1
              omega
theorem pk_low {W : List Int} (h : W ≠ []) (hx : ∀ x ∈ W, 0 < x ∧ x < 128) : (256 ^ (W.length - 1) : Nat) ≤ pkA 0 W ∧ pkA 0 W < 128 * (256 ^ (W.length - 1) : Nat) := by
  cases W with
  | nil => exact absurd rfl h
  | cons x W =>
    have h1 := hx x List.mem_cons_self
    have r := padA_r W W.length (Nat.le_refl _) (fun y hy => hx y (List.mem_cons_of_mem _ hy))
    unfold padA at r
    rw [Nat.sub_self, show ((256 ^ 0 : Nat) : Int) = 1 from rfl, Int.mul_one] at r
    show (256 ^ (W.length + 1 - 1) : Nat) ≤ pkA (0 * 256 + x) W ∧ pkA (0 * 256 + x) W < 128 * (256 ^ (W.length + 1 - 1) : Nat)
    rw [pkA_lin W (0 * 256 + x), show (0 : Int) * 256 + x = x by omega, Nat.add_sub_cancel]
    generalize ((256 ^ W.length : Nat) : Int) = B at *
    have m1 : (1 : Int) * B ≤ x * B := Int.mul_le_mul_of_nonneg_right (by omega) (by omega)
    have m2 : (x + 1) * B ≤ 128 * B := Int.mul_le_mul_of_nonneg_right (by omega) (by omega)
    rw [Int.add_mul, Int.one_mul] at m2
    omega
theorem q_aligned {post : Int64 → wS → Prop} {W : List Int} (h : W ≠ []) (hx : ∀ x ∈ W, 0 < x ∧ x < 128) (h7 : W.length ≤ 7) (k : post (zI (padA W 8)) U) : wp_X1_aligned D post U (zI (pkA 0 W)) := by
  have lo := pk_low h hx
  have l1 : 1 ≤ W.length := by
    cases W with
    | nil => exact absurd rfl h
    | cons x W => simp
  unfold wp_X1_aligned wp_X1_aligned_0
  refine ⟨9, ?_⟩
  refine q_aligned_5 9 (8 - W.length) (pkA 0 W) 0 (by omega) (by decide) (by omega) ?_ ?_ k
  · rw [show 7 - (8 - W.length) = W.length - 1 by omega]; exact lo.1
  · rw [show 7 - (8 - W.length) = W.length - 1 by omega]; exact lo.2
theorem lg_pad {W V : List Int} (hW : W ≠ [] ∧ W.length ≤ 7 ∧ ∀ x ∈ W, 0 < x ∧ x < 128) (hV : V ≠ [] ∧ V.length ≤ 7 ∧ ∀ x ∈ V, 0 < x ∧ x < 128) : ((0 : Int32) ≤ lg_cmp (zI (padA W 8)) (zI (padA V 8))) = (ahead W V = false) := by
  have big : ∀ T : List Int, (T ≠ [] ∧ T.length ≤ 7 ∧ ∀ x ∈ T, 0 < x ∧ x < 128) → 0 ≤ padA T 8 ∧ padA T 8 < 9223372036854775808 := fun T hT => by
    have lo := pk_low hT.1 hT.2.2
    have l1 : 1 ≤ T.length := by
      cases T with
      | nil => exact absurd rfl hT.1
      | cons x T => simp
    have r := padA_r T 8 (by omega) hT.2.2
    refine ⟨r.1, ?_⟩
    unfold padA
    have p : (0 : Int) < (256 ^ (8 - T.length) : Nat) := by exact_mod_cast Nat.pow_pos (by decide)
    have m := Int.mul_lt_mul_of_pos_right lo.2 p
    rw [Int.mul_assoc, ← Int.natCast_mul, ← Nat.pow_add, show T.length - 1 + (8 - T.length) = 7 by omega] at m
    have e7 : (256 ^ 7 : Nat) = 72057594037927936 := by decide
    rw [e7] at m
    omega
  have bW := big W hW
  have bV := big V hV
  rw [propext (lg_cmp_ge _ _), Int64.le_iff_toInt_le, zI_toInt (by omega) (by omega), zI_toInt (by omega) (by omega)]
  have a := ahead_pad 8 W V (by omega) (by omega) hW.2.2 hV.2.2
  apply propext
  constructor
  · intro q
    cases z : ahead W V
    · rfl
    · have := a.mp z; omega
  · intro q
    rw [q] at a
    by_cases z : padA W 8 < padA V 8
    · exact absurd (a.mpr z) (by decide)
    · omega
end
