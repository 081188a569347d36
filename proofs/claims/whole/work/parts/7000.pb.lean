/-! PHASE 2, THE BASE: ints as integers, the reference's cells by the numbers of their fields -/
def iI (z : Int) : Int32 := Int32.ofInt z
theorem iI_add (a b : Int) : iI a + iI b = iI (a + b) := (Int32.ofInt_add a b).symm
theorem iI_sub (a b : Int) : iI a - iI b = iI (a - b) := (Int32.ofInt_sub a b).symm
theorem iI_mul (a b : Int) : iI a * iI b = iI (a * b) := (Int32.ofInt_mul a b).symm
theorem iI_neg (a : Int) : - iI a = iI (-a) := (Int32.ofInt_neg a).symm
theorem iI_lit (n : Nat) : (@OfNat.ofNat Int32 n _) = iI (OfNat.ofNat n) := rfl
theorem nlit (n : Nat) : ((no_index (@OfNat.ofNat Nat n _) : Nat) : Int) = (@OfNat.ofNat Int n _) := rfl
theorem iI_toInt {a : Int} (h1 : -2147483648 ≤ a) (h2 : a < 2147483648) : (iI a).toInt = a := by
  show (Int32.ofInt a).toInt = a
  rw [Int32.toInt_ofInt]
  exact Int.bmod_eq_of_le (by simp [Int32.size]; omega) (by simp [Int32.size]; omega)
theorem iI_le {a b : Int} (h1 : -2147483648 ≤ a) (h2 : a < 2147483648) (h3 : -2147483648 ≤ b) (h4 : b < 2147483648) : (iI a ≤ iI b) = (a ≤ b) := by
  rw [Int32.le_iff_toInt_le, iI_toInt h1 h2, iI_toInt h3 h4]
theorem iI_lt {a b : Int} (h1 : -2147483648 ≤ a) (h2 : a < 2147483648) (h3 : -2147483648 ≤ b) (h4 : b < 2147483648) : (iI a < iI b) = (a < b) := by
  rw [Int32.lt_iff_toInt_lt, iI_toInt h1 h2, iI_toInt h3 h4]
theorem iI_eq {a b : Int} (h1 : -2147483648 ≤ a) (h2 : a < 2147483648) (h3 : -2147483648 ≤ b) (h4 : b < 2147483648) : (iI a = iI b) = (a = b) := by
  rw [← Int32.toInt_inj, iI_toInt h1 h2, iI_toInt h3 h4]
theorem iI_of (x : Int32) : iI x.toInt = x := Int32.ofInt_toInt x
theorem iI_nat {a : Int} (h1 : 0 ≤ a) (h2 : a < 2147483648) : ((iI a).toNatClampNeg : Int) = a := by
  show (((iI a).toInt.toNat : Nat) : Int) = a
  rw [iI_toInt (by omega) h2]
  exact Int.toNat_of_nonneg h1
theorem iI_tdiv {a b : Int} (h1 : -2147483648 ≤ a) (h2 : a < 2147483648) (h3 : -2147483648 ≤ b) (h4 : b < 2147483648) : iI a / iI b = iI (a.tdiv b) :=
  (Int32.ofInt_tdiv (by simpa using h1) (by have : Int32.maxValue.toInt = 2147483647 := rfl; omega) (by simpa using h3) (by have : Int32.maxValue.toInt = 2147483647 := rfl; omega)).symm
theorem iI_div {a b : Int} (h1 : 0 ≤ a) (h2 : a < 2147483648) (h3 : 0 ≤ b) (h4 : b < 2147483648) : iI a / iI b = iI (a / b) := by
  rw [iI_tdiv (by omega) h2 (by omega) h4, Int.tdiv_eq_ediv_of_nonneg h1]
theorem iI_rem {a b : Int} (h1 : 0 ≤ a) (h2 : a < 2147483648) (h3 : 0 ≤ b) (h4 : b < 2147483648) : iI a - iI a / iI b * iI b = iI (a % b) := by
  rw [iI_div h1 h2 h3 h4, iI_mul, iI_sub, Int.emod_def, Int.mul_comm]
theorem iI_in {a : Int} {n : Nat} (h1 : 0 ≤ a) (h2 : a < 2147483648) (h3 : a < n) : vp_in (iI a) n := by
  unfold vp_in
  have h4 := iI_nat h1 h2
  have h5 : ¬ iI a < 0 := by
    show ¬ iI a < iI 0
    rw [iI_lt (by omega) h2 (by decide) (by decide)]
    omega
  intro h
  rcases h with h | h
  · exact h5 h
  · omega
/-- one bit of a small number -/
theorem iI_bit {a b : Int} (h1 : 0 ≤ a) (h2 : a < 16) (h3 : 0 ≤ b) (h4 : b < 4) : (iI a >>> (iI b &&& iI 31)) &&& iI 1 = iI (a / 2 ^ b.toNat % 2) := by
  have ha : ∃ n : Nat, n < 16 ∧ a = n := ⟨a.toNat, by omega, by omega⟩
  have hb : ∃ n : Nat, n < 4 ∧ b = n := ⟨b.toNat, by omega, by omega⟩
  obtain ⟨n, hn, rfl⟩ := ha
  obtain ⟨k, hk, rfl⟩ := hb
  clear h1 h2 h3 h4
  revert n k
  have key : ∀ n : Nat, n < 16 → ∀ k : Nat, k < 4 → (iI (n : Int) >>> (iI (k : Int) &&& iI 31)) &&& iI 1 = iI ((n : Int) / 2 ^ (k : Int).toNat % 2) := by decide +kernel
  exact fun n hn k hk => key n hn k hk
/-- truths as ints -/
def bI (b : Bool) : Int := if b then 1 else 0
theorem bI_t : bI true = 1 := rfl
theorem bI_f : bI false = 0 := rfl
theorem bI_r (b : Bool) : 0 ≤ bI b ∧ bI b ≤ 1 := by cases b <;> decide
theorem bI_z (b : Bool) : (iI (bI b) = iI 0) = (b = false) := by cases b <;> decide
theorem bI_o (b : Bool) : (iI (bI b) = iI 1) = (b = true) := by cases b <;> decide
theorem i10 : (iI 1 = iI 0) = False := eq_false (by decide)
theorem i01 : (iI 0 = iI 1) = False := eq_false (by decide)
theorem bI_nar (b : Bool) : (narrow .boolean (.int (iI (bI b))) = .int (iI (bI b))) = True := by cases b <;> simp <;> rfl
theorem nar_0 : (narrow .boolean (.int (iI 0)) = .int (iI 0)) = True := by simp; rfl
theorem nar_1 : (narrow .boolean (.int (iI 1)) = .int (iI 1)) = True := by simp; rfl
/-! the reference's cells: the rows by the numbers of their fields, the object's own ints as row 50 -/
def xLen : Nat → Nat
  | 3 => 536 | 4 => 2560 | 5 => 2560 | 6 => 2560 | 7 => 8 | 8 => 5427 | 9 => 80 | 10 => 80 | 12 => 500 | 14 => 128 | 17 => 3840 | 18 => 320 | 19 => 320 | 20 => 670 | 21 => 670 | 22 => 10 | 23 => 500
  | 30 => 2 | 31 => 434160 | 32 => 6400 | 33 => 80 | 34 => 80 | 35 => 80 | 36 => 80 | 37 => 80 | 38 => 80 | 40 => 64 | 41 => 125000 | 42 => 6 | _ => 0
def xKd : Nat → Nat
  | 10 => 23 | 42 => 23 | _ => 21
def xFs : List Nat := [3, 4, 5, 6, 7, 8, 9, 10, 12, 14, 17, 18, 19, 20, 21, 22, 23, 30, 31, 32, 33, 34, 35, 36, 37, 38, 40, 41, 42]
def xIn (f : Nat) : Bool := xFs.contains f
abbrev xM : Type := Nat → Int → Int
def xRow (x : Nat) (A : Nat → Nat) (m : xM) (a : Nat) : Option (Int → Int) := if a = x then some (m 50) else (xFs.find? (fun f => A f == a)).map m
def xS (S : wS) (x : Nat) (A : Nat → Nat) (m : xM) : wS := (S.1, S.2.1, S.2.2.1, fun a j => match xRow x A m a with
  | some r => iI (r (j : Int))
  | none => S.2.2.2.1 a j, S.2.2.2.2.1, S.2.2.2.2.2)
abbrev XC (D : wD) (S : wS) (x : Nat) (A : Nat → Nat) : Prop := x ∈ sL S ∧ sK S x = 17 ∧
  (∀ f, xIn f = true → sR S x f = some (A f) ∧ A f ∈ sL S ∧ sK S (A f) = xKd f ∧ sN S (A f) = xLen f ∧ A f ≠ x) ∧
  (∀ f, xIn f = true → ∀ g, xIn g = true → A f = A g → f = g)
section
variable {D : wD} {S : wS} {x : Nat} {A : Nat → Nat} {m : xM}
theorem XC.own (h : XC D S x A) : x ∈ sL S := h.1
theorem XC.kd (h : XC D S x A) : sK S x = 17 := h.2.1
theorem XC.arr (h : XC D S x A) : ∀ f, xIn f = true → sR S x f = some (A f) ∧ A f ∈ sL S ∧ sK S (A f) = xKd f ∧ sN S (A f) = xLen f ∧ A f ≠ x := h.2.2.1
theorem XC.inj (h : XC D S x A) : ∀ f, xIn f = true → ∀ g, xIn g = true → A f = A g → f = g := h.2.2.2
theorem XC.row (h : XC D S x A) {f : Nat} (hf : xIn f = true) : xRow x A m (A f) = some (m f) := by
  have h1 := (h.arr f hf).2.2.2.2
  unfold xRow
  rw [if_neg h1]
  have hm : f ∈ xFs := by simpa [xIn] using hf
  cases hq : xFs.find? (fun g => A g == A f) with
  | none => simp at hq; exact absurd rfl (hq f hm)
  | some g =>
    have h2 := List.find?_some hq
    have h3 := List.mem_of_find?_eq_some hq
    have : g = f := h.inj g (by simpa [xIn] using h3) f hf (by simpa using h2)
    rw [this]; rfl
theorem x_own (h : XC D S x A) : wM D (xS S x A m) x = True := eq_true (Or.inl h.own)
theorem x_kd (h : XC D S x A) : sK (xS S x A m) x = 17 := h.kd
theorem x_r (h : XC D S x A) {f : Nat} (hf : xIn f = true) : sR (xS S x A m) x f = some (A f) := (h.arr f hf).1
theorem x_m (h : XC D S x A) {f : Nat} (hf : xIn f = true) : wM D (xS S x A m) (A f) = True := eq_true (Or.inl (h.arr f hf).2.1)
theorem x_l (h : XC D S x A) {f : Nat} (hf : xIn f = true) : (A f ∈ sL (xS S x A m)) = True := eq_true (h.arr f hf).2.1
theorem x_k (h : XC D S x A) {f : Nat} (hf : xIn f = true) : sK (xS S x A m) (A f) = xKd f := (h.arr f hf).2.2.1
theorem x_n (h : XC D S x A) {f : Nat} (hf : xIn f = true) : sN (xS S x A m) (A f) = xLen f := (h.arr f hf).2.2.2.1
theorem x_i0 (j : Nat) : sI (xS S x A m) x j = iI (m 50 j) := by
  show (match xRow x A m x with | some r => iI (r (j : Int)) | none => _) = _
  unfold xRow
  rw [if_pos rfl]
theorem x_i (h : XC D S x A) {f : Nat} (hf : xIn f = true) {a : Int} (h1 : 0 ≤ a) (h2 : a < 2147483648) : sI (xS S x A m) (A f) (iI a).toNatClampNeg = iI (m f a) := by
  show (match xRow x A m (A f) with | some r => iI (r ((iI a).toNatClampNeg : Int)) | none => _) = _
  rw [h.row hf, iI_nat h1 h2]
/-- one cell of a row is laid anew -/
def up (m : xM) (f : Nat) (a v : Int) : xM := fun g j => if g = f ∧ j = a then v else m g j
theorem up_at (m : xM) (f : Nat) (a v : Int) : up m f a v f a = v := by simp [up]
theorem up_ne (m : xM) {f g : Nat} {a j v : Int} (h : g ≠ f ∨ j ≠ a) : up m f a v g j = m g j := by
  unfold up; rw [if_neg]; rcases h with h | h <;> simp [h]
theorem up_f (m : xM) {f g : Nat} (a j v : Int) (h : (g == f) = false) : up m f a v g j = m g j := up_ne m (Or.inl (by simpa using h))
theorem up_r (m : xM) {f g : Nat} (a v : Int) (h : (g == f) = false) : up m f a v g = m g := funext fun j => up_f m a j v h
theorem x_u0 (h : XC D S x A) (j : Nat) (v : Int) : uI (xS S x A m) x j (iI v) = xS S x A (up m 50 j v) := by
  have : (uI (xS S x A m) x j (iI v)).2.2.2.1 = (xS S x A (up m 50 j v)).2.2.2.1 := by
    funext a i
    show va_up (xS S x A m).2.2.2.1 x (va_up ((xS S x A m).2.2.2.1 x) j (iI v)) a i = (match xRow x A (up m 50 j v) a with | some r => iI (r (i : Int)) | none => S.2.2.2.1 a i)
    by_cases ha : a = x
    · subst ha
      rw [va_up_self]
      have hr : xRow a A (up m 50 j v) a = some (up m 50 j v 50) := if_pos rfl
      rw [hr]
      show _ = iI (up m 50 j v 50 i)
      by_cases hi : i = j
      · subst hi; rw [va_up_self, up_at]
      · rw [va_up_ne _ _ hi, up_ne _ (Or.inr (by omega))]
        exact x_i0 i
    · rw [va_up_ne _ _ ha]
      show (match xRow x A m a with | some r => iI (r (i : Int)) | none => S.2.2.2.1 a i) = _
      have hr : xRow x A (up m 50 j v) a = xRow x A m a := by
        unfold xRow
        rw [if_neg ha, if_neg ha]
        cases hq : xFs.find? (fun f => A f == a) with
        | none => rfl
        | some g =>
          have : g ≠ 50 := fun e => by have := List.mem_of_find?_eq_some hq; rw [e] at this; revert this; decide
          simp only [Option.map]
          rw [up_r _ _ _ (by simpa using this)]
      rw [hr]
  show (_, _, _, (uI (xS S x A m) x j (iI v)).2.2.2.1, _, _) = _
  rw [this]
  rfl
theorem x_u (h : XC D S x A) {f : Nat} (hf : xIn f = true) {a : Int} (h1 : 0 ≤ a) (h2 : a < 2147483648) (v : Int) : uI (xS S x A m) (A f) (iI a).toNatClampNeg (iI v) = xS S x A (up m f a v) := by
  have h50 : f ≠ 50 := fun e => by rw [e] at hf; revert hf; decide
  have : (uI (xS S x A m) (A f) (iI a).toNatClampNeg (iI v)).2.2.2.1 = (xS S x A (up m f a v)).2.2.2.1 := by
    funext b i
    show va_up (xS S x A m).2.2.2.1 (A f) (va_up ((xS S x A m).2.2.2.1 (A f)) (iI a).toNatClampNeg (iI v)) b i = (match xRow x A (up m f a v) b with | some r => iI (r (i : Int)) | none => S.2.2.2.1 b i)
    by_cases ha : b = A f
    · subst ha
      rw [va_up_self, h.row hf]
      by_cases hi : i = (iI a).toNatClampNeg
      · subst hi; rw [va_up_self]; simp only [iI_nat h1 h2, up_at]
      · rw [va_up_ne _ _ hi]
        have : (i : Int) ≠ a := fun e => hi (by have := iI_nat h1 h2; omega)
        simp only
        rw [up_ne _ (Or.inr this)]
        show (match xRow x A m (A f) with | some r => iI (r (i : Int)) | none => _) = _
        rw [h.row hf]
    · rw [va_up_ne _ _ ha]
      show (match xRow x A m b with | some r => iI (r (i : Int)) | none => S.2.2.2.1 b i) = _
      have hr : xRow x A (up m f a v) b = xRow x A m b := by
        unfold xRow
        by_cases hb : b = x
        · rw [if_pos hb, if_pos hb, up_r _ _ _ (by simpa using fun e => h50 e.symm)]
        · rw [if_neg hb, if_neg hb]
          cases hq : xFs.find? (fun f => A f == b) with
          | none => rfl
          | some g =>
            have hg : g ≠ f := fun e => ha (by have := List.find?_some hq; rw [e] at this; exact (by simpa using this : A f = b).symm)
            simp only [Option.map]
            rw [up_r _ _ _ (by simpa using hg)]
      rw [hr]
  show (_, _, _, (uI (xS S x A m) (A f) (iI a).toNatClampNeg (iI v)).2.2.2.1, _, _) = _
  rw [this]
  rfl
end
