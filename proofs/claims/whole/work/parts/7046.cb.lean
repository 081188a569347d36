/-! PHASE 3, THE CLASS'S CELLS by numbers: what is fixed of its objects, their ints and longs as rows -/
abbrev yM : Type := Nat → Int → Int64
abbrev cM : Type := xM × yM
/-- which object a fixed field names -/
def sfr : Nat → Nat → Option Nat
  | 0, 0 => some 1
  | 0, 1 => some 10
  | 0, 2 => some 11
  | 0, 3 => some 12
  | 0, 4 => some 13
  | 0, 5 => some 17
  | 0, 6 => some 22
  | 0, 7 => some 28
  | 0, 8 => some 30
  | 0, 9 => some 32
  | 0, 10 => some 34
  | 0, 11 => some 38
  | 0, 12 => some 45
  | 0, 13 => some 49
  | 0, 14 => some 50
  | 0, 15 => some 51
  | 1, 4 => some 2
  | 1, 5 => some 3
  | 1, 6 => some 4
  | 1, 7 => some 5
  | 1, 8 => some 6
  | 1, 9 => some 7
  | 1, 10 => some 8
  | 1, 11 => some 9
  | 10, 0 => some 1
  | 11, 0 => some 1
  | 12, 0 => some 1
  | 13, 0 => some 14
  | 13, 1 => some 15
  | 13, 2 => some 16
  | 17, 0 => some 1
  | 17, 1 => some 10
  | 17, 2 => some 18
  | 17, 3 => some 19
  | 17, 4 => some 20
  | 17, 5 => some 21
  | 18, 0 => some 1
  | 19, 0 => some 1
  | 22, 0 => some 17
  | 22, 1 => some 23
  | 22, 2 => some 24
  | 22, 3 => some 25
  | 22, 4 => some 26
  | 22, 5 => some 27
  | 23, 0 => some 1
  | 28, 0 => some 1
  | 28, 1 => some 29
  | 30, 0 => some 31
  | 32, 0 => some 33
  | 34, 0 => some 17
  | 34, 1 => some 35
  | 34, 2 => some 36
  | 34, 3 => some 37
  | 38, 0 => some 10
  | 38, 1 => some 39
  | 38, 2 => some 40
  | 38, 3 => some 41
  | 38, 4 => some 42
  | 38, 5 => some 43
  | 38, 6 => some 44
  | 42, 0 => some 1
  | 43, 0 => some 1
  | 44, 0 => some 1
  | 45, 0 => some 1
  | 45, 1 => some 46
  | 45, 2 => some 47
  | 45, 3 => some 48
  | _, _ => none
/-- the kinds of the objects -/
def ckd : Nat → Nat
  | 0 => 16
  | 1 => 5
  | 2 => 21
  | 3 => 21
  | 4 => 22
  | 5 => 22
  | 6 => 22
  | 7 => 22
  | 8 => 22
  | 9 => 22
  | 10 => 13
  | 11 => 12
  | 12 => 12
  | 13 => 8
  | 14 => 22
  | 15 => 21
  | 16 => 23
  | 17 => 9
  | 18 => 12
  | 19 => 12
  | 20 => 21
  | 21 => 22
  | 22 => 10
  | 23 => 12
  | 24 => 22
  | 25 => 22
  | 26 => 21
  | 27 => 21
  | 28 => 11
  | 29 => 1
  | 30 => 15
  | 31 => 4
  | 32 => 15
  | 33 => 4
  | 34 => 6
  | 35 => 21
  | 36 => 21
  | 37 => 22
  | 38 => 14
  | 39 => 21
  | 40 => 21
  | 41 => 21
  | 42 => 12
  | 43 => 12
  | 44 => 12
  | 45 => 7
  | 46 => 23
  | 47 => 21
  | 48 => 21
  | 49 => 1
  | 50 => 1
  | 51 => 21
  | _ => 0
/-- the lengths of the rows -/
def cln : Nat → Nat
  | 2 => 64
  | 3 => 64
  | 4 => 512
  | 5 => 64
  | 6 => 64
  | 7 => 64
  | 8 => 64
  | 9 => 64
  | 14 => 405
  | 15 => 80
  | 16 => 81
  | 20 => 1728
  | 21 => 1728
  | 24 => 25
  | 25 => 25
  | 26 => 5
  | 27 => 80
  | 35 => 1728
  | 36 => 1728
  | 37 => 1728
  | 39 => 1728
  | 40 => 1728
  | 41 => 1728
  | 46 => 6
  | 47 => 6
  | 48 => 6
  | 51 => 64
  | _ => 0
def cLs : List Nat := [0, 1, 2, 3, 4, 5, 6, 7, 8, 9, 10, 11, 12, 13, 14, 15, 16, 17, 18, 19, 20, 21, 22, 23, 24, 25, 26, 27, 28, 30, 32, 34, 35, 36, 37, 38, 39, 40, 41, 42, 43, 44, 45, 46, 47, 48, 51]
def cOk (n : Nat) : Bool := cLs.contains n
def cRow (o : Nat → Nat) (a : Nat) : Option Nat := cLs.find? (fun n => o n == a)
def cS (S : wS) (o : Nat → Nat) (c : cM) : wS := (S.1, S.2.1, S.2.2.1, fun a j => match cRow o a with
  | some n => iI (c.1 n (j : Int))
  | none => S.2.2.2.1 a j, fun a j => match cRow o a with
  | some n => c.2 n (j : Int)
  | none => S.2.2.2.2.1 a j, S.2.2.2.2.2)
abbrev CC (D : wD) (S : wS) (o : Nat → Nat) : Prop := (∀ n, n < 52 → o n ∈ sL S ∧ sK S (o n) = ckd n ∧ sN S (o n) = cln n) ∧
  (∀ n, n < 52 → ∀ k, k < 52 → o n = o k → n = k) ∧ ∀ n f k, sfr n f = some k → sR S (o n) f = some (o k)
theorem cOk_lt {n : Nat} (h : cOk n = true) : n < 52 := by
  have hm : n ∈ cLs := by simpa [cOk] using h
  have key : ∀ k ∈ cLs, k < 52 := by decide
  exact key n hm
section
variable {D : wD} {S : wS} {o : Nat → Nat} {c : cM}
theorem CC.row (h : CC D S o) {n : Nat} (hn : cOk n = true) : cRow o (o n) = some n := by
  unfold cRow
  have hm : n ∈ cLs := by simpa [cOk] using hn
  cases hq : cLs.find? (fun g => o g == o n) with
  | none => simp at hq; exact absurd rfl (hq n hm)
  | some g =>
    have h2 := List.find?_some hq
    have h3 := List.mem_of_find?_eq_some hq
    have : g = n := h.2.1 g (cOk_lt (by simpa [cOk] using h3)) n (cOk_lt hn) (by simpa using h2)
    rw [this]
theorem c_m (h : CC D S o) {n : Nat} (hn : n < 52) : wM D (cS S o c) (o n) = True := eq_true (Or.inl (h.1 n hn).1)
theorem c_l (h : CC D S o) {n : Nat} (hn : n < 52) : (o n ∈ sL (cS S o c)) = True := eq_true (h.1 n hn).1
theorem c_k (h : CC D S o) {n : Nat} (hn : n < 52) : sK (cS S o c) (o n) = ckd n := (h.1 n hn).2.1
theorem c_n (h : CC D S o) {n : Nat} (hn : n < 52) : sN (cS S o c) (o n) = cln n := (h.1 n hn).2.2
theorem c_r (h : CC D S o) {n f k : Nat} (hk : sfr n f = some k) : sR (cS S o c) (o n) f = some (o k) := h.2.2 n f k hk
theorem c_i0 (h : CC D S o) {n : Nat} (hn : cOk n = true) (j : Nat) : sI (cS S o c) (o n) j = iI (c.1 n j) := by
  show (match cRow o (o n) with | some r => iI (c.1 r (j : Int)) | none => _) = _
  rw [h.row hn]
theorem c_i (h : CC D S o) {n : Nat} (hn : cOk n = true) {a : Int} (h1 : 0 ≤ a) (h2 : a < 2147483648) : sI (cS S o c) (o n) (iI a).toNatClampNeg = iI (c.1 n a) := by
  rw [c_i0 h hn, iI_nat h1 h2]
theorem c_j0 (h : CC D S o) {n : Nat} (hn : cOk n = true) (j : Nat) : sJ (cS S o c) (o n) j = c.2 n j := by
  show (match cRow o (o n) with | some r => c.2 r (j : Int) | none => _) = _
  rw [h.row hn]
theorem c_j (h : CC D S o) {n : Nat} (hn : cOk n = true) {a : Int} (h1 : 0 ≤ a) (h2 : a < 2147483648) : sJ (cS S o c) (o n) (iI a).toNatClampNeg = c.2 n a := by
  rw [c_j0 h hn, iI_nat h1 h2]
def upJ (m : yM) (f : Nat) (a : Int) (v : Int64) : yM := fun g j => if g = f ∧ j = a then v else m g j
theorem upJ_at (m : yM) (f : Nat) (a : Int) (v : Int64) : upJ m f a v f a = v := by simp [upJ]
theorem upJ_ne (m : yM) {f g : Nat} {a j : Int} {v : Int64} (h : g ≠ f ∨ j ≠ a) : upJ m f a v g j = m g j := by
  unfold upJ; rw [if_neg]; rcases h with h | h <;> simp [h]
theorem upJ_f (m : yM) {f g : Nat} (a j : Int) (v : Int64) (h : (g == f) = false) : upJ m f a v g j = m g j := upJ_ne m (Or.inl (by simpa using h))
theorem upJ_r (m : yM) {f g : Nat} (a : Int) (v : Int64) (h : (g == f) = false) : upJ m f a v g = m g := funext fun j => upJ_f m a j v h
def cI (c : cM) (n : Nat) (j v : Int) : cM := (up c.1 n j v, c.2)
def cJ (c : cM) (n : Nat) (j : Int) (z : Int64) : cM := (c.1, upJ c.2 n j z)
theorem c_uj (h : CC D S o) {n : Nat} (hn : cOk n = true) (j : Nat) (v : Int) : uI (cS S o c) (o n) j (iI v) = cS S o (cI c n j v) := by
  have : (uI (cS S o c) (o n) j (iI v)).2.2.2.1 = (cS S o (cI c n j v)).2.2.2.1 := by
    funext a i
    show va_up (cS S o c).2.2.2.1 (o n) (va_up ((cS S o c).2.2.2.1 (o n)) j (iI v)) a i = (match cRow o a with | some r => iI (up c.1 n j v r (i : Int)) | none => S.2.2.2.1 a i)
    by_cases ha : a = o n
    · subst ha
      rw [va_up_self, h.row hn]
      by_cases hi : i = j
      · subst hi; rw [va_up_self]; simp only [up_at]
      · rw [va_up_ne _ _ hi]
        simp only
        rw [up_ne _ (Or.inr (by omega))]
        exact c_i0 h hn i
    · rw [va_up_ne _ _ ha]
      show (match cRow o a with | some r => iI (c.1 r (i : Int)) | none => S.2.2.2.1 a i) = _
      cases hq : cRow o a with
      | none => rfl
      | some g =>
        have hg : g ≠ n := fun e => ha (by have := List.find?_some hq; rw [e] at this; exact (by simpa using this : o n = a).symm)
        simp only
        rw [up_ne _ (Or.inl hg)]
  show (_, _, _, (uI (cS S o c) (o n) j (iI v)).2.2.2.1, _, _) = _
  rw [this]; rfl
theorem c_u (h : CC D S o) {n : Nat} (hn : cOk n = true) {a : Int} (h1 : 0 ≤ a) (h2 : a < 2147483648) (v : Int) : uI (cS S o c) (o n) (iI a).toNatClampNeg (iI v) = cS S o (cI c n a v) := by
  rw [c_uj h hn, iI_nat h1 h2]
theorem c_wj (h : CC D S o) {n : Nat} (hn : cOk n = true) (j : Nat) (v : Int64) : uJ (cS S o c) (o n) j v = cS S o (cJ c n j v) := by
  have : (uJ (cS S o c) (o n) j v).2.2.2.2.1 = (cS S o (cJ c n j v)).2.2.2.2.1 := by
    funext a i
    show va_up (cS S o c).2.2.2.2.1 (o n) (va_up ((cS S o c).2.2.2.2.1 (o n)) j v) a i = (match cRow o a with | some r => upJ c.2 n j v r (i : Int) | none => S.2.2.2.2.1 a i)
    by_cases ha : a = o n
    · subst ha
      rw [va_up_self, h.row hn]
      by_cases hi : i = j
      · subst hi; rw [va_up_self]; simp only [upJ_at]
      · rw [va_up_ne _ _ hi]
        simp only
        rw [upJ_ne _ (Or.inr (by omega))]
        exact c_j0 h hn i
    · rw [va_up_ne _ _ ha]
      show (match cRow o a with | some r => c.2 r (i : Int) | none => S.2.2.2.2.1 a i) = _
      cases hq : cRow o a with
      | none => rfl
      | some g =>
        have hg : g ≠ n := fun e => ha (by have := List.find?_some hq; rw [e] at this; exact (by simpa using this : o n = a).symm)
        simp only
        rw [upJ_ne _ (Or.inl hg)]
  show (_, _, _, _, (uJ (cS S o c) (o n) j v).2.2.2.2.1, _) = _
  rw [this]; rfl
theorem c_w (h : CC D S o) {n : Nat} (hn : cOk n = true) {a : Int} (h1 : 0 ≤ a) (h2 : a < 2147483648) (v : Int64) : uJ (cS S o c) (o n) (iI a).toNatClampNeg v = cS S o (cJ c n a v) := by
  rw [c_wj h hn, iI_nat h1 h2]
end
theorem cI_1 (c : cM) (n : Nat) (j v : Int) : (cI c n j v).1 = up c.1 n j v := rfl
theorem cI_2 (c : cM) (n : Nat) (j v : Int) : (cI c n j v).2 = c.2 := rfl
theorem cJ_1 (c : cM) (n : Nat) (j : Int) (v : Int64) : (cJ c n j v).1 = c.1 := rfl
theorem cJ_2 (c : cM) (n : Nat) (j : Int) (v : Int64) : (cJ c n j v).2 = upJ c.2 n j v := rfl
