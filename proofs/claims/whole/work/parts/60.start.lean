/-! THE START: what the Statement gives of it, as a state of the world -/
/-- the texts, in the order in which they are given: a constant of each, its number in wStr, its bytes -/
def stT : List (String × Nat × Nat × List Int32) := [("OpeningsCabinet$Position", 42, 0, [82, 78, 66, 81, 75, 66, 78, 82]), ("OpeningsCabinet$Position", 50, 1, [32, 75, 81, 82, 66, 78, 80, 107, 113, 114, 98, 110, 112]), ("java/lang/StringIndexOutOfBoundsException", 13, 2, [83, 116, 114, 105, 110, 103, 32, 105, 110, 100, 101, 120, 32, 111, 117, 116, 32, 111, 102, 32, 114, 97, 110, 103, 101, 58, 32]), ("java/util/Arrays", 337, 3, [32, 62, 32]), ("java/util/Arrays", 48, 4, [102, 114, 111, 109, 73, 110, 100, 101, 120, 40]), ("java/util/Arrays", 57, 5, [41, 32, 62, 32, 116, 111, 73, 110, 100, 101, 120, 40]), ("java/util/Arrays", 59, 6, [41]), ("java/lang/ArrayIndexOutOfBoundsException", 13, 7, [65, 114, 114, 97, 121, 32, 105, 110, 100, 101, 120, 32, 111, 117, 116, 32, 111, 102, 32, 114, 97, 110, 103, 101, 58, 32]), ("OpeningsCabinet$Papers", 49, 8, [32, 119, 32]), ("OpeningsCabinet$Papers", 51, 9, [32, 98, 32]), ("OpeningsCabinet$Papers", 59, 10, [75, 81, 107, 113]), ("OpeningsCabinet", 142, 11, [97, 32, 98, 111, 97, 114, 100, 32, 104, 97, 115, 32, 52, 32, 116, 111, 32, 56, 32, 102, 105, 108, 101, 115, 32, 97, 110, 100, 32, 114, 97, 110, 107, 115]), ("OpeningsCabinet", 495, 12, [110, 111, 32, 115, 117, 99, 104, 32, 115, 113, 117, 97, 114, 101]), ("OpeningsCabinet", 163, 13, [110, 111, 32, 115, 117, 99, 104, 32, 112, 105, 101, 99, 101]), ("OpeningsCabinet", 497, 14, [97, 32, 109, 111, 118, 101, 32, 119, 97, 115, 32, 109, 97, 100, 101]), ("OpeningsCabinet", 181, 15, [114, 105, 103, 104, 116, 115, 32, 97, 114, 101, 32, 48, 32, 116, 111, 32, 49, 53]), ("OpeningsCabinet", 194, 16, [110, 111, 32, 112, 97, 112, 101, 114, 32, 111, 102, 32, 97, 32, 112, 114, 111, 112, 101, 114, 32, 112, 111, 115, 105, 116, 105, 111, 110, 32, 111, 110, 32, 116, 104, 105, 115, 32, 98, 111, 97, 114, 100]), ("OpeningsCabinet", 326, 17, [116, 104, 101, 32, 102, 105, 114, 115, 116, 32, 112, 111, 115, 105, 116, 105, 111, 110, 32, 105, 115, 32, 110, 111, 116, 32, 112, 114, 111, 112, 101, 114]), ("OpeningsCabinet", 237, 18, [110, 111, 32, 115, 117, 99, 104, 32, 98, 121, 116, 101]), ("OpeningsCabinet", 255, 19, [110, 111, 32, 115, 117, 99, 104, 32, 102, 105, 108, 101]), ("OpeningsCabinet", 509, 20, [110, 111, 32, 115, 117, 99, 104, 32, 109, 111, 118, 101]), ("OpeningsCabinet", 287, 21, [56, 48, 32, 109, 111, 118, 101, 115, 32, 119, 101, 114, 101, 32, 109, 97, 100, 101]), ("OpeningsCabinet", 296, 22, [110, 111, 32, 109, 111, 118, 101, 32, 119, 97, 115, 32, 109, 97, 100, 101]), ("OpeningsCabinet", 309, 23, [116, 104, 101, 32, 100, 101, 112, 116, 104, 32, 105, 115, 32, 49, 32, 116, 111, 32, 51]), ("OpeningsCabinet", 315, 24, [97, 32, 98, 121, 116, 101, 32, 111, 102, 32, 97, 32, 116, 101, 120, 116, 32, 105, 115, 32, 51, 50, 32, 116, 111, 32, 49, 50, 54]), ("OpeningsCabinet", 317, 25, [97, 32, 116, 101, 120, 116, 32, 104, 97, 115, 32, 97, 116, 32, 109, 111, 115, 116, 32, 53, 48, 48, 32, 98, 121, 116, 101, 115]), ("OpeningsCabinet$MovesReader", 101, 26, [49, 45, 48]), ("OpeningsCabinet$MovesReader", 107, 27, [48, 45, 49]), ("OpeningsCabinet$MovesReader", 109, 28, [49, 47, 50, 45, 49, 47, 50]), ("OpeningsCabinet$MovesReader", 111, 29, [42]), ("OpeningsCabinet", 328, 30, [116, 104, 101, 32, 116, 101, 120, 116, 32, 104, 97, 115, 32, 97, 32, 102, 97, 117, 108, 116]), ("OpeningsCabinet", 501, 31, [110, 111, 32, 115, 117, 99, 104, 32, 115, 104, 101, 108, 102]), ("OpeningsCabinet", 341, 32, [116, 104, 101, 32, 114, 101, 115, 117, 108, 116, 44, 32, 116, 104, 101, 32, 121, 101, 97, 114, 32, 111, 114, 32, 116, 104, 101, 32, 115, 116, 114, 101, 110, 103, 116, 104, 32, 105, 115, 32, 111, 117, 116, 32, 111, 102, 32, 114, 97, 110, 103, 101]), ("OpeningsCabinet", 345, 33, [116, 104, 101, 32, 115, 104, 101, 108, 102, 32, 104, 97, 115, 32, 52, 48, 32, 103, 97, 109, 101, 115]), ("OpeningsCabinet", 503, 34, [110, 111, 32, 115, 117, 99, 104, 32, 103, 97, 109, 101]), ("OpeningsCabinet", 364, 35, [97, 32, 114, 101, 115, 117, 108, 116, 32, 105, 115, 32, 48, 32, 116, 111, 32, 50]), ("OpeningsCabinet", 366, 36, [116, 104, 101, 32, 102, 105, 114, 115, 116, 32, 121, 101, 97, 114, 32, 105, 115, 32, 98, 101, 104, 105, 110, 100, 32, 116, 104, 101, 32, 108, 97, 115, 116, 32, 111, 110, 101]), ("OpeningsCabinet", 374, 37, [110, 111, 32, 103, 97, 109, 101, 32, 112, 97, 115, 115, 101, 115, 32, 116, 104, 114, 111, 117, 103, 104, 32, 116, 104, 101, 32, 112, 114, 101, 115, 101, 110, 116, 32, 112, 111, 115, 105, 116, 105, 111, 110]), ("OpeningsCabinet", 514, 38, [110, 111, 32, 115, 117, 99, 104, 32, 99, 111, 110, 116, 105, 110, 117, 97, 116, 105, 111, 110]), ("OpeningsCabinet", 397, 39, [49, 32, 116, 111, 32, 56, 48, 32, 109, 111, 118, 101, 115, 32, 99, 97, 110, 32, 98, 101, 32, 97, 115, 107, 101, 100]), ("OpeningsCabinet", 422, 40, [97, 32, 112, 97, 116, 116, 101, 114, 110, 32, 97, 115, 107, 115, 32, 48, 32, 116, 111, 32, 49, 53]), ("OpeningsCabinet", 441, 41, [110, 111, 32, 109, 97, 116, 101, 32, 105, 115, 32, 102, 111, 114, 99, 101, 100]), ("OpeningsCabinet", 499, 42, [116, 104, 101, 32, 107, 105, 110, 100, 32, 111, 102, 32, 97, 110, 32, 101, 110, 100, 105, 110, 103, 32, 105, 115, 32, 50, 32, 116, 111, 32, 53]), ("OpeningsCabinet", 449, 43, [116, 104, 101, 32, 98, 111, 97, 114, 100, 32, 104, 97, 115, 32, 109, 111, 114, 101, 32, 116, 104, 97, 110, 32, 50, 53, 32, 115, 113, 117, 97, 114, 101, 115]), ("OpeningsCabinet", 463, 44, [110, 111, 32, 112, 111, 115, 105, 116, 105, 111, 110, 32, 111, 102, 32, 97, 110, 32, 101, 110, 100, 105, 110, 103, 32, 116, 104, 97, 116, 32, 105, 115, 32, 115, 111, 108, 118, 101, 100]), ("OpeningsCabinet", 469, 45, [116, 104, 101, 32, 101, 110, 100, 105, 110, 103, 32, 105, 115, 32, 110, 111, 116, 32, 115, 111, 108, 118, 101, 100]), ("OpeningsCabinet", 519, 46, [116, 104, 101, 32, 115, 104, 101, 108, 102, 32, 48, 32, 105, 115, 32, 101, 109, 112, 116, 121])]
/-- where a text of a number stands there -/
def stP : List Nat := [0, 1, 2, 3, 4, 5, 6, 7, 8, 9, 10, 11, 12, 13, 14, 15, 16, 17, 18, 19, 20, 21, 22, 23, 24, 25, 26, 27, 28, 29, 30, 31, 32, 33, 34, 35, 36, 37, 38, 39, 40, 41, 42, 43, 44, 45, 46]
def stA : List (String × String × String × FieldType × List Int32) := [("OpeningsCabinet$Board", "FILE_STEPS", "[I", .int, [1, 0, -1, 0, 1, -1, -1, 1]), ("OpeningsCabinet$Board", "RANK_STEPS", "[I", .int, [0, 1, 0, -1, 1, 1, -1, -1]), ("OpeningsCabinet$Board", "LEAP_FILES", "[I", .int, [1, 2, 2, 1, -1, -2, -2, -1]), ("OpeningsCabinet$Board", "LEAP_RANKS", "[I", .int, [2, 1, -1, -2, -2, -1, 1, 2]), ("java/lang/Integer", "DigitOnes", "[B", .byte, [48, 49, 50, 51, 52, 53, 54, 55, 56, 57, 48, 49, 50, 51, 52, 53, 54, 55, 56, 57, 48, 49, 50, 51, 52, 53, 54, 55, 56, 57, 48, 49, 50, 51, 52, 53, 54, 55, 56, 57, 48, 49, 50, 51, 52, 53, 54, 55, 56, 57, 48, 49, 50, 51, 52, 53, 54, 55, 56, 57, 48, 49, 50, 51, 52, 53, 54, 55, 56, 57, 48, 49, 50, 51, 52, 53, 54, 55, 56, 57, 48, 49, 50, 51, 52, 53, 54, 55, 56, 57, 48, 49, 50, 51, 52, 53, 54, 55, 56, 57]), ("java/lang/Integer", "DigitTens", "[B", .byte, [48, 48, 48, 48, 48, 48, 48, 48, 48, 48, 49, 49, 49, 49, 49, 49, 49, 49, 49, 49, 50, 50, 50, 50, 50, 50, 50, 50, 50, 50, 51, 51, 51, 51, 51, 51, 51, 51, 51, 51, 52, 52, 52, 52, 52, 52, 52, 52, 52, 52, 53, 53, 53, 53, 53, 53, 53, 53, 53, 53, 54, 54, 54, 54, 54, 54, 54, 54, 54, 54, 55, 55, 55, 55, 55, 55, 55, 55, 55, 55, 56, 56, 56, 56, 56, 56, 56, 56, 56, 56, 57, 57, 57, 57, 57, 57, 57, 57, 57, 57])]
def stN : Nat := 47
def stTm (i : Nat) : Term := .string (stT.getD i ("", 0, 0, [])).1 (stT.getD i ("", 0, 0, [])).2.1
def stB (i : Nat) : List Int32 := (stT.getD i ("", 0, 0, [])).2.2.2
abbrev stV (i : Nat) : Term := .field (stTm i) "java/lang/String" "value" "[B"
def stNeedT : List Cond := (List.range stN).flatMap fun i => .exactly (stTm i) "java/lang/String" :: .eq (.field (stTm i) "java/lang/String" "coder" "B") (.int 0) :: .arrayOf (stV i) .byte :: .eq (.length (stV i)) (.int (Int32.ofNat (stB i).length)) :: (List.range (stB i).length).map fun j => .eq (.elem (stV i) (.int (Int32.ofNat j))) (.int ((stB i).getD j 0))
abbrev stGiv : Cond := Cond.and given_1 narrow_1
theorem stT_sub : stNeedT.isSublist (flatC stGiv) = true := by decide +kernel
theorem stB_len : ∀ i, i < stN → (stB i).length < 1000 := by decide +kernel
def stTa (k : Nat) : Term := .static (stA.getD k ("", "", "", .int, [])).1 (stA.getD k ("", "", "", .int, [])).2.1 (stA.getD k ("", "", "", .int, [])).2.2.1
def stTy (k : Nat) : FieldType := (stA.getD k ("", "", "", .int, [])).2.2.2.1
def stI (k : Nat) : List Int32 := (stA.getD k ("", "", "", .int, [])).2.2.2.2
def stNeedA : List Cond := (List.range 6).flatMap fun k => .arrayOf (stTa k) (stTy k) :: .eq (.length (stTa k)) (.int (Int32.ofNat (stI k).length)) :: (List.range (stI k).length).map fun j => .eq (.elem (stTa k) (.int (Int32.ofNat j))) (.int ((stI k).getD j 0))
theorem stA_sub : stNeedA.isSublist (flatC stGiv) = true := by decide +kernel
theorem stI_len : ∀ k, k < 6 → (stI k).length < 1000 := by decide +kernel
theorem st_text {args : Array Value} {s : State} {A : Nat → Prop} (hg : stGiv.before args s = true) (hA : ∀ a : Nat, a < s.heap.size → ¬ A a) : ∀ i, ∃ q : Nat × Nat, i < stN → (stTm i).eval args s none [] s = some (.ref q.1) ∧ va_O "java/lang/String" q.1 A s s.heap ∧ va_OF "java/lang/String" "coder" "B" (.int 0) q.1 A s s.heap ∧ va_OF "java/lang/String" "value" "[B" (.ref q.2) q.1 A s s.heap ∧ va_T .byte q.2 (stB i).length (fun j => .int ((stB i).getD j 0)) A s s.heap := by
  intro i
  by_cases hi : i < stN
  · have hs : ∀ w ∈ stNeedT, w.before args s = true := fun w hw => flat_of_before _ hg w ((List.isSublist_iff_sublist.mp stT_sub).subset hw)
    have m : ∀ w ∈ (Cond.exactly (stTm i) "java/lang/String" :: .eq (.field (stTm i) "java/lang/String" "coder" "B") (.int 0) :: .arrayOf (stV i) .byte :: .eq (.length (stV i)) (.int (Int32.ofNat (stB i).length)) :: (List.range (stB i).length).map fun j => .eq (.elem (stV i) (.int (Int32.ofNat j))) (.int ((stB i).getD j 0))), w.before args s = true := fun w hw => hs w (List.mem_flatMap.mpr ⟨i, List.mem_range.mpr hi, hw⟩)
    have hex := m _ List.mem_cons_self
    have hco := m _ (List.mem_cons_of_mem _ List.mem_cons_self)
    have har := m _ (List.mem_cons_of_mem _ (List.mem_cons_of_mem _ List.mem_cons_self))
    have hle := m _ (List.mem_cons_of_mem _ (List.mem_cons_of_mem _ (List.mem_cons_of_mem _ List.mem_cons_self)))
    have hel : ∀ j, j < (stB i).length → (Cond.eq (.elem (stV i) (.int (Int32.ofNat j))) (.int ((stB i).getD j 0))).before args s = true := fun j hj => m _ (List.mem_cons_of_mem _ (List.mem_cons_of_mem _ (List.mem_cons_of_mem _ (List.mem_cons_of_mem _ (List.mem_map.mpr ⟨j, List.mem_range.mpr hj, rfl⟩)))))
    obtain ⟨a, c, cA, kA, q1, q2, q3, q4, q5, q6, -⟩ := Cond.exactly_spec (args := args) (first := s) (o := none) (s := s) (idx := []) (t := stTm i) (cls := "java/lang/String") hex
    obtain ⟨t, ht, hT⟩ := va_Tof (f := fun j => .int ((stB i).getD j 0)) (A := A) (Nat.lt_trans (stB_len i hi) (by decide)) har (va_eqt hle) (fun j hj => va_eqt (hel j hj)) hA
    exact ⟨(a, t), fun _ => ⟨q1, ⟨cA, q3, q5, by rw [q6]; exact q2, hA a (Array.getElem?_eq_some_iff.mp q3).1⟩, vk_OFof q1 (va_eqt hco) hA, vk_OFof q1 ht hA, hT⟩⟩
  · exact ⟨(0, 0), fun h => absurd h hi⟩
theorem st_row {args : Array Value} {s : State} {A : Nat → Prop} (hg : stGiv.before args s = true) (hA : ∀ a : Nat, a < s.heap.size → ¬ A a) : ∀ k, ∃ t : Nat, k < 6 → (stTa k).eval args s none [] s = some (.ref t) ∧ va_T (stTy k) t (stI k).length (fun j => .int ((stI k).getD j 0)) A s s.heap := by
  intro k
  by_cases hk : k < 6
  · have hs : ∀ w ∈ stNeedA, w.before args s = true := fun w hw => flat_of_before _ hg w ((List.isSublist_iff_sublist.mp stA_sub).subset hw)
    have m : ∀ w ∈ (Cond.arrayOf (stTa k) (stTy k) :: .eq (.length (stTa k)) (.int (Int32.ofNat (stI k).length)) :: (List.range (stI k).length).map fun j => .eq (.elem (stTa k) (.int (Int32.ofNat j))) (.int ((stI k).getD j 0))), w.before args s = true := fun w hw => hs w (List.mem_flatMap.mpr ⟨k, List.mem_range.mpr hk, hw⟩)
    have hel : ∀ j, j < (stI k).length → (Cond.eq (.elem (stTa k) (.int (Int32.ofNat j))) (.int ((stI k).getD j 0))).before args s = true := fun j hj => m _ (List.mem_cons_of_mem _ (List.mem_cons_of_mem _ (List.mem_map.mpr ⟨j, List.mem_range.mpr hj, rfl⟩)))
    obtain ⟨t, ht, hT⟩ := va_Tof (f := fun j => .int ((stI k).getD j 0)) (A := A) (Nat.lt_trans (stI_len k hk) (by decide)) (m _ List.mem_cons_self) (va_eqt (m _ (List.mem_cons_of_mem _ List.mem_cons_self))) (fun j hj => va_eqt (hel j hj)) hA
    exact ⟨t, fun _ => ⟨ht, hT⟩⟩
  · exact ⟨0, fun h => absurd h hk⟩
noncomputable def cIf {α : Type} (p : Prop) (x y : α) : α := @ite α p (Classical.propDecidable p) x y
theorem cIf_t {α : Type} {p : Prop} {x y : α} (h : p) : cIf p x y = x := @if_pos p (Classical.propDecidable p) h α x y
theorem cIf_f {α : Type} {p : Prop} {x y : α} (h : ¬ p) : cIf p x y = y := @if_neg p (Classical.propDecidable p) h α x y
def arrAt (s : State) (a : Nat) (ty : FieldType) : Prop := ∃ cell, s.heap[a]? = some cell ∧ s.isArrayOf cell ty
theorem arrAt_one {s : State} {a : Nat} {t u : FieldType} (h : arrAt s a t) (h2 : arrAt s a u) : t = u := by
  obtain ⟨c1, e1, -, k1, f1, m1, g1⟩ := h
  obtain ⟨c2, e2, -, k2, f2, m2, g2⟩ := h2
  cases e1.symm.trans e2
  cases f1.symm.trans f2
  have := g1.symm.trans g2
  injection this
noncomputable def stK (s : State) (a : Nat) : Nat := cIf (arrAt s a .byte) 20 (cIf (arrAt s a .int) 21 (cIf (arrAt s a (.object "java/lang/Object")) 24 0))
theorem stK_b {s : State} {a : Nat} (h : arrAt s a .byte) : stK s a = 20 := cIf_t h
theorem stK_i {s : State} {a : Nat} (h : arrAt s a .int) : stK s a = 21 := by
  unfold stK
  rw [cIf_f (fun z => by have := arrAt_one h z; cases this), cIf_t h]
theorem stK_o {s : State} {a : Nat} (h : arrAt s a (.object "java/lang/Object")) : stK s a = 24 := by
  unfold stK
  rw [cIf_f (fun z => by have := arrAt_one h z; cases this), cIf_f (fun z => by have := arrAt_one h z; cases this), cIf_t h]
theorem stK_0 {s : State} {a : Nat} (h : ∀ ty, ¬ arrAt s a ty) : stK s a = 0 := by
  unfold stK
  rw [cIf_f (h _), cIf_f (h _), cIf_f (h _)]
def stLen (s : State) (a : Nat) : Nat := match s.heap[a]? with
  | some q7 => q7.slots.size.toInt32.toNatClampNeg
  | none => 0
def stInt (s : State) (a j : Nat) : Int32 := match s.heap[a]? with
  | some q7 => (match q7.slots[j]? with
    | some (.int v) => v
    | _ => 0)
  | none => 0
noncomputable def stRef (s : State) (a : Nat) : Nat := Classical.epsilon (fun v : Nat => va_OF "java/lang/String" "value" "[B" (.ref v) a (fun q => s.heap.size ≤ q) s s.heap)
noncomputable def stS (s : State) : wS := ([], stK s, stLen s, fun a j => cIf (stK s a = 0) 0 (stInt s a j), fun _ _ => 0, fun a _ => some (stRef s a))
theorem st_ofRow {s : State} {D : wD} (hD : D.2.2.2 = stS s) {ty : FieldType} {a N : Nat} {z : Nat → Int32} {k : Nat} (hk : (ty = .byte ∧ k = 20) ∨ (ty = .int ∧ k = 21)) (hN : N < 2 ^ 31) (hT : va_T ty a N (fun j => .int (z j)) (fun q => s.heap.size ≤ q) s s.heap) :
    sK (stS s) a = k ∧ sN (stS s) a = N ∧ (∀ j, j < N → sI (stS s) a j = z j) ∧ wRc D a (fun q => s.heap.size ≤ q) s s.heap := by
  obtain ⟨cell, h1, h2, h3, h4, h5, h6, h7⟩ := id hT
  have e1 : sK (stS s) a = k := by
    rcases hk with ⟨rfl, rfl⟩ | ⟨rfl, rfl⟩
    · exact stK_b ⟨cell, h1, h2⟩
    · exact stK_i ⟨cell, h1, h2⟩
  have e2 : sN (stS s) a = N := by
    show stLen s a = N
    simp only [stLen, h1, h5]
    exact Int32.toNatClampNeg_ofNat_of_lt hN
  have e3 : ∀ j, j < N → sI (stS s) a j = z j := fun j hj => by
    show cIf (stK s a = 0) 0 (stInt s a j) = z j
    rw [cIf_f (fun q => by rw [show stK s a = k from e1] at q; rcases hk with ⟨-, rfl⟩ | ⟨-, rfl⟩ <;> cases q)]
    simp only [stInt, h1, h6 j hj]
  refine ⟨e1, e2, e3, ?_⟩
  have hT2 : va_T ty a (sN (stS s) a) (fun j => .int (sI (stS s) a j)) (fun q => s.heap.size ≤ q) s s.heap := by
    rw [e2]
    exact ⟨cell, h1, h2, h3, h4, h5, fun j hj => by rw [h6 j hj]; show some (Value.int (z j)) = some (Value.int (sI (stS s) a j)); rw [e3 j hj], h7⟩
  refine ⟨h7, (Array.getElem?_eq_some_iff.mp h1).1, ?_, ?_, ?_, ?_⟩ <;> rw [hD] <;> intro q <;> rw [e1] at q <;> rcases hk with ⟨rfl, rfl⟩ | ⟨rfl, rfl⟩ <;> first | (cases q; done) | exact hT2
theorem st_ofText {s : State} {D : wD} (hD : D.2.2.2 = stS s) {a v : Nat} {cC : ClassId} (hcl : ClassAt s "java/lang/String" cC) (hO : va_O "java/lang/String" a (fun q => s.heap.size ≤ q) s s.heap) (h1 : va_OF "java/lang/String" "coder" "B" (.int 0) a (fun q => s.heap.size ≤ q) s s.heap) (h2 : va_OF "java/lang/String" "value" "[B" (.ref v) a (fun q => s.heap.size ≤ q) s s.heap) :
    sK (stS s) a = 0 ∧ sI (stS s) a 1 = 0 ∧ sR (stS s) a 0 = some v ∧ wRc D a (fun q => s.heap.size ≤ q) s s.heap := by
  have e1 : sK (stS s) a = 0 := by
    refine stK_0 (fun ty z => ?_)
    obtain ⟨c1, f1, -, k1, f3, m1, f4⟩ := z
    obtain ⟨c2, g1, g2, g3, -⟩ := hO
    obtain ⟨p1, kC, p2, p3⟩ := hcl
    cases f1.symm.trans g1
    cases p1.symm.trans g3
    cases f3.symm.trans p2
    rw [f4] at p3
    cases p3
  have e2 : sI (stS s) a 1 = 0 := cIf_t e1
  have e3 : sR (stS s) a 0 = some v := by
    have h3 : va_OF "java/lang/String" "value" "[B" (.ref (stRef s a)) a (fun q => s.heap.size ≤ q) s s.heap := Classical.epsilon_spec (p := fun v : Nat => va_OF "java/lang/String" "value" "[B" (.ref v) a (fun q => s.heap.size ≤ q) s s.heap) ⟨v, h2⟩
    obtain ⟨c1, k1, i1, f1, x1, a1, a2, a3, a4, a5, a6⟩ := h2
    obtain ⟨c2, k2, i2, f2, x2, b1, b2, b3, b4, b5, b6⟩ := h3
    cases a1.symm.trans b1
    cases a3.symm.trans b3
    have := a5.symm.trans b5
    show some (stRef s a) = some v
    cases this
    rfl
  obtain ⟨cell, g1, g2, g3, g4⟩ := id hO
  refine ⟨e1, e2, e3, g4, (Array.getElem?_eq_some_iff.mp g1).1, ?_, ?_, ?_, ?_⟩ <;> rw [hD] <;> intro q
  · rw [e2, e3]; exact ⟨hO, h1, h2⟩
  all_goals (rw [e1] at q; cases q)
theorem st_ofNone {s : State} {D : wD} (hD : D.2.2.2 = stS s) {a : Nat} {f : Nat → Value} (hT : va_T (.object "java/lang/Object") a 0 f (fun q => s.heap.size ≤ q) s s.heap) (hO : va_O "[Ljava/lang/Object;" a (fun q => s.heap.size ≤ q) s s.heap) :
    sK (stS s) a = 24 ∧ sN (stS s) a = 0 ∧ wRc D a (fun q => s.heap.size ≤ q) s s.heap := by
  obtain ⟨cell, h1, h2, h3, h4, h5, h6, h7⟩ := id hT
  have e1 : sK (stS s) a = 24 := stK_o ⟨cell, h1, h2⟩
  have e2 : sN (stS s) a = 0 := by
    show stLen s a = 0
    simp only [stLen, h1, h5]
    rfl
  refine ⟨e1, e2, h7, (Array.getElem?_eq_some_iff.mp h1).1, ?_, ?_, ?_, ?_⟩ <;> rw [hD] <;> intro q
  · rw [e1] at q; cases q
  · rw [e1] at q; cases q
  · rw [e1] at q; cases q
  · rw [e2]; exact ⟨⟨cell, h1, h2, h3, h4, h5, fun j hj => absurd hj (Nat.not_lt_zero j), h7⟩, hO⟩
theorem st_eqR {args : Array Value} {s : State} {t u : Term} {a : Nat} (h : (Cond.eq t u).before args s = true) (ht : t.eval args s none [] s = some (.ref a)) : u.eval args s none [] s = some (.ref a) := by
  cases hv : u.eval args s none [] s with
  | none => simp [Cond.before, Cond.holds, Cond.value, ht, hv] at h
  | some w =>
    simp only [Cond.before, Cond.holds, Cond.value, ht, hv] at h
    cases w <;> simp_all
/-- what the constants, the static rows and the script hold -/
def wDok (D : wD) (b L : Nat) (xs : Nat → Int32) : Prop :=
  (∀ i, i < stN → D.2.2.1 i ∈ D.2.1 ∧ sK D.2.2.2 (D.2.2.1 i) = 0 ∧ sI D.2.2.2 (D.2.2.1 i) 1 = 0 ∧ ∃ v : Nat, sR D.2.2.2 (D.2.2.1 i) 0 = some v ∧ v ∈ D.2.1 ∧ sK D.2.2.2 v = 20 ∧ sN D.2.2.2 v = (stB (stP.getD i 0)).length ∧ ∀ j, j < (stB (stP.getD i 0)).length → sI D.2.2.2 v j = (stB (stP.getD i 0)).getD j 0) ∧
  (∀ k, k < 6 → D.2.2.1 (100 + k) ∈ D.2.1 ∧ sK D.2.2.2 (D.2.2.1 (100 + k)) = (if k < 4 then 21 else 20) ∧ sN D.2.2.2 (D.2.2.1 (100 + k)) = (stI k).length ∧ ∀ j, j < (stI k).length → sI D.2.2.2 (D.2.2.1 (100 + k)) j = (stI k).getD j 0) ∧
  (D.2.2.1 106 ∈ D.2.1 ∧ sK D.2.2.2 (D.2.2.1 106) = 24 ∧ sN D.2.2.2 (D.2.2.1 106) = 0) ∧
  (b ∈ D.2.1 ∧ sK D.2.2.2 b = 21 ∧ sN D.2.2.2 b = L ∧ ∀ j, j < L → sI D.2.2.2 b j = xs j) ∧ sL D.2.2.2 = []
theorem st_cls {args : Array Value} {s : State} (hwg : ∀ w ∈ WG, w.before args s = true) : ∃ (dC : Nat → ClassId) (dI : Nat → Nat → Nat), ∀ (k : Nat) (q : vw_C), vwCl[k]? = some q → u_Kn s q.1 q.2.1 q.2.2 (dC k) (dI k) := by
  have h : ∀ k : Nat, ∃ p : ClassId × (Nat → Nat), ∀ q : vw_C, vwCl[k]? = some q → u_Kn s q.1 q.2.1 q.2.2 p.1 p.2 := by
    intro k
    match k with
    | 0 => obtain ⟨c, i, h⟩ := u_known hwg wu_0 (hwg _ wn_0); exact ⟨(c, i), fun q hq => by cases hq; exact h⟩
    | 1 => obtain ⟨c, i, h⟩ := u_known hwg wu_1 (hwg _ wn_1); exact ⟨(c, i), fun q hq => by cases hq; exact h⟩
    | 2 => obtain ⟨c, i, h⟩ := u_known hwg wu_2 (hwg _ wn_2); exact ⟨(c, i), fun q hq => by cases hq; exact h⟩
    | 3 => obtain ⟨c, i, h⟩ := u_known hwg wu_3 (hwg _ wn_3); exact ⟨(c, i), fun q hq => by cases hq; exact h⟩
    | 4 => obtain ⟨c, i, h⟩ := u_known hwg wu_4 (hwg _ wn_4); exact ⟨(c, i), fun q hq => by cases hq; exact h⟩
    | 5 => obtain ⟨c, i, h⟩ := u_known hwg wu_5 (hwg _ wn_5); exact ⟨(c, i), fun q hq => by cases hq; exact h⟩
    | 6 => obtain ⟨c, i, h⟩ := u_known hwg wu_6 (hwg _ wn_6); exact ⟨(c, i), fun q hq => by cases hq; exact h⟩
    | 7 => obtain ⟨c, i, h⟩ := u_known hwg wu_7 (hwg _ wn_7); exact ⟨(c, i), fun q hq => by cases hq; exact h⟩
    | 8 => obtain ⟨c, i, h⟩ := u_known hwg wu_8 (hwg _ wn_8); exact ⟨(c, i), fun q hq => by cases hq; exact h⟩
    | 9 => obtain ⟨c, i, h⟩ := u_known hwg wu_9 (hwg _ wn_9); exact ⟨(c, i), fun q hq => by cases hq; exact h⟩
    | 10 => obtain ⟨c, i, h⟩ := u_known hwg wu_10 (hwg _ wn_10); exact ⟨(c, i), fun q hq => by cases hq; exact h⟩
    | 11 => obtain ⟨c, i, h⟩ := u_known hwg wu_11 (hwg _ wn_11); exact ⟨(c, i), fun q hq => by cases hq; exact h⟩
    | 12 => obtain ⟨c, i, h⟩ := u_known hwg wu_12 (hwg _ wn_12); exact ⟨(c, i), fun q hq => by cases hq; exact h⟩
    | 13 => obtain ⟨c, i, h⟩ := u_known hwg wu_13 (hwg _ wn_13); exact ⟨(c, i), fun q hq => by cases hq; exact h⟩
    | 14 => obtain ⟨c, i, h⟩ := u_known hwg wu_14 (hwg _ wn_14); exact ⟨(c, i), fun q hq => by cases hq; exact h⟩
    | 15 => obtain ⟨c, i, h⟩ := u_known hwg wu_15 (hwg _ wn_15); exact ⟨(c, i), fun q hq => by cases hq; exact h⟩
    | 16 => obtain ⟨c, i, h⟩ := u_known hwg wu_16 (hwg _ wn_16); exact ⟨(c, i), fun q hq => by cases hq; exact h⟩
    | 17 => obtain ⟨c, i, h⟩ := u_known hwg wu_17 (hwg _ wn_17); exact ⟨(c, i), fun q hq => by cases hq; exact h⟩
    | k + 18 => exact ⟨(Classical.choice ⟨(u_known hwg wu_0 (hwg _ wn_0)).choose⟩, fun _ => 0), fun q hq => by simp [vwCl] at hq⟩
  obtain ⟨f, hf⟩ := Classical.axiomOfChoice h
  exact ⟨fun k => (f k).1, fun k => (f k).2, hf⟩
theorem st_arr {args : Array Value} {s : State} {ty : FieldType} (hn : ∀ C, ty ≠ .object C) (h : (Cond.arrayClass ty).before args s = true) : ∃ c : ClassId, ArrOfT s c ty ∧ va_RA s c ty := by
  obtain ⟨c, k, comp, h1, h2, h3⟩ := Cond.arrayClass_spec (args := args) (first := s) (o := none) (s := s) (idx := []) h
  refine ⟨c, fun n z => ⟨fun k h => (by cases h), k, h2, comp, h3⟩, ?_⟩
  cases ty <;> first | exact absurd rfl (hn _) | exact h1
theorem st_arrO {args : Array Value} {s : State} {C : String} (h : (Cond.arrayOver (.object C)).before args s = true) : ∃ c : ClassId, ArrOfT s c (.object C) ∧ va_RA s c (.object C) := by
  obtain ⟨comp, c, k, h1, -, h2, h3, h4⟩ := Cond.arrayOver_spec (args := args) (first := s) (o := none) (s := s) (idx := []) h
  exact ⟨c, fun n z => ⟨fun k h => (by cases h), k, h2, comp, h3⟩, k, comp, h2, h3, h1, h4⟩
theorem st_wXp {args : Array Value} {s : State} (hts : ∀ w ∈ lw_tbl, w.before args s = true) : ∀ w ∈ wXp, w.before args s = true := by
  have key : ∀ y : MethodName, y.cls = RJ5 → Cond.privateMethod y ∈ lw_tbl → Cond.instanceMethod y ∈ lw_tbl → (Cond.selects RJ4 y y).before args s = true := by
    intro y hy h1 h2
    have h0 := hts _ (show Cond.selects RJ4 yJ5_isLatin1_aae02 yJ5_isLatin1_aae02 ∈ lw_tbl by decide +kernel)
    have hpriv := hts _ h1
    obtain ⟨mk, methM, hnamed, hmethM, -, -⟩ := Cond.instanceMethod_spec (hts _ h2)
    obtain ⟨c, r, m2, q1, q2, q3, q4, q5⟩ := Cond.selects_spec h0
    have hfound : s.methodFound? y.cls y.name y.desc = some mk := State.methodFound?_of_named hnamed (by rw [hy]; decide)
    have hsel : selectMethod {} s.vm c mk = .method mk := selectMethod_private hmethM (Cond.privateMethod_at hpriv mk methM hnamed hmethM)
    have e1 : mk.cls = m2.cls := by
      have g1 := findClass_of_methodNamed hnamed
      have g2 := findClass_of_methodNamed q3
      rw [hy] at g1
      exact Option.some.inj (g1.symm.trans g2)
    simp only [Cond.before, Cond.holds, Cond.value] at h0 ⊢
    simp only [q1, q2, q3, q4] at h0
    simp only [q1, hfound, hnamed, hsel, e1]
    simpa using h0
  intro w hw
  simp only [wXp, List.mem_cons, List.not_mem_nil, or_false] at hw
  rcases hw with h | h | h | h | h | h <;> rw [h] <;> exact key _ rfl (by decide +kernel) (by decide +kernel)
theorem st_wg {args : Array Value} {s : State} (hts : ∀ w ∈ lw_tbl, w.before args s = true) : ∀ w ∈ WG, w.before args s = true := fun w hw => by
  rcases List.mem_append.mp (List.mem_filter.mp hw).1 with h | h
  · exact st_wXp hts w h
  · exact hts w h
set_option maxRecDepth 100000 in
theorem st_all {args : Array Value} {s : State} {b L : Nat} {xs : Nat → Int32} (hg : stGiv.before args s = true) (hts : ∀ w ∈ lw_tbl, w.before args s = true) (hX : va_X b L xs s s.heap) (hL : L ≤ 2560) : ∃ (D : wD) (cy : Nat → ClassId), wK D cy (fun q => s.heap.size ≤ q) s ∧ wRO D D.2.2.2 ∧ wDok D b L xs := by
  have hA : ∀ a : Nat, a < s.heap.size → ¬ (fun q : Nat => s.heap.size ≤ q) a := fun a h => Nat.not_le.mpr h
  have hwg := st_wg hts
  have hfl := flat_of_before _ hg
  obtain ⟨dC, dI, hcl⟩ := st_cls hwg
  obtain ⟨ad, had⟩ := Classical.axiomOfChoice (st_text hg hA)
  obtain ⟨rw', hrw⟩ := Classical.axiomOfChoice (st_row hg hA)
  obtain ⟨e0, e0e, e0T⟩ := va_Tof (f := fun _ => .null) (A := fun q : Nat => s.heap.size ≤ q) (N := 0) (ty := .object "java/lang/Object") (by decide) (hfl (.arrayOf (.static "java/util/ArrayList" "DEFAULTCAPACITY_EMPTY_ELEMENTDATA" "[Ljava/lang/Object;") (.object "java/lang/Object")) (by decide +kernel)) (va_eqt (hfl (.eq (.length (.static "java/util/ArrayList" "DEFAULTCAPACITY_EMPTY_ELEMENTDATA" "[Ljava/lang/Object;")) (.int 0)) (by decide +kernel))) (fun j hj => absurd hj (Nat.not_lt_zero j)) hA
  have e0O : va_O "[Ljava/lang/Object;" e0 (fun q : Nat => s.heap.size ≤ q) s s.heap := by
    obtain ⟨a, c, cA, kA, q1, q2, q3, q4, q5, q6, -⟩ := Cond.exactly_spec (args := args) (first := s) (o := none) (s := s) (idx := []) (hfl (.exactly (.static "java/util/ArrayList" "DEFAULTCAPACITY_EMPTY_ELEMENTDATA" "[Ljava/lang/Object;") "[Ljava/lang/Object;") (by decide +kernel))
    cases e0e.symm.trans q1
    exact ⟨cA, q3, q5, by rw [q6]; exact q2, hA _ (Array.getElem?_eq_some_iff.mp q3).1⟩
  obtain ⟨mi, hmi⟩ := va_Mi.of (hfl (.isRef (.mirror "[Ljava/lang/Object;")) (by decide +kernel))
  have hXT : va_T .int b L (fun j => .int (xs j)) (fun q : Nat => s.heap.size ≤ q) s s.heap := by
    obtain ⟨scr, h1, h2, h3, h4, h5⟩ := hX
    exact ⟨scr, h1, h2, h3, Nat.le_of_eq h4.symm, by rw [h4], h5, hA b (Array.getElem?_eq_some_iff.mp h1).1⟩
  obtain ⟨D, hDe⟩ : ∃ D : wD, D = ((dC, dI), (List.range stN).map (fun i => (ad i).1) ++ ((List.range stN).map (fun i => (ad i).2) ++ ((List.range 6).map rw' ++ [e0, b])), (fun i => if i < stN then (ad (stP.getD i 0)).1 else if i < 106 then rw' (i - 100) else if i = 106 then e0 else mi), stS s) := ⟨_, rfl⟩
  have hD : D.2.2.2 = stS s := by rw [hDe]
  have hRO : D.2.1 = (List.range stN).map (fun i => (ad i).1) ++ ((List.range stN).map (fun i => (ad i).2) ++ ((List.range 6).map rw' ++ [e0, b])) := by rw [hDe]
  have hP9 : ∀ i, i < stN → stP.getD i 0 < stN := by decide +kernel
  have hbk : ∀ i, i < stN → D.2.2.1 i = (ad (stP.getD i 0)).1 := fun i hi => by rw [hDe]; exact if_pos hi
  have hbr : ∀ k, k < 6 → D.2.2.1 (100 + k) = rw' k := fun k hk => by
    rw [hDe]
    show (if 100 + k < stN then _ else if 100 + k < 106 then rw' (100 + k - 100) else _) = _
    rw [if_neg (by show ¬ 100 + k < stN; have : stN ≤ 100 := (by decide); omega), if_pos (by omega), Nat.add_sub_cancel_left]
  have hb6 : D.2.2.1 106 = e0 := by rw [hDe]; rfl
  have hb2 : D.2.2.1 200 = mi := by rw [hDe]; rfl
  have hty : ∀ k, k < 6 → (stTy k = .byte ∧ (if k < 4 then 21 else 20) = 20) ∨ (stTy k = .int ∧ (if k < 4 then 21 else 20) = 21) := by decide +kernel
  have fT := fun i (hi : i < stN) => st_ofText hD (hcl 0 _ rfl).2 (had i hi).2.1 (had i hi).2.2.1 (had i hi).2.2.2.1
  have fV := fun i (hi : i < stN) => st_ofRow hD (k := 20) (Or.inl ⟨rfl, rfl⟩) (Nat.lt_trans (stB_len i hi) (by decide)) (had i hi).2.2.2.2
  have fR := fun k (hk : k < 6) => st_ofRow hD (hty k hk) (Nat.lt_trans (stI_len k hk) (by decide)) (hrw k hk).2
  have fE := st_ofNone hD e0T e0O
  have fX := st_ofRow hD (k := 21) (Or.inr ⟨rfl, rfl⟩) (by omega) hXT
  have mT : ∀ i, i < stN → (ad i).1 ∈ D.2.1 := fun i hi => by rw [hRO]; exact List.mem_append_left _ (List.mem_map.mpr ⟨i, List.mem_range.mpr hi, rfl⟩)
  have mV : ∀ i, i < stN → (ad i).2 ∈ D.2.1 := fun i hi => by rw [hRO]; exact List.mem_append_right _ (List.mem_append_left _ (List.mem_map.mpr ⟨i, List.mem_range.mpr hi, rfl⟩))
  have mR : ∀ k, k < 6 → rw' k ∈ D.2.1 := fun k hk => by rw [hRO]; exact List.mem_append_right _ (List.mem_append_right _ (List.mem_append_left _ (List.mem_map.mpr ⟨k, List.mem_range.mpr hk, rfl⟩)))
  have mE : e0 ∈ D.2.1 := by rw [hRO]; exact List.mem_append_right _ (List.mem_append_right _ (List.mem_append_right _ List.mem_cons_self))
  have mB : b ∈ D.2.1 := by rw [hRO]; exact List.mem_append_right _ (List.mem_append_right _ (List.mem_append_right _ (List.mem_cons_of_mem _ List.mem_cons_self)))
  have all : ∀ {P : Nat → Prop}, (∀ i, i < stN → P (ad i).1) → (∀ i, i < stN → P (ad i).2) → (∀ k, k < 6 → P (rw' k)) → P e0 → P b → ∀ a ∈ D.2.1, P a := by
    intro P h1 h2 h3 h4 h5 a ha
    rw [hRO] at ha
    rcases List.mem_append.mp ha with h | h
    · obtain ⟨i, hi, rfl⟩ := List.mem_map.mp h; exact h1 i (List.mem_range.mp hi)
    rcases List.mem_append.mp h with h | h
    · obtain ⟨i, hi, rfl⟩ := List.mem_map.mp h; exact h2 i (List.mem_range.mp hi)
    rcases List.mem_append.mp h with h | h
    · obtain ⟨i, hi, rfl⟩ := List.mem_map.mp h; exact h3 i (List.mem_range.mp hi)
    simp only [List.mem_cons, List.not_mem_nil, or_false] at h
    rcases h with rfl | rfl
    · exact h4
    · exact h5
  have hsr : ∀ q ∈ wSr, ∃ k, (k < 6 ∧ q.2.2.2.1 = 100 + k ∧ q.2.2.2.2 = (if k < 4 then 21 else 20) ∧ stTa k = .static q.1 q.2.1 q.2.2.1) ∨ (k = 6 ∧ q = ("java/util/ArrayList", "DEFAULTCAPACITY_EMPTY_ELEMENTDATA", "[Ljava/lang/Object;", 106, 24)) := by
    intro q hq
    simp only [wSr, List.mem_cons, List.not_mem_nil, or_false] at hq
    rcases hq with h | h | h | h | h | h | h <;> subst h
    · exact ⟨0, Or.inl ⟨by decide, rfl, rfl, rfl⟩⟩
    · exact ⟨1, Or.inl ⟨by decide, rfl, rfl, rfl⟩⟩
    · exact ⟨2, Or.inl ⟨by decide, rfl, rfl, rfl⟩⟩
    · exact ⟨3, Or.inl ⟨by decide, rfl, rfl, rfl⟩⟩
    · exact ⟨4, Or.inl ⟨by decide, rfl, rfl, rfl⟩⟩
    · exact ⟨5, Or.inl ⟨by decide, rfl, rfl, rfl⟩⟩
    · exact ⟨6, Or.inr ⟨rfl, rfl⟩⟩
  have hstr : ∀ q ∈ wStr, q.2.2.2 < stN ∧ (stTm (stP.getD q.2.2.2 0) = .string q.1 q.2.1 ∨ Cond.eq (stTm (stP.getD q.2.2.2 0)) (.string q.1 q.2.1) ∈ flatC stGiv) := by decide +kernel
  obtain ⟨y0, a0⟩ := st_arr (ty := .byte) (fun _ h => nomatch h) (hts (.arrayClass .byte) (by decide +kernel))
  obtain ⟨y1, a1⟩ := st_arr (ty := .int) (fun _ h => nomatch h) (hts (.arrayClass .int) (by decide +kernel))
  obtain ⟨y2, a2⟩ := st_arr (ty := .long) (fun _ h => nomatch h) (hts (.arrayClass .long) (by decide +kernel))
  obtain ⟨y3, a3⟩ := st_arr (ty := .boolean) (fun _ h => nomatch h) (hts (.arrayClass .boolean) (by decide +kernel))
  obtain ⟨y4, a4⟩ := st_arrO (C := "java/lang/Object") (hts (.arrayOver (.object "java/lang/Object")) (by decide +kernel))
  obtain ⟨y5, a5⟩ := st_arr (ty := .double) (fun _ h => nomatch h) (hts (.arrayClass .double) (by decide +kernel))
  refine ⟨D, fun k => match k with | 0 => y0 | 1 => y1 | 2 => y2 | 3 => y3 | 4 => y4 | _ => y5, ⟨⟨?_, ?_⟩, ?_, ?_, ?_⟩, ?_, ?_⟩
  · rw [hDe]; exact hcl
  · intro k q hq
    match k, hq with
    | 0, hq => cases hq; exact a0
    | 1, hq => cases hq; exact a1
    | 2, hq => cases hq; exact a2
    | 3, hq => cases hq; exact a3
    | 4, hq => cases hq; exact a4
    | 5, hq => cases hq; exact a5
    | k + 6, hq => simp at hq
  · intro w hw
    have h1 := (show ∀ w ∈ wNW, w ∈ lw_tbl by decide +kernel) w hw
    exact va_Nw.of (wNk_tab (wNW_ok w hw)) (hts w h1)
  · refine ⟨all (fun i hi => (fT i hi).2.2.2) (fun i hi => (fV i hi).2.2.2) (fun k hk => (fR k hk).2.2.2) fE.2.2 fX.2.2.2, ?_, ?_, ?_, ?_, ?_, ?_, ?_, ?_, ?_, ?_⟩
    · intro q hq
      obtain ⟨h1, h2⟩ := hstr q hq
      rw [hbk _ h1]
      refine vk_R.of (hts _ ((show ∀ q ∈ wStr, Cond.stringRef q.1 q.2.1 q.2.2.1 ∈ lw_tbl by decide +kernel) q hq)) ?_
      have h3 := (had _ (hP9 _ h1)).1
      rcases h2 with h2 | h2
      · rw [← h2]; exact h3
      · exact st_eqR (hfl _ h2) h3
    · intro q hq
      have h9 := (show ∀ q ∈ wSr, Cond.laysStatic q.1 q.2.1 q.2.2.1 ∈ lw_tbl ∧ Cond.initialized q.1 ∈ lw_tbl by decide +kernel) q hq
      refine va_Zref (hts _ h9.1) (hts _ h9.2) ?_ hA
      obtain ⟨k, ⟨k1, k2, -, k4⟩ | ⟨-, k2⟩⟩ := hsr q hq
      · rw [k2, hbr k k1, ← k4]; exact (hrw k k1).1
      · subst k2; rw [hb6]; exact e0e
    · intro q hq
      have h9 := (show ∀ q ∈ wSi, (Cond.laysStatic q.1 q.2.1 q.2.2.1 ∈ lw_tbl ∧ Cond.initialized q.1 ∈ lw_tbl) ∧ Cond.eq (.static q.1 q.2.1 q.2.2.1) (.int q.2.2.2) ∈ flatC stGiv by decide +kernel) q hq
      exact va_Zof (hts _ h9.1.1) (hts _ h9.1.2) (va_eqi (hfl _ h9.2)) hA
    · exact vx_Zqof (hts _ (by decide +kernel)) (hts _ (by decide +kernel)) (hfl _ (by decide +kernel)) hA
    · exact vx_Zqof (hts _ (by decide +kernel)) (hts _ (by decide +kernel)) (hfl _ (by decide +kernel)) hA
    · exact va_Zqof (hts _ (by decide +kernel)) (hts _ (by decide +kernel)) (hfl _ (by decide +kernel)) hA
    · exact va_AO.of (hts _ (by decide +kernel))
    · intro q hq
      exact va_Nc.of (hfl _ ((show ∀ q ∈ wNC, Cond.not (.castable q.1 q.2) ∈ flatC stGiv by decide +kernel) q hq))
    · rw [hb2]; exact hmi
    · exact va_Dc.of (hts (.declares ⟨"java/lang/Object", "getClass", "()Ljava/lang/Class;"⟩) (by decide +kernel))
  · refine ⟨fun q hq => ?_, fun q hq => ?_, ?_⟩
    · obtain ⟨h1, -⟩ := hstr q hq
      rw [hbk _ h1, hD]
      exact ⟨mT _ (hP9 _ h1), (fT _ (hP9 _ h1)).1⟩
    · obtain ⟨k, ⟨k1, k2, k3, -⟩ | ⟨-, k2⟩⟩ := hsr q hq
      · rw [k2, hbr k k1, k3, hD]; exact ⟨mR k k1, (fR k k1).1⟩
      · subst k2; rw [hb6, hD]; exact ⟨mE, fE.1⟩
    · rw [hD]
      exact all (fun i hi => Or.inl (fT i hi).1) (fun i hi => Or.inr (Or.inl (fV i hi).1)) (fun k hk => by rw [(fR k hk).1]; split <;> simp) (Or.inr (Or.inr (Or.inr fE.1))) (Or.inr (Or.inr (Or.inl fX.1)))
  · exact fun a _ => ⟨rfl, rfl, rfl, rfl, rfl⟩
  · rw [wDok, hD]
    refine ⟨fun i hi => ?_, fun k hk => ?_, ?_, ⟨mB, fX.1, fX.2.1, fX.2.2.1⟩, rfl⟩
    · have hp := hP9 i hi
      rw [hbk i hi]
      exact ⟨mT _ hp, (fT _ hp).1, (fT _ hp).2.1, (ad (stP.getD i 0)).2, (fT _ hp).2.2.1, mV _ hp, (fV _ hp).1, (fV _ hp).2.1, (fV _ hp).2.2.1⟩
    · rw [hbr k hk]
      exact ⟨mR k hk, (fR k hk).1, (fR k hk).2.1, (fR k hk).2.2.1⟩
    · rw [hb6]; exact ⟨mE, fE.1, fE.2.1⟩
/-- the law's walk, out of what its code does as a predicate on the state -/
theorem st_law {p : Program} {e : Env} {s : State} {m : MethodId} {below : List Frame} {meth : Method} {c : Code} (l : Launch) (hflags : l.flags = flags0) {b L : Nat} {xs : Nat → Int32} (hL : L ≤ 2560) (C0 : lw_At p s m meth c b L xs)
    (main : ∀ D : wD, wDok D b L xs → wp_L_law_0 D (fun r _ => r = 1) 601024 7293034 D.2.2.2 b) : W p l e room_1 s m #[Value.ref b] below meth c s.heap [] 0 0 (lw_Z below #[Value.ref b] s) (entryFrame m ([Value.ref b] : List Value).toArray 9) := by
  obtain ⟨hx, hb, hr, hml, hown, hts, hX, hbl, hlocks, hgv⟩ := id C0
  obtain ⟨D, cy, hK, hRO, hok⟩ := st_all hgv hts hX hL
  have hwg := st_wg hts
  have hl0 : l.stackTraces = false := by
    unfold Launch.stackTraces
    rw [hflags]
    decide +kernel
  have F : CallFix p m c cL_law 9 s #[Value.ref b] wz_L_law RL := ⟨hx, hb, hml, hown, fun w hw => by
    rcases List.mem_cons.mp hw with h | h
    · rw [h]; exact hts _ (by decide +kernel)
    · exact hwg w h⟩
  have hW : wO D cy [] (fun q => s.heap.size ≤ q) s.heap D.2.2.2 s.heap [] := by
    have h0 : wL cy [] D.2.2.2 = [] := by
      show [] ++ va_pl (sL D.2.2.2) _ = []
      rw [hok.2.2.2.2]; rfl
    refine ⟨?_, ?_, va_S.rf, fun _ h => h, hRO⟩
    · rw [h0]; exact fun k q h => by simp at h
    · rw [h0]; exact ⟨fun i j p q h => by simp at h, fun k q h => by simp at h⟩
  have hl := lv_entry ([.ref b]) (n := 9) (Nat.le_of_ble_eq_true rfl)
  rw [lg_entry_eq]
  generalize (lg_sl ([.ref b]) ++ List.replicate (9 - (lg_sl ([.ref b])).length) Slot.unset).toArray = ls at hl ⊢
  have hl : lv_has ls 9 [(0, .ref b)] := hl
  have hQ : ∀ {pc : Nat} {H : Heap} {locs : List Loc} {ls : Array Slot} {S : wS} {r : Int32}, r = 1 → decode cL_law pc = .ok (.ireturn, 1) → wO D cy [] (fun q => s.heap.size ≤ q) s.heap S H locs → W p l e (r_L_law 601024 7293034) s m #[Value.ref b] below meth c H locs 601024 7293034 (lw_Z below #[Value.ref b] s) (F0 m pc ls [.int r]) := by
    intro pc H locs ls S r h1 h2 h3
    subst h1
    refine va_forget (fun q hq => h3.2.2.1.2.2 q hq) ?_
    exact lw_ret (d0 := s.drawn) (Drawn.sameBut.refl s.drawn lw_cs) hx hb hr hlocks h2
  exact t_L_law_0 (rC := 601024) (rS := 7293034) (S0 := D.2.2.2) (post := fun r _ => r = 1) F hr hlocks hK hl0 hQ (Nat.le_of_ble_eq_true rfl) (Nat.le_of_ble_eq_true rfl) (main D hok) hW wX.rf hl (Or.inr hok.2.2.2.1.1) hok.2.2.2.1.2.1
