/-! PHASE 3: the move that a word names: the class's way and the specification's -/
section
variable {c : cM} {F R : Int} {v : Int → Int} {L : List Int}
theorem getD_el {α : Type} {L : List α} {n : Nat} {d : α} (h : n < L.length) : L.getD n d = L[n] := by
  rw [List.getD_eq_getElem?_getD, List.getElem?_eq_getElem h]; rfl
theorem firstL_p (P : Int → Bool) : ∀ (d : Nat) (j : Int), 0 ≤ j → (firstL P j d = -1 ∧ ∀ i : Int, j ≤ i → i < j + d → P i = false) ∨ (j ≤ firstL P j d ∧ firstL P j d < j + d ∧ P (firstL P j d) = true ∧ ∀ i : Int, j ≤ i → i < firstL P j d → P i = false) := by
  intro d
  induction d with
  | zero => intro j hj; exact Or.inl ⟨rfl, fun i h0 h1 => absurd h1 (by omega)⟩
  | succ d ih =>
    intro j hj
    unfold firstL
    cases z : P j
    · rw [if_neg (by decide)]
      rcases ih (j + 1) (by omega) with ⟨h1, h2⟩ | ⟨h1, h2, h3, h4⟩
      · refine Or.inl ⟨h1, fun i h3 h4 => ?_⟩
        by_cases q : i = j
        · rw [q]; exact z
        · exact h2 i (by omega) (by omega)
      · refine Or.inr ⟨by omega, by omega, h3, fun i h5 h6 => ?_⟩
        by_cases q : i = j
        · rw [q]; exact z
        · exact h4 i (by omega) h6
    · rw [if_pos rfl]
      exact Or.inr ⟨by omega, by omega, z, fun i h0 h1 => absurd h1 (by omega)⟩
theorem firstL_u (P : Int → Bool) {d : Nat} {j f : Int} (hj : 0 ≤ j) (hf : j ≤ f ∧ f < j + d) (h1 : P f = true) (h2 : ∀ i : Int, j ≤ i → i < f → P i = false) : firstL P j d = f := by
  rcases firstL_p P d j hj with ⟨h3, h4⟩ | ⟨h3, h4, h5, h6⟩
  · rw [h4 f hf.1 hf.2] at h1; exact absurd h1 (by decide)
  · by_cases q : firstL P j d < f
    · rw [h2 _ h3 q] at h5; exact absurd h5 (by decide)
    · by_cases z : f < firstL P j d
      · rw [h6 f hf.1 z] at h1; exact absurd h1 (by decide)
      · omega
theorem firstL_no (P : Int → Bool) {d : Nat} {j : Int} (hj : 0 ≤ j) (h : ∀ i : Int, j ≤ i → i < j + d → P i = false) : firstL P j d = -1 := by
  rcases firstL_p P d j hj with ⟨h3, h4⟩ | ⟨h3, h4, h5, h6⟩
  · exact h3
  · rw [h _ h3 h4] at h5; exact absurd h5 (by decide)
theorem firstL_eq {P Q : Int → Bool} : ∀ (d : Nat) (j : Int), (∀ i : Int, j ≤ i → i < j + d → P i = Q i) → firstL P j d = firstL Q j d := by
  intro d
  induction d with
  | zero => intro j h; rfl
  | succ d ih =>
    intro j h
    unfold firstL
    rw [h j (by omega) (by omega), ih (j + 1) (fun i h0 h1 => h i (by omega) (by omega))]
/-- the letters of a text from a place on -/
def cutT (t : Int → Int) : Nat → Int → List Int
  | 0, _ => []
  | n + 1, a => t a :: cutT t n (a + 1)
theorem cutT_len (t : Int → Int) : ∀ (n : Nat) (a : Int), (cutT t n a).length = n := by
  intro n
  induction n with
  | zero => intro a; rfl
  | succ n ih => intro a; unfold cutT; rw [List.length_cons, ih]
theorem cutT_mem (t : Int → Int) : ∀ (n : Nat) (a : Int), ∀ x ∈ cutT t n a, ∃ j : Int, a ≤ j ∧ j < a + n ∧ x = t j := by
  intro n
  induction n with
  | zero => intro a x h; exact absurd h List.not_mem_nil
  | succ n ih =>
    intro a x h
    unfold cutT at h
    rcases List.mem_cons.mp h with e | h
    · exact ⟨a, by omega, by omega, e⟩
    · obtain ⟨j, h0, h1, e⟩ := ih (a + 1) x h
      exact ⟨j, by omega, by omega, e⟩
theorem cutT_last (t : Int → Int) : ∀ (n : Nat) (a : Int), t (a + n) ∈ cutT t (n + 1) a := by
  intro n
  induction n with
  | zero => intro a; unfold cutT; rw [show a + ((0 : Nat) : Int) = a by omega]; exact List.mem_cons_self
  | succ n ih =>
    intro a
    unfold cutT
    refine List.mem_cons_of_mem _ ?_
    have := ih (a + 1)
    rw [show a + 1 + (n : Int) = a + ((n + 1 : Nat) : Int) by omega] at this
    exact this
theorem cutT_eq (t : Int → Int) : ∀ (W : List Int) (a : Int), (allL (fun k => decide (W.getD k.toNat 0 = t (a + k))) 0 W.length = true) ↔ W = cutT t W.length a := by
  have key : ∀ (W : List Int) (a : Int) (j : Int) (V : List Int), 0 ≤ j → j + W.length = V.length → (∀ k : Nat, k < W.length → V.getD (j + k).toNat 0 = W.getD k 0) → ((allL (fun k => decide (V.getD k.toNat 0 = t (a + k))) j W.length = true) ↔ W = cutT t W.length (a + j)) := by
    intro W
    induction W with
    | nil => intro a j V _ _ _; simp [allL, cutT]
    | cons x W ih =>
      intro a j V hj hl h
      rw [List.length_cons, allL_S, Bool.and_eq_true, decide_eq_true_eq]
      have h0 := h 0 (by simp)
      have hl' : j + ((W.length : Nat) : Int) + 1 = V.length := by rw [List.length_cons] at hl; omega
      rw [ih a (j + 1) V (by omega) (by omega) (fun k hk => by
        have := h (k + 1) (by rw [List.length_cons]; omega)
        rw [show (j + ((k + 1 : Nat) : Int)).toNat = (j + 1 + (k : Int)).toNat by omega] at this
        rw [this]; rfl)]
      rw [show cutT t (W.length + 1) (a + j) = t (a + j) :: cutT t W.length (a + j + 1) from rfl]
      rw [show (j + ((0 : Nat) : Int)).toNat = j.toNat by omega] at h0
      rw [h0, show a + (j + 1) = a + j + 1 by omega]
      constructor
      · intro q; rw [← q.2]; rw [show x = t (a + j) from q.1]
      · intro q; injection q with q1 q2; exact ⟨q1, q2⟩
  intro W a
  have := key W a 0 W (by decide) (by omega) (fun k hk => by rw [show ((0 : Int) + (k : Int)).toNat = k by omega])
  rw [Int.add_zero] at this
  exact this
theorem pkT_cut (t : Int → Int) : ∀ (n : Nat) (z a : Int), pkT t z n a = pkA z (cutT t n a) := by
  intro n
  induction n with
  | zero => intro z a; rfl
  | succ n ih => intro z a; unfold pkT cutT pkA; exact ih _ _
theorem zI_inj63 {a b : Int} (h0 : 0 ≤ a) (h1 : a < 9223372036854775808) (h2 : 0 ≤ b) (h3 : b < 9223372036854775808) (h : zI a = zI b) : a = b := by
  have := congrArg zu h
  rw [zu_I h0 h1, zu_I h2 h3] at this
  omega
/-- packed words are the same where the letters are -/
theorem pk_iff {W V : List Int} (hW : W.length ≤ 7 ∧ ∀ x ∈ W, 0 < x ∧ x < 128) (hV : V.length ≤ 7 ∧ ∀ x ∈ V, 0 < x ∧ x < 128) : zI (pkA 0 W) = zI (pkA 0 V) ↔ W = V := by
  constructor
  · intro h
    have big : ∀ U : List Int, (U.length ≤ 7 ∧ ∀ x ∈ U, 0 < x ∧ x < 128) → 0 ≤ pkA 0 U ∧ pkA 0 U < 9223372036854775808 := fun U hU => by
      have pr := pkA_r U 0 0 (by decide) (by decide) (fun y hy => by have := hU.2 y hy; omega)
      have pb : (256 ^ (0 + U.length) : Nat) ≤ 256 ^ 7 := Nat.pow_le_pow_right (by decide) (by omega)
      have e7 : (256 ^ 7 : Nat) = 72057594037927936 := by decide
      omega
    have e := zI_inj63 (big W hW).1 (big W hW).2 (big V hV).1 (big V hV).2 h
    have w := dgL_pk W 7 hW.1 hW.2
    rw [e, dgL_pk V 7 hV.1 hV.2] at w
    exact w.symm
  · intro h; rw [h]
/-- no letter of a move is a sign of check or mate -/
theorem sanA_ns {t : Mv} (hB : BG c F R) {M : List Mv} (ok : okMv F R v t) : (∀ x ∈ sanA F v M t, x ≠ 43 ∧ x ≠ 35) ∧ sanA F v M t ≠ [] := by
  have f1 := fileC_r hB (a := t.1); have f2 := fileC_r hB (a := t.2.1)
  have r1 := rankC_r hB ok.1; have r2 := rankC_r hB ok.2.1
  have l1 := letB_r (kindO (v t.1)); have l2 := letB_r t.2.2
  have tl : tailA F v t ≠ [] := by unfold tailA; simp
  refine ⟨fun x hx => ?_, ?_⟩
  · unfold sanA headA takeA tailA fromC at hx
    split at hx
    · split at hx <;> simp at hx <;> omega
    · simp only [List.mem_append] at hx
      rcases hx with hx | hx
      · split at hx
        · split at hx <;> simp at hx; omega
        · simp only [List.mem_cons, List.mem_append] at hx
          rcases hx with hx | hx | hx
          · omega
          · split at hx <;> simp at hx; omega
          · split at hx <;> simp at hx; omega
      · rcases hx with hx | hx | hx
        · split at hx <;> simp at hx; omega
        · simp at hx; omega
        · split at hx <;> simp at hx; omega
  · unfold sanA takeA
    split
    · split <;> simp
    · intro z
      have z := (List.append_eq_nil_iff.mp z).2
      exact tl (List.append_eq_nil_iff.mp z).2
/-- the class's comparison of a move's word with a part of the text -/
theorem wd_cut (hB : BG c F R) (h32 : ∀ x ∈ L, 32 ≤ x ∧ x ≤ 126) {i : Int} (hi : 0 ≤ i ∧ i < (movesL F R v).length) {a e : Int} (ha : 0 ≤ a) (hae : a ≤ e ∧ e ≤ L.length) : (wdC F R v i = zI (if e - a ≤ 7 then pkT (tx L) 0 (e - a).toNat a else 0)) ↔ sanA F v (movesL F R v) ((movesL F R v).getD i.toNat (0, 0, 0)) = cutT (tx L) (e - a).toNat a := by
  have hm := hB.m
  have ok := movesL_mem (F := F) (R := R) (v := v) (by omega) (getD_mem (L := movesL F R v) (k := i) hi)
  have l6 := sanA_len6 (L := movesL F R v) ok
  have ap := sanA_p hB (L := movesL F R v) ok
  have ns := sanA_ns hB (M := movesL F R v) ok
  unfold wdC
  generalize sanA F v (movesL F R v) ((movesL F R v).getD i.toNat (0, 0, 0)) = W at l6 ap ns ⊢
  have tp : ∀ j : Int, 0 ≤ j → j < L.length → 32 ≤ tx L j ∧ tx L j ≤ 126 := fun j j0 j1 => by
    unfold tx
    have : L.getD j.toNat 0 ∈ L := by rw [getD_el (show j.toNat < L.length by omega)]; exact List.getElem_mem _
    exact h32 _ this
  by_cases q : e - a ≤ 7
  · rw [if_pos q, pkT_cut]
    refine pk_iff ⟨by omega, ap⟩ ⟨by rw [cutT_len]; omega, fun x hx => ?_⟩
    obtain ⟨j, h0, h1, rfl⟩ := cutT_mem _ _ _ x hx
    have := tp j (by omega) (by omega)
    omega
  · rw [if_neg q]
    constructor
    · intro z
      have := (pk_iff (W := W) (V := []) ⟨by omega, ap⟩ ⟨by simp, fun x hx => absurd hx List.not_mem_nil⟩).mp z
      exact absurd this ns.2
    · intro z
      have := congrArg List.length z
      rw [cutT_len] at this
      omega
theorem namB_first (t : Int → Int) (a e : Int) : ∀ (d : Nat) (k : Int), namB F R v t a e k d = firstL (fun k => letsB t a e (sanA F v (movesL F R v) ((movesL F R v).getD k.toNat (0, 0, 0))) (endC F R (mkT F R v ((movesL F R v).getD k.toNat (0, 0, 0))))) k d := by
  intro d
  induction d with
  | zero => intro k; rfl
  | succ d ih =>
    intro k
    unfold namB firstL
    rw [ih]
theorem letsB_iff (t : Int → Int) {a e : Int} {W : List Int} {z : Int} : letsB t a e W z = true ↔ (e - a = W.length ∧ W = cutT t W.length a) ∨ (e - a = W.length + 1 ∧ W = cutT t W.length a ∧ z = t (a + W.length)) := by
  unfold letsB
  rw [Bool.and_eq_true, Bool.and_eq_true, Bool.or_eq_true, Bool.or_eq_true, cutT_eq]
  simp only [decide_eq_true_eq]
  constructor
  · rintro ⟨⟨h1, h2⟩, h3⟩
    rcases h1 with h1 | h1
    · exact Or.inl ⟨h1, h2⟩
    · exact Or.inr ⟨h1, h2, h3.resolve_left (by omega)⟩
  · rintro (⟨h1, h2⟩ | ⟨h1, h2, h3⟩)
    · exact ⟨⟨Or.inl h1, h2⟩, Or.inl h1⟩
    · exact ⟨⟨Or.inr h1, h2⟩, Or.inr h3⟩
/-- the class names the same move -/
theorem wnB_namB (hB : BG c F R) (hu : tellB F R v) (h32 : ∀ x ∈ L, 32 ≤ x ∧ x ≤ 126) {a e : Int} (ha : 0 ≤ a) (hae : a < e ∧ e ≤ L.length) : wnB F R L v a e = namB F R v (tx L) a e 0 (movesL F R v).length := by
  have hm := hB.m
  rw [namB_first]
  have tp : ∀ j : Int, 0 ≤ j → j < L.length → 32 ≤ tx L j ∧ tx L j ≤ 126 := fun j j0 j1 => by
    unfold tx
    have : L.getD j.toNat 0 ∈ L := by rw [getD_el (show j.toNat < L.length by omega)]; exact List.getElem_mem _
    exact h32 _ this
  have t1 := tp (e - 1) (by omega) (by omega)
  unfold wnB
  by_cases q : tx L (e - 1) = 43 ∨ tx L (e - 1) = 35
  · rw [if_pos q]
    -- with a sign: the letters ahead of it, and the sign
    have key : ∀ i : Int, 0 ≤ i → i < 0 + ((movesL F R v).length : Int) → (letsB (tx L) a e (sanA F v (movesL F R v) ((movesL F R v).getD i.toNat (0, 0, 0))) (endC F R (mkT F R v ((movesL F R v).getD i.toNat (0, 0, 0)))) = true ↔ wdC F R v i = zI (if e - 1 - a ≤ 7 then pkT (tx L) 0 (e - 1 - a).toNat a else 0) ∧ endC F R (mkT F R v ((movesL F R v).getD i.toNat (0, 0, 0))) = tx L (e - 1)) := by
      intro i i0 i1
      have ok := movesL_mem (F := F) (R := R) (v := v) (by omega) (getD_mem (L := movesL F R v) (k := i) ⟨i0, by omega⟩)
      have ns := sanA_ns hB (M := movesL F R v) ok
      rw [wd_cut hB h32 ⟨i0, by omega⟩ ha (show a ≤ e - 1 ∧ e - 1 ≤ L.length by omega), letsB_iff]
      generalize sanA F v (movesL F R v) ((movesL F R v).getD i.toNat (0, 0, 0)) = W at ns ⊢
      constructor
      · rintro (⟨h1, h2⟩ | ⟨h1, h2, h3⟩)
        · exfalso
          obtain ⟨n, hn⟩ : ∃ n, W.length = n + 1 := ⟨W.length - 1, by omega⟩
          have l := cutT_last (tx L) n a
          rw [← hn, ← h2] at l
          have := ns.1 _ l
          rw [show a + (n : Int) = e - 1 by omega] at this
          omega
        · rw [show a + (W.length : Int) = e - 1 by omega] at h3
          refine ⟨?_, h3⟩
          rw [show (e - 1 - a).toNat = W.length by omega]; exact h2
      · rintro ⟨h1, h2⟩
        have hl := congrArg List.length h1
        rw [cutT_len] at hl
        refine Or.inr ⟨by omega, ?_, ?_⟩
        · rw [hl]; exact h1
        · rw [show a + (W.length : Int) = e - 1 by omega]; exact h2
    generalize hpk : zI (if e - 1 - a ≤ 7 then pkT (tx L) 0 (e - 1 - a).toNat a else 0) = pk at key ⊢
    have fp := firstL_p (fun i => decide (wdC F R v i = pk)) (movesL F R v).length 0 (by decide)
    generalize hf : firstL (fun i => decide (wdC F R v i = pk)) 0 (movesL F R v).length = f at fp ⊢
    rcases fp with ⟨h1, h2⟩ | ⟨h1, h2, h3, h4⟩
    · rw [if_pos h1]
      refine (firstL_no _ (by decide) fun i i0 i1 => ?_).symm
      refine (Bool.not_eq_true _).mp fun z => ?_
      have := (key i i0 i1).mp z
      exact absurd this.1 (of_decide_eq_false (h2 i i0 i1))
    · have h3 := of_decide_eq_true h3
      have uf := hu f h1 (by omega)
      rw [if_neg (by omega)]
      by_cases z : endC F R (mkT F R v ((movesL F R v).getD f.toNat (0, 0, 0))) = tx L (e - 1)
      · rw [if_pos z]
        refine (firstL_u _ (by decide) ⟨h1, h2⟩ ((key f h1 h2).mpr ⟨h3, z⟩) fun i i0 i1 => ?_).symm
        refine (Bool.not_eq_true _).mp fun y => ?_
        exact absurd ((key i i0 (by omega)).mp y).1 (of_decide_eq_false (h4 i i0 i1))
      · rw [if_neg z]
        refine (firstL_no _ (by decide) fun i i0 i1 => ?_).symm
        refine (Bool.not_eq_true _).mp fun y => ?_
        obtain ⟨y1, y2⟩ := (key i i0 i1).mp y
        have ui := hu i i0 (by omega)
        rw [y1] at ui
        rw [h3] at uf
        rw [ui] at uf
        rw [uf] at y2
        exact z y2
  · rw [if_neg q]
    refine firstL_eq _ _ fun i i0 i1 => ?_
    have ok := movesL_mem (F := F) (R := R) (v := v) (by omega) (getD_mem (L := movesL F R v) (k := i) ⟨i0, by omega⟩)
    have ev := endC_v F R (mkT F R v ((movesL F R v).getD i.toNat (0, 0, 0)))
    have wc := wd_cut (v := v) hB h32 (i := i) ⟨i0, by omega⟩ ha (show a ≤ e ∧ e ≤ L.length by omega)
    have key : (letsB (tx L) a e (sanA F v (movesL F R v) ((movesL F R v).getD i.toNat (0, 0, 0))) (endC F R (mkT F R v ((movesL F R v).getD i.toNat (0, 0, 0)))) = true ↔ wdC F R v i = zI (if e - a ≤ 7 then pkT (tx L) 0 (e - a).toNat a else 0)) := by
      rw [wc, letsB_iff]
      generalize sanA F v (movesL F R v) ((movesL F R v).getD i.toNat (0, 0, 0)) = W
      constructor
      · rintro (⟨h1, h2⟩ | ⟨h1, h2, h3⟩)
        · rw [show (e - a).toNat = W.length by omega]; exact h2
        · exfalso
          rw [show a + (W.length : Int) = e - 1 by omega] at h3
          omega
      · intro h1
        have hl := congrArg List.length h1
        rw [cutT_len] at hl
        refine Or.inl ⟨by omega, ?_⟩
        rw [hl]; exact h1
    cases z : letsB (tx L) a e (sanA F v (movesL F R v) ((movesL F R v).getD i.toNat (0, 0, 0))) (endC F R (mkT F R v ((movesL F R v).getD i.toNat (0, 0, 0))))
    · exact decide_eq_false fun y => by rw [key.mpr y] at z; exact absurd z (by decide)
    · exact decide_eq_true (key.mp z)
/-- a word that is no number and no result: the class's step is the specification's -/
theorem mov_word (hB : BG c F R) {s : RD} (hu : tellB F R (s.2.1 s.1)) (h32 : ∀ x ∈ L, 32 ≤ x ∧ x ≤ 126) {a e made : Int} (ha : 0 ≤ a) (hae : a < e ∧ e ≤ L.length) (hn : numB (tx L) a e = false) (hr : resB (tx L) a e = false) : movB F R (80 - made) L a e s = wordS F R made (tx L) a e s := by
  unfold movB wordS
  rw [wnB_namB hB hu h32 ha hae, hn, hr]
  by_cases q : s.2.2.2.2.2.2.2 = true
  · rw [if_pos q, if_pos q]
  · rw [if_neg q, if_neg q, if_neg (show ¬ (false = true) by decide), if_neg (show ¬ (false = true) by decide)]
    by_cases z : s.1 = 0 ∧ 80 ≤ made + s.2.2.2.1 0
    · rw [if_pos z, if_pos (by omega)]
    · rw [if_neg z, if_neg (show ¬ (s.1 = 0 ∧ 80 - made ≤ s.2.2.2.1 0) by omega)]
      rfl
end
