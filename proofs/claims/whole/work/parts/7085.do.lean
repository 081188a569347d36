/-! PHASE 3, GAMES: the present one (13) and those of the shelves, wherever they lie -/
/-- a game of the class: its rows, its length n of at most r moves, its positions and the codes of its moves -/
abbrev GO (D : wD) (U : wS) (g y0 y1 : Nat) (r n : Int) (w : Int → Int → Int) (mv : Int → Mv) : Prop :=
  (sR U g 0 = some y0 ∧ wM D U y0 ∧ sK U y0 = 22 ∧ (sN U y0 : Int) = (r + 1) * 5) ∧ (sR U g 1 = some y1 ∧ wM D U y1 ∧ sK U y1 = 21 ∧ (sN U y1 : Int) = r) ∧
  (0 ≤ n ∧ n ≤ r ∧ r ≤ 80) ∧ sI U g 3 = iI n ∧ (∀ k : Int, 0 ≤ k → k ≤ n → SV U y0 k (w k) ∧ rgV (w k)) ∧ ∀ k : Int, 0 ≤ k → k < n → sI U y1 (iI k).toNatClampNeg = iI (mcode (mv k)) ∧ mOK (mv k)
/-- the first place where something holds, or -1 -/
def firstL (P : Int → Bool) (j : Int) : Nat → Int
  | 0 => -1
  | d + 1 => if P j then j else firstL P (j + 1) d
theorem firstL_any (P : Int → Bool) : ∀ (d : Nat) (j : Int), 0 ≤ j → (anyL P j d = true ↔ firstL P j d ≠ -1) := by
  intro d
  induction d with
  | zero => intro j hj; simp [anyL, firstL]
  | succ d ih =>
    intro j hj
    unfold anyL firstL
    cases z : P j
    · simp only [Bool.false_or, Bool.false_eq_true, if_false]; exact ih (j + 1) (by omega)
    · simp only [Bool.true_or, if_true, true_iff]; omega
theorem firstL_r (P : Int → Bool) : ∀ (d : Nat) (j : Int), firstL P j d = -1 ∨ (j ≤ firstL P j d ∧ firstL P j d < j + d) := by
  intro d
  induction d with
  | zero => intro j; exact Or.inl rfl
  | succ d ih =>
    intro j
    unfold firstL
    split
    · right; omega
    · have := ih (j + 1); omega
section
variable {D : wD} {U : wS} {a g y0 y1 : Nat} {r n : Int} {w : Int → Int → Int} {mv : Int → Mv} {v : Int → Int} {post : Int32 → wS → Prop}
theorem q_timesOf_4 (hG : GO D U g y0 y1 r n w mv) (hA : PO U a v) (hv : rgV v) : ∀ (f d : Nat) (j s : Int), d < f → j + d = n + 1 → 0 ≤ j →
    post (iI (s + sumL (fun k => if sameB (w k) v then 1 else 0) j d)) U → wp_X3_timesOf_4 D post f U g a (iI s) (iI j) := by
  obtain ⟨⟨g0, g1, g2, g3⟩, -, g4, g5, g6, -⟩ := id hG
  intro f
  induction f with
  | zero => intro d j s hd; omega
  | succ f ih =>
    intro d j s hd hj h0 k
    unfold wp_X3_timesOf_4
    rw [g5, iI_lt (by omega) (by omega) (by omega) (by omega)]
    refine ⟨fun q => ?_, fun q => ⟨y0, g0, g1, g2, ?_⟩⟩
    · rw [show d = 0 by omega] at k
      unfold sumL at k
      rwa [Int.add_zero] at k
    · have hk := g6 j h0 (by omega)
      obtain ⟨d', rfl⟩ : ∃ d', d = d' + 1 := ⟨d - 1, by omega⟩
      unfold sumL at k
      rw [← Int.add_assoc] at k
      refine q_isSavedAt hA hv hk.1 hk.2 (by omega) (by omega) ?_
      rw [bI_0]
      have nx : ∀ t : Int, t = s + (if sameB (w j) v = true then 1 else 0) → wp_X3_timesOf_27 D post (wp_X3_timesOf_4 D post f) U g a (iI t) (iI j) := by
        intro t ht
        unfold wp_X3_timesOf_27
        intro x1 e1
        rw [e1, show (1 : Int32) = iI 1 from rfl, iI_add]
        refine ih d' (j + 1) t (by omega) (by omega) (by omega) ?_
        rw [ht]; exact k
      refine ⟨fun z => ?_, fun z => ?_⟩
      · exact nx s (by rw [z]; simp)
      · intro x6 e6
        rw [e6, show (1 : Int32) = iI 1 from rfl, iI_add]
        exact nx (s + 1) (by rw [if_pos (by simpa using z)])
theorem q_timesOf (hG : GO D U g y0 y1 r n w mv) (hA : PO U a v) (hv : rgV v) (k : post (iI (sumL (fun k => if sameB (w k) v then 1 else 0) 0 (n + 1).toNat)) U) : wp_X3_timesOf D post U g a := by
  have := hG.2.2.1
  refine ⟨82, ?_⟩
  refine q_timesOf_4 hG hA hv 82 (n + 1).toNat 0 0 (by omega) (by omega) (by omega) ?_
  rw [Int.zero_add]; exact k
theorem q_indexFrom_2 (hG : GO D U g y0 y1 r n w mv) (hA : PO U a v) (hv : rgV v) : ∀ (f d : Nat) (j : Int), d < f → j + d = n + 1 → 0 ≤ j →
    post (iI (firstL (fun k => sameB (w k) v) j d)) U → wp_X3_indexFrom_2 D post f U g a (iI j) := by
  obtain ⟨⟨g0, g1, g2, g3⟩, -, g4, g5, g6, -⟩ := id hG
  intro f
  induction f with
  | zero => intro d j hd; omega
  | succ f ih =>
    intro d j hd hj h0 k
    unfold wp_X3_indexFrom_2
    rw [g5, iI_lt (by omega) (by omega) (by omega) (by omega)]
    refine ⟨fun q => ?_, fun q => ⟨y0, g0, g1, g2, ?_⟩⟩
    · rw [show d = 0 by omega] at k
      exact k
    · have hk := g6 j h0 (by omega)
      obtain ⟨d', rfl⟩ : ∃ d', d = d' + 1 := ⟨d - 1, by omega⟩
      unfold firstL at k
      refine q_isSavedAt hA hv hk.1 hk.2 (by omega) (by omega) ?_
      rw [bI_0]
      refine ⟨fun z => ?_, fun z => ?_⟩
      · intro x6 e6
        rw [e6, show (1 : Int32) = iI 1 from rfl, iI_add]
        rw [z] at k
        exact ih d' (j + 1) (by omega) (by omega) (by omega) k
      · rw [show sameB (w j) v = true by simpa using z] at k
        exact k
theorem q_indexFrom (hG : GO D U g y0 y1 r n w mv) (hA : PO U a v) (hv : rgV v) {j : Int} (hj : 0 ≤ j ∧ j ≤ n + 1) (k : post (iI (firstL (fun k => sameB (w k) v) j (n + 1 - j).toNat)) U) : wp_X3_indexFrom D post U g a (iI j) := by
  have := hG.2.2.1
  refine ⟨82, ?_⟩
  exact q_indexFrom_2 hG hA hv 82 (n + 1 - j).toNat j (by omega) (by omega) (by omega) k
theorem q_passesThrough (hG : GO D U g y0 y1 r n w mv) (hA : PO U a v) (hv : rgV v) (k : post (iI (bI (anyL (fun k => sameB (w k) v) 0 (n + 1).toNat))) U) : wp_X3_passesThrough D post U g a := by
  have := hG.2.2.1
  unfold wp_X3_passesThrough wp_X3_passesThrough_0 wp_X3_passesThrough_15
  refine q_indexFrom hG hA hv (j := 0) (by omega) ?_
  have e := firstL_any (fun k => sameB (w k) v) (n + 1).toNat 0 (by decide)
  have fr := firstL_r (fun k => sameB (w k) v) (n + 1).toNat 0
  rw [Int.sub_zero, show (-1 : Int32) = iI (-1) from rfl, iI_eq (by omega) (by omega) (by decide) (by decide)]
  refine ⟨fun q => ?_, fun q => ?_⟩
  · cases z : anyL (fun k => sameB (w k) v) 0 (n + 1).toNat
    · rw [z] at k; exact ⟨nr0, k⟩
    · exact absurd q (e.mp z)
  · rw [e.mpr q] at k; exact ⟨nr1, k⟩
theorem q_planeAt {post : Int64 → wS → Prop} (hG : GO D U g y0 y1 r n w mv) {i j : Int} (hi : 0 ≤ i ∧ i ≤ n) (hj : 0 ≤ j ∧ j < 5) (k : post (gJ U y0 (i * 5 + j)) U) : wp_X3_planeAt D post U g (iI i) (iI j) := by
  obtain ⟨⟨g0, g1, g2, g3⟩, -, g4, g5, g6, -⟩ := id hG
  unfold wp_X3_planeAt wp_X3_planeAt_0 wp_X3_planeAt_28 wp_X3_planeAt_29
  intro x1 e1
  have e1 : x1 = iI (i * 5 + j) := by rw [e1, show (5 : Int32) = iI 5 from rfl, iI_mul, iI_add]
  rw [e1]
  have iv := sv_in (n := sN U y0) (i := i) (by omega) (by omega) hj
  rw [show (0 : Int32) = iI 0 from rfl]
  refine ⟨fun q => absurd ((iI_lt (by omega) (by omega) (by decide) (by decide)).mp q) (by omega), fun _ => ⟨y0, g0, g1, g2, ?_⟩⟩
  refine ⟨fun q => absurd ((iI_le (a := ((sN U y0 : Nat) : Int)) (by omega) (by omega) (by omega) (by omega)).mp q) (by omega), fun _ => ⟨y0, g0, g1, g2, iv, k⟩⟩
theorem q_piecesAt (hG : GO D U g y0 y1 r n w mv) {i : Int} (hi : 0 ≤ i ∧ i ≤ n) (k : post (iI (zcnt (occB (w i)))) U) : wp_X3_piecesAt D post U g (iI i) := by
  have g6 := hG.2.2.2.2.1 i hi.1 hi.2
  unfold wp_X3_piecesAt wp_X3_piecesAt_0
  refine q_planeAt hG hi (j := 1) (by decide) ?_
  refine q_planeAt hG hi (j := 2) (by decide) ?_
  refine q_planeAt hG hi (j := 3) (by decide) ?_
  rw [g6.1.2.1, g6.1.2.2.1, g6.1.2.2.2.1, pl_occ g6.2.1, q_bitCount]
  exact k
theorem q_moveAt (hG : GO D U g y0 y1 r n w mv) {i : Int} (hi : 0 ≤ i ∧ i < n) (k : post (iI (mcode (mv i))) U) : wp_X3_moveAt D post U g (iI i) := by
  obtain ⟨-, ⟨g0, g1, g2, g3⟩, g4, g5, -, g6⟩ := id hG
  unfold wp_X3_moveAt wp_X3_moveAt_0 wp_X3_moveAt_30 wp_X3_moveAt_31
  rw [show (0 : Int32) = iI 0 from rfl, g5]
  refine ⟨fun q => absurd ((iI_lt (by omega) (by omega) (by decide) (by decide)).mp q) (by omega), fun _ => ⟨fun q => absurd ((iI_le (by omega) (by omega) (by omega) (by omega)).mp q) (by omega), fun _ => ⟨y1, g0, g1, g2, ?_⟩⟩⟩
  refine ⟨fun q => absurd ((iI_le (a := ((sN U y1 : Nat) : Int)) (by omega) (by omega) (by omega) (by omega)).mp q) (by omega), fun _ => ⟨y1, g0, g1, g2, iI_in (by omega) (by omega) (by omega), ?_⟩⟩
  rw [(g6 i hi.1 hi.2).1]
  exact k
/-- a move that is of no pawn and takes nothing, as the class tells it -/
def quietC (w : Int → Int → Int) (mv : Int → Mv) (i : Int) : Bool := !decide (kindO (w i (mv i).1) = 6) && decide (zcnt (occB (w i)) = zcnt (occB (w (i + 1))))
def calmW (w : Int → Int → Int) (mv : Int → Mv) (i c : Int) : Nat → Int
  | 0 => c
  | d + 1 => if quietC w mv i then calmW w mv (i - 1) (c + 1) d else c
theorem q_calmMoves_9 (hG : GO D U g y0 y1 r n w mv) : ∀ (f d : Nat) (i c : Int), d < f → i + 1 = d → i < n → 0 ≤ c →
    post (iI (calmW w mv i c d)) U → wp_X3_calmMoves_9 D post f U g (iI c) (iI i) := by
  have g4 := hG.2.2.1
  intro f
  induction f with
  | zero => intro d i c hd; omega
  | succ f ih =>
    intro d i c hd hi hn hc k
    unfold wp_X3_calmMoves_9 wp_X3_calmMoves_69
    rw [show (0 : Int32) = iI 0 from rfl, iI_lt (by omega) (by omega) (by decide) (by decide)]
    refine ⟨fun q => ?_, fun q => ?_⟩
    · rw [show d = 0 by omega] at k
      exact k
    · obtain ⟨d', rfl⟩ : ∃ d', d = d' + 1 := ⟨d - 1, by omega⟩
      unfold calmW at k
      have g6 := hG.2.2.2.2.1 i (by omega) (by omega)
      have gm := hG.2.2.2.2.2 i (by omega) (by omega)
      rw [show (2 : Int32) = iI 2 from rfl, show (3 : Int32) = iI 3 from rfl]
      refine q_planeAt hG (i := i) (j := 2) (by omega) (by decide) ?_
      refine q_planeAt hG (i := i) (j := 3) (by omega) (by decide) ?_
      refine q_moveAt hG (i := i) (by omega) ?_
      rw [q_fromOf gm.2, g6.1.2.2.1, g6.1.2.2.2.1]
      unfold plK
      have hf : 0 ≤ (mv i).1 ∧ (mv i).1 < 64 := ⟨gm.2.1.1, gm.2.1.2⟩
      rw [zS_and, q_contains _ hf]
      have e : (kbit (w i) 2 (mv i).1 && kbit (w i) 4 (mv i).1) = decide (kindO (w i (mv i).1) = 6) := by
        unfold kbit
        rcases kind_cases (g6.2.1 (mv i).1 hf.1 hf.2) with h | h | h | h | h | h | h | h | h | h | h | h | h <;> rw [h] <;> rfl
      rw [e, show (iI 0 : Int32) = 0 from rfl, bI_0]
      unfold quietC at k
      refine ⟨fun q2 => ?_, fun q2 => ?_⟩
      · rw [show decide (kindO (w i (mv i).1) = 6) = true by simpa using q2] at k
        exact k
      · rw [show (iI i + (1 : Int32)) = iI (i + 1) from iI_add i 1]
        refine q_piecesAt hG (i := i) (by omega) ?_
        refine q_piecesAt hG (i := i + 1) (by omega) ?_
        have z1 := zcnt_r (occB (w i)); have z2 := zcnt_r (occB (w (i + 1)))
        rw [iI_eq (by omega) (by omega) (by omega) (by omega)]
        rw [q2] at k
        refine ⟨fun q3 => ?_, fun q3 => ?_⟩
        · intro x18 e18 x19 e19
          rw [decide_eq_true q3] at k
          rw [e18, e19, show (-1 : Int32) = iI (-1) from rfl, show (1 : Int32) = iI 1 from rfl, iI_add, iI_add]
          exact ih d' (i + -1) (c + 1) (by omega) (by omega) (by omega) (by omega) k
        · rw [decide_eq_false q3] at k
          exact k
theorem q_calmMoves (hG : GO D U g y0 y1 r n w mv) (k : post (iI (calmW w mv (n - 1) 0 n.toNat)) U) : wp_X3_calmMoves D post U g := by
  have g4 := hG.2.2.1
  unfold wp_X3_calmMoves wp_X3_calmMoves_0
  intro x1 e1
  rw [e1, hG.2.2.2.1, show (1 : Int32) = iI 1 from rfl, iI_sub]
  refine ⟨82, ?_⟩
  exact q_calmMoves_9 hG 82 n.toNat (n - 1) 0 (by omega) (by omega) (by omega) (by decide) k
end
