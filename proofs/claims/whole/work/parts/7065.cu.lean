/-- the squares behind a move that is no castling, without becoming -/
theorem mk_low {F R a b : Int} {v : Int → Int} (h4 : 4 ≤ F) (h8 : F ≤ 8) (hv : okV F R v) (he : epS F R v) (ha : 0 ≤ a ∧ a < 64) (hb : 0 ≤ b ∧ b < 64) (ho : isOfB (v a) (v 64) = true) (hg : goB F R v a b = true) (hc : castingB F v a b = false) {j : Int} (hj : j < 64) :
    mkV F R v a b 0 j = if j = b then v a else if j = a then 0 else if (passC v a && decide (b = v 66) && decide (j = b - upB (v 64) * F)) = true then 0 else v j := by
  rw [mkV_low hj]
  have hab : a ≠ b := by unfold goB at hg; intro e; rw [decide_eq_true e] at hg; simp at hg
  unfold mk4 mk2
  rw [if_neg (show ¬ castingB F v a b = true by rw [hc]; decide), if_pos rfl]
  unfold upV
  by_cases g1 : j = b
  · rw [if_pos g1, if_pos g1]
  · rw [if_neg g1, if_neg g1]
    by_cases g2 : j = a
    · rw [if_pos g2, if_pos g2]
    · rw [if_neg g2, if_neg g2]
      unfold mk1
      by_cases hk : kindO (v a) = 6
      · obtain ⟨e1, e2⟩ := ep_iff h4 h8 hv he ha hb ho hk hg
        by_cases g3 : b = v 66
        · rw [if_pos ⟨hk, (e1.mp g3).1, (e1.mp g3).2⟩, e2 g3]
          have : passC v a = true := by unfold passC; rw [decide_eq_true hk, decide_eq_false (show ¬ v 66 = -1 by omega)]; rfl
          rw [this, decide_eq_true g3]
          unfold upV
          by_cases g4 : j = b - upB (v 64) * F
          · rw [if_pos g4, decide_eq_true g4]; rfl
          · rw [if_neg g4, decide_eq_false g4]; rfl
        · rw [if_neg (fun z => g3 (e1.mpr ⟨z.2.1, z.2.2⟩)), decide_eq_false g3, Bool.and_false, Bool.false_and]; rfl
      · rw [if_neg (fun z => hk z.1)]
        have : passC v a = false := by unfold passC; rw [decide_eq_false hk]; rfl
        rw [this]; rfl
theorem findL_congr {p q : Int → Bool} : ∀ (d : Nat) (k : Int), (∀ j, k ≤ j → j < k + d → p j = q j) → findL p k d = findL q k d
  | 0, k, h => rfl
  | d + 1, k, h => by
    unfold findL
    rw [h k (by omega) (by omega), findL_congr d (k + 1) (fun j h1 h2 => h j (by omega) (by omega))]
/-- the one king of a side -/
abbrev oneK (F R : Int) (v : Int → Int) (s : Int) : Prop := ∀ j : Int, 0 ≤ j → j < F * R → v j = pieceOfB 1 s → j = kingB F R v s
theorem king_at {F R : Int} {v : Int → Int} {s : Int} (hn : 0 ≤ F * R) (hk : kingB F R v s < F * R) : v (kingB F R v s) = pieceOfB 1 s := by
  have hr := kingB_r v s hn
  have := findL_at (fun j => decide (v j = pieceOfB 1 s)) (F * R).toNat 0 (show kingB F R v s < 0 + ((F * R).toNat : Int) by omega)
  exact of_decide_eq_true this
theorem king_is {F R : Int} {w : Int → Int} {s j : Int} (hn : 0 ≤ F * R) (h0 : 0 ≤ j) (h1 : j < F * R) (h : w j = pieceOfB 1 s) (hu : ∀ i : Int, 0 ≤ i → i < F * R → w i = pieceOfB 1 s → i = j) : kingB F R w s = j := by
  obtain ⟨g1, g2⟩ := kingB_lt hn h0 h1 h
  exact hu _ (kingB_r w s hn).1 g1 g2
/-- where the king stands behind such a move -/
theorem king_mk {F R a b : Int} {v : Int → Int} (h4 : 4 ≤ F) (h8 : F ≤ 8) (r4 : 4 ≤ R) (r8 : R ≤ 8) (hv : okV F R v) (he : epS F R v) (hk : kingB F R v (v 64) < F * R) (hone : oneK F R v (v 64)) (ha : 0 ≤ a ∧ a < F * R) (hb : 0 ≤ b ∧ b < F * R)
    (ho : isOfB (v a) (v 64) = true) (hg : goB F R v a b = true) (hc : castingB F v a b = false) : kingB F R (mkV F R v a b 0) (v 64) = if kindO (v a) = 1 then b else kingB F R v (v 64) := by
  have hm := FR_r h4 h8 r4 r8
  have hs := hv.s
  have hkr := kingB_r v (v 64) (show 0 ≤ F * R by omega)
  have hka := king_at (show 0 ≤ F * R by omega) hk
  have ml : ∀ j : Int, j < 64 → _ := fun j hj => mk_low (R := R) h4 h8 hv he ⟨ha.1, by omega⟩ ⟨hb.1, by omega⟩ ho hg hc hj
  have hab : a ≠ b := by unfold goB at hg; intro e; rw [decide_eq_true e] at hg; simp at hg
  have hnb : isOfB (v b) (v 64) = false := by
    unfold goB at hg; simp only [Bool.and_eq_true, Bool.not_eq_true'] at hg; exact hg.1.2
  have pk : pieceOfB 1 (v 64) ≠ 0 := by unfold pieceOfB; split <;> decide
  by_cases c1 : kindO (v a) = 1
  · rw [if_pos c1]
    have hva := isOfB_king (hv.p a ha.1 (by omega)) hs ho c1
    have haK := hone a ha.1 ha.2 hva
    refine king_is (by omega) hb.1 hb.2 (by rw [ml b (by omega), if_pos rfl, hva]) fun i i0 i1 hi => ?_
    rw [ml i (by omega)] at hi
    by_cases g1 : i = b
    · exact g1
    · rw [if_neg g1] at hi
      by_cases g2 : i = a
      · rw [if_pos g2] at hi; exact absurd hi.symm pk
      · rw [if_neg g2] at hi
        split at hi
        · exact absurd hi.symm pk
        · exact absurd (hone i i0 i1 hi) (by rw [← haK]; exact g2)
  · rw [if_neg c1]
    have hne : a ≠ kingB F R v (v 64) := fun e => c1 (by rw [e, hka]; exact kindO_of (by decide))
    have hnb2 : kingB F R v (v 64) ≠ b := fun e => by
      rw [← e, hka, isOfB_of (by decide) hs] at hnb; exact absurd hnb (by decide)
    have hep : (passC v a && decide (b = v 66) && decide (kingB F R v (v 64) = b - upB (v 64) * F)) = false := by
      cases q : (passC v a && decide (b = v 66) && decide (kingB F R v (v 64) = b - upB (v 64) * F))
      · rfl
      · exfalso
        simp only [Bool.and_eq_true, decide_eq_true_eq] at q
        rcases he with he | he
        · omega
        · have := he.2.2
          rw [← q.1.2, ← q.2, hka] at this
          unfold pieceOfB at this
          rcases (show v 64 = 0 ∨ v 64 = 1 by omega) with e | e <;> rw [e] at this <;> exact absurd this (by decide)
    refine king_is (by omega) hkr.1 hk (by rw [ml _ (by omega), if_neg hnb2, if_neg (fun e => hne e.symm), if_neg (by rw [hep]; decide)]; exact hka) fun i i0 i1 hi => ?_
    rw [ml i (by omega)] at hi
    by_cases g1 : i = b
    · rw [if_pos g1] at hi
      exfalso
      apply c1
      rw [hi]; exact kindO_of (by decide)
    · rw [if_neg g1] at hi
      split at hi
      · exact absurd hi.symm pk
      · split at hi
        · exact absurd hi.symm pk
        · exact hone i i0 i1 hi
/-- what the class calls safe is no check behind the move -/
theorem safe_iff {F R a b : Int} {v : Int → Int} (h4 : 4 ≤ F) (h8 : F ≤ 8) (r4 : 4 ≤ R) (r8 : R ≤ 8) (hv : okV F R v) (hbr : brd F R v) (he : epS F R v) (hk : kingB F R v (v 64) < F * R) (hone : oneK F R v (v 64)) (ha : 0 ≤ a ∧ a < F * R) (hb : 0 ≤ b ∧ b < F * R)
    (ho : isOfB (v a) (v 64) = true) (hg : goB F R v a b = true) (hc : castingB F v a b = false) : safeB F R v a b = !chkB F R (mkV F R v a b 0) (v 64) := by
  have hm := FR_r h4 h8 r4 r8
  have hs := hv.s
  have hs2 : 1 - v 64 = 0 ∨ 1 - v 64 = 1 := by omega
  have hkr := kingB_r v (v 64) (show 0 ≤ F * R by omega)
  have ml : ∀ j : Int, j < 64 → _ := fun j hj => mk_low (R := R) h4 h8 hv he ⟨ha.1, by omega⟩ ⟨hb.1, by omega⟩ ho hg hc hj
  have hab : a ≠ b := by unfold goB at hg; intro e; rw [decide_eq_true e] at hg; simp at hg
  have hva0 : v a ≠ 0 := fun e => by rw [e] at ho; simp [isOfB] at ho
  have hK := king_mk h4 h8 r4 r8 hv he hk hone ha hb ho hg hc
  have hpl : 0 ≤ (if kindO (v a) = 1 then b else kingB F R v (v 64)) ∧ (if kindO (v a) = 1 then b else kingB F R v (v 64)) < F * R := by split <;> omega
  have hsf : safeB F R v a b = noneB (fun t => foundB F R v (thenB F v (passC v a) a b) (1 - v 64) (if kindO (v a) = 1 then b else kingB F R v (v 64)) t && !goneB F v (passC v a) b t) := rfl
  rw [hsf]
  clear hsf
  generalize (if kindO (v a) = 1 then b else kingB F R v (v 64)) = pl at hK hpl ⊢
  have hopp : isOfB (v a) (1 - v 64) = false := by
    have := hv.p a ha.1 (by omega)
    rcases (show v 64 = 0 ∨ v 64 = 1 by omega) with e | e <;> rw [e] at ho ⊢ <;> rcases kind_cases this with q | q | q | q | q | q | q | q | q | q | q | q | q <;> rw [q] at ho ⊢ <;> first | rfl | exact absurd ho (by decide)
  have hocc : ∀ j : Int, 0 ≤ j → j < 64 → thenB F v (passC v a) a b j = occB (mkV F R v a b 0) j := fun j h0 h1 => by
    unfold thenB occB goneB
    rw [ml j h1]
    by_cases g1 : j = b
    · rw [if_pos g1, decide_eq_true g1, decide_eq_false hva0]; simp
    · rw [if_neg g1, decide_eq_false g1, Bool.false_or, Bool.or_false]
      by_cases g2 : j = a
      · rw [if_pos g2, decide_eq_true g2]; simp
      · rw [if_neg g2, decide_eq_false g2, Bool.not_false, Bool.and_true]
        cases q : (passC v a && decide (b = v 66) && decide (j = b - upB (v 64) * F))
        · simp
        · simp
  have hbit : ∀ t : Int, 0 ≤ t → t < 64 → (foundB F R v (thenB F v (passC v a) a b) (1 - v 64) pl t && !goneB F v (passC v a) b t) =
      (decide (t < F * R) && (isOfB (mkV F R v a b 0 t) (1 - v 64) && attB F (mkV F R v a b 0) t pl)) := fun t h0 h1 => by
    rw [found_iff h4 h8 r4 r8 hm.2 hpl ⟨h0, h1⟩ hs2 (hv.p t h0 h1) (fun q => hbr t q h1)]
    by_cases ht : t < F * R
    · rw [decide_eq_true ht, Bool.true_and]
      unfold goneB
      rw [ml t h1]
      by_cases g1 : t = b
      · rw [if_pos g1, decide_eq_true g1, hopp]; simp
      · rw [if_neg g1, decide_eq_false g1, Bool.false_or]
        by_cases g2 : t = a
        · rw [if_pos g2, g2, hopp]; simp [isOfB]
        · rw [if_neg g2]
          cases q : (passC v a && decide (b = v 66) && decide (t = b - upB (v 64) * F))
          · rw [if_neg (by decide), Bool.not_false, Bool.and_true]
            congr 1
            rw [← attO_v]
            refine att_cong h4 h8 r4 r8 hm.2 ⟨h0, ht⟩ hpl ?_ hocc
            rw [ml t h1, if_neg g1, if_neg g2, if_neg (by rw [q]; decide)]
          · rw [if_pos rfl]; simp [isOfB]
    · rw [decide_eq_false ht, hbr t (by omega) h1]; simp [isOfB]
  apply Bool.eq_iff_iff.mpr
  unfold noneB chkB atkB
  rw [hK, allL_iff]
  dsimp only
  constructor
  · intro hh
    cases q : anyL (fun j => isOfB (mkV F R v a b 0 j) (1 - v 64) && attB F (mkV F R v a b 0) j pl) 0 (F * R).toNat
    · rfl
    · exfalso
      obtain ⟨j, g1, g2, g3⟩ := anyL_iff.mp q
      have := hh j g1 (by omega)
      rw [hbit j g1 (by omega), g3, decide_eq_true (show j < F * R by omega)] at this
      exact absurd this (by decide)
  · intro hh j g1 g2
    rw [hbit j g1 (by omega)]
    cases q : (decide (j < F * R) && (isOfB (mkV F R v a b 0 j) (1 - v 64) && attB F (mkV F R v a b 0) j pl))
    · rfl
    · exfalso
      rw [Bool.and_eq_true, decide_eq_true_eq] at q
      have : anyL (fun j => isOfB (mkV F R v a b 0 j) (1 - v 64) && attB F (mkV F R v a b 0) j pl) 0 (F * R).toNat = true := anyL_iff.mpr ⟨j, g1, by omega, q.2⟩
      rw [this] at hh
      exact absurd hh (by decide)
