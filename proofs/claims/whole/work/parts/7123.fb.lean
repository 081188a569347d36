/-! PHASE 3, QUIET MOVES: a move of no pawn takes something just if a piece is missing behind it -/
theorem sumL_at1 {f g : Int → Int} {q : Int} (h : ∀ k, k ≠ q → f k = g k) : ∀ (d : Nat) (k : Int), sumL f k d = sumL g k d + (if k ≤ q ∧ q < k + d then f q - g q else 0)
  | 0, k => by
    unfold sumL
    rw [if_neg (by omega)]; rfl
  | d + 1, k => by
    have ih := sumL_at1 h d (k + 1)
    unfold sumL
    rw [ih]
    by_cases z : k = q
    · subst z
      rw [if_neg (by omega), if_pos (by omega)]; omega
    · rw [h k z]
      by_cases w : k + 1 ≤ q ∧ q < k + 1 + d
      · rw [if_pos w, if_pos (by omega)]; omega
      · rw [if_neg w, if_neg (by omega)]; omega
theorem cnt_up (v : Int → Int) {q x : Int} (hq : 0 ≤ q ∧ q < 64) : zcnt (occB (upV v q x)) = zcnt (occB v) + (if x = 0 then 0 else 1) - (if v q = 0 then 0 else 1) := by
  unfold zcnt
  rw [sumL_at1 (f := fun k => if occB (upV v q x) k = true then 1 else 0) (g := fun k => if occB v k = true then 1 else 0) (q := q) (fun k hk => by unfold occB upV; rw [if_neg hk]) 64 0, if_pos (by omega)]
  have e1 : (if occB (upV v q x) q = true then (1 : Int) else 0) = if x = 0 then 0 else 1 := by
    unfold occB upV
    rw [if_pos rfl]
    by_cases z : x = 0
    · rw [if_pos z, decide_eq_true z]; rfl
    · rw [if_neg z, decide_eq_false z]; rfl
  have e2 : (if occB v q = true then (1 : Int) else 0) = if v q = 0 then 0 else 1 := by
    unfold occB
    by_cases z : v q = 0
    · rw [if_pos z, decide_eq_true z]; rfl
    · rw [if_neg z, decide_eq_false z]; rfl
  rw [e1, e2]
  omega
theorem cnt_hi (v : Int → Int) {q x : Int} (hq : 64 ≤ q) : zcnt (occB (upV v q x)) = zcnt (occB v) := zcnt_congr fun k k0 k1 => by unfold occB upV; rw [if_neg (by omega)]
theorem quiet_iff {F R : Int} {v : Int → Int} {t : Mv} (h4 : 4 ≤ F) (h8 : F ≤ 8) (r4 : 4 ≤ R) (r8 : R ≤ 8) (hv : PV F R v) (ok : okMv F R v t) :
    (!decide (kindO (v t.1) = 6) && decide (zcnt (occB v) = zcnt (occB (mkT F R v t)))) = !loudB F v t := by
  have hm : F * R ≤ 64 := by rcases F_cases h4 h8 with e | e | e | e | e <;> (subst e; omega)
  have ha : 0 ≤ t.1 ∧ t.1 < 64 := ⟨ok.1.1, by have := ok.1.2; omega⟩
  have hb : 0 ≤ t.2.1 ∧ t.2.1 < 64 := ⟨ok.2.1.1, by have := ok.2.1.2; omega⟩
  unfold loudB
  by_cases k6 : kindO (v t.1) = 6
  · rw [decide_eq_true k6]; rfl
  rw [decide_eq_false k6, Bool.not_false, Bool.true_and, Bool.false_or]
  have tk : takesB F v t.1 t.2.1 = !decide (v t.2.1 = 0) := by unfold takesB; rw [decide_eq_false k6, Bool.false_and, Bool.or_false]
  have bec0 : t.2.2 = 0 := by
    have e := ok.2.2.2.2.2
    have : becB F R v t.1 t.2.1 = false := by unfold becB; rw [decide_eq_false k6]; rfl
    rw [this, if_neg (by decide)] at e; exact e
  have va : v t.1 ≠ 0 := fun z => by
    have ho := ok.2.2.2.1
    rw [z] at ho
    rcases (show v 64 = 0 ∨ v 64 = 1 by have := hv.1.s; omega) with q | q <;> rw [q] at ho <;> exact absurd ho (by decide)
  have hg : goB F R v t.1 t.2.1 = true := by have := ok.2.2.2.2.1; unfold legB at this; simp only [Bool.and_eq_true] at this; exact this.1
  have hab : t.1 ≠ t.2.1 := by unfold goB at hg; intro e; rw [decide_eq_true e] at hg; simp at hg
  have m1 : mk1 F v t.1 t.2.1 = v := by unfold mk1; rw [if_neg (fun z => k6 z.1)]
  have c2 : zcnt (occB (mk2 F R v t.1 t.2.1)) = zcnt (occB v) ∧ mk2 F R v t.1 t.2.1 t.1 = v t.1 ∧ mk2 F R v t.1 t.2.1 t.2.1 = v t.2.1 := by
    unfold mk2
    rw [m1]
    by_cases hc : castingB F v t.1 t.2.1 = true
    · rw [if_pos hc]
      have k1 : kindO (v t.1) = 1 := by unfold castingB at hc; simp only [Bool.and_eq_true, decide_eq_true_eq] at hc; exact hc.1
      have kg := king_go h4 h8 r4 r8 hv.1 (proper_parts hv.2.2.2.2).2.2.1 ha hb k1 hg
      obtain ⟨rfl, ea, cd⟩ := cast_data r4 r8 hv.1 (proper_parts hv.2.2.2.2).2.2.1 (kg.1.mp hc)
      have hh : ∀ f : Int, homeB 8 R (v 64) f = t.1 - 4 + f := fun f => by rw [ea]; unfold homeB; omega
      have h0 : 0 ≤ t.1 - 4 ∧ t.1 - 4 + 7 < 64 := by
        rw [ea]; unfold homeB; split <;> omega
      have pr : pieceOfB 3 (v 64) ≠ 0 := by unfold pieceOfB; rcases (show v 64 = 0 ∨ v 64 = 1 by have := hv.1.s; omega) with q | q <;> rw [q] <;> decide
      rcases cd with ⟨eb, z1, z2, z3⟩ | ⟨eb, z1, z2, z3, z4⟩
      · have lt : t.1 < t.2.1 := by omega
        rw [if_pos lt, if_pos lt, hh, hh, show t.1 - 4 + 7 = t.1 + 3 by omega, show t.1 - 4 + 5 = t.1 + 1 by omega]
        refine ⟨?_, ?_, ?_⟩
        · rw [cnt_up _ (by omega), cnt_up _ (by omega), if_pos rfl, if_neg (by rw [z3]; exact pr), if_neg pr]
          have : upV v (t.1 + 3) 0 (t.1 + 1) = 0 := by unfold upV; rw [if_neg (by omega)]; exact z1
          rw [this, if_pos rfl]; omega
        · unfold upV; rw [if_neg (by omega), if_neg (by omega)]
        · unfold upV; rw [if_neg (by omega), if_neg (by omega)]
      · have lt : ¬ t.1 < t.2.1 := by omega
        rw [if_neg lt, if_neg lt, hh, hh, show t.1 - 4 + 0 = t.1 - 4 by omega, show t.1 - 4 + 3 = t.1 - 1 by omega]
        refine ⟨?_, ?_, ?_⟩
        · rw [cnt_up _ (by omega), cnt_up _ (by omega), if_pos rfl, if_neg (by rw [z4]; exact pr), if_neg pr]
          have : upV v (t.1 - 4) 0 (t.1 - 1) = 0 := by unfold upV; rw [if_neg (by omega)]; exact z1
          rw [this, if_pos rfl]; omega
        · unfold upV; rw [if_neg (by omega), if_neg (by omega)]
        · unfold upV; rw [if_neg (by omega), if_neg (by omega)]
    · rw [if_neg hc]; exact ⟨rfl, rfl, rfl⟩
  have e : zcnt (occB (mkT F R v t)) = zcnt (occB v) + 1 - 1 - (if v t.2.1 = 0 then 0 else 1) + 0 := by
    unfold mkT mkV mk6 mk4
    rw [cnt_hi _ (by decide), cnt_hi _ (by decide), cnt_hi _ (by decide), cnt_up _ hb, cnt_up _ ha, c2.1, c2.2.1, if_pos bec0, if_neg va, if_pos (rfl : (0 : Int) = 0)]
    have : upV (mk2 F R v t.1 t.2.1) t.1 0 t.2.1 = v t.2.1 := by unfold upV; rw [if_neg (fun z => hab z.symm)]; exact c2.2.2
    rw [this]
    omega
  rw [e, tk, Bool.not_not]
  by_cases z : v t.2.1 = 0
  · rw [if_pos z, decide_eq_true z]; exact decide_eq_true (by omega)
  · rw [if_neg z, decide_eq_false z]; exact decide_eq_false (by omega)
