/-! PURE: no two moves have the same letters -/
section
variable {F R : Int} {v : Int → Int}
theorem kind_r {p s : Int} (hp : 0 ≤ p ∧ p ≤ 12) (h : isOfB p s = true) : 1 ≤ kindO p ∧ kindO p ≤ 6 := by
  unfold isOfB at h
  unfold kindO
  by_cases c : p = 0
  · rw [if_pos c] at h; exact absurd h (by decide)
  · omega
theorem letB_inj {a b : Int} (ha : 1 ≤ a ∧ a ≤ 6) (hb : 1 ≤ b ∧ b ≤ 6) (h : letB a = letB b) : a = b := by
  rcases (show a = 1 ∨ a = 2 ∨ a = 3 ∨ a = 4 ∨ a = 5 ∨ a = 6 by omega) with rfl | rfl | rfl | rfl | rfl | rfl <;>
  rcases (show b = 1 ∨ b = 2 ∨ b = 3 ∨ b = 4 ∨ b = 5 ∨ b = 6 by omega) with rfl | rfl | rfl | rfl | rfl | rfl <;> first | rfl | exact absurd h (by decide)
theorem letB_79 {a : Int} (ha : 1 ≤ a ∧ a ≤ 6) : letB a ≠ 79 ∧ letB a < 97 := by
  rcases (show a = 1 ∨ a = 2 ∨ a = 3 ∨ a = 4 ∨ a = 5 ∨ a = 6 by omega) with rfl | rfl | rfl | rfl | rfl | rfl <;> decide
theorem rank_lo (hB : (4 ≤ F ∧ F ≤ 8) ∧ 4 ≤ R ∧ R ≤ 8) {a : Int} (ha : 0 ≤ a ∧ a < F * R) : 49 ≤ rankC F a ∧ rankC F a < 97 := by
  have := FR_r hB.1.1 hB.1.2 hB.2.1 hB.2.2
  unfold rankC
  rcases (show F = 4 ∨ F = 5 ∨ F = 6 ∨ F = 7 ∨ F = 8 by omega) with rfl | rfl | rfl | rfl | rfl <;> omega
theorem file_lo (hB : (4 ≤ F ∧ F ≤ 8) ∧ 4 ≤ R ∧ R ≤ 8) (a : Int) : 97 ≤ fileC F a := by
  have := Int.emod_nonneg a (show F ≠ 0 by omega)
  unfold fileC; omega
/-- a castling by its letters -/
theorem cast_to {a b : Int} (h : castingB F v a b = true) (hg : goB F R v a b = true) : a = homeB F R (v 64) 4 ∧ (b = homeB F R (v 64) 6 ∨ b = homeB F R (v 64) 2) := by
  unfold castingB at h
  rw [Bool.and_eq_true, decide_eq_true_eq, decide_eq_true_eq] at h
  unfold goB at hg
  rw [Bool.and_eq_true, if_neg (show ¬ kindO (v a) = 6 by omega), Bool.or_eq_true] at hg
  have na : attB F v a b = false := by
    unfold attB
    rw [if_pos h.1, h.2]; simp
  rcases hg.2 with z | z
  · rw [na] at z; exact absurd z (by decide)
  · rw [Bool.and_eq_true] at z
    have z := z.2
    unfold castB castT at z
    simp only [Bool.and_eq_true, Bool.or_eq_true, decide_eq_true_eq] at z
    exact ⟨z.2.1.1.2, z.1.2⟩
theorem not_pawn_bec {a b : Int} (h : ¬ kindO (v a) = 6) : becB F R v a b = false := by
  unfold becB; rw [decide_eq_false h]; rfl
/-- a pawn's step -/
theorem pawn_stp {a b : Int} (h4 : 4 ≤ F) (hk : kindO (v a) = 6) (hg : goB F R v a b = true) :
    (takesB F v a b = true ∧ b / F - a / F = (if v a = 6 then 1 else -1)) ∨ (takesB F v a b = false ∧ a % F = b % F ∧ ((b / F - a / F) * upB (v 64) = 1 ∨ ((b / F - a / F) * upB (v 64) = 2 ∧ v (a + upB (v 64) * F) = 0))) := by
  unfold goB at hg
  rw [Bool.and_eq_true, if_pos hk] at hg
  have hg := hg.2
  unfold goPawnB at hg
  by_cases c : attB F v a b = true
  · left
    unfold attB at c
    rw [hk] at c
    simp only [show ¬ ((6 : Int) = 1) by decide, show ¬ ((6 : Int) = 2) by decide, show ¬ ((6 : Int) = 3) by decide, show ¬ ((6 : Int) = 4) by decide, show ¬ ((6 : Int) = 5) by decide, if_false, if_true] at c
    simp only [Bool.and_eq_true, decide_eq_true_eq] at c
    refine ⟨?_, c.2⟩
    unfold takesB
    rw [hk, decide_eq_false (show ¬ a % F = b % F from fun z => by rw [z] at c; have := c.1; unfold dist at this; rw [if_pos (Int.le_refl _)] at this; omega)]
    simp
  · rw [if_neg c] at hg
    simp only [Bool.and_eq_true, Bool.or_eq_true, decide_eq_true_eq] at hg
    right
    refine ⟨?_, hg.1.1, ?_⟩
    · unfold takesB
      rw [decide_eq_true hg.1.2, decide_eq_true hg.1.1]; simp
    · rcases hg.2 with z | z
      · exact Or.inl z
      · exact Or.inr ⟨z.1.1.1, z.2⟩
theorem sanA_pawn {L : List Mv} {t : Mv} (hk : kindO (v t.1) = 6) : sanA F v L t = (if takesB F v t.1 t.2.1 = true then [fileC F t.1, 120] else []) ++ tailA F v t := by
  have hc : castingB F v t.1 t.2.1 = false := by unfold castingB; rw [decide_eq_false (by omega)]; rfl
  unfold sanA headA takeA
  rw [hc, if_neg (by decide), if_pos hk]
  split <;> rfl
theorem pawn_hd (hB : (4 ≤ F ∧ F ≤ 8) ∧ 4 ≤ R ∧ R ≤ 8) {L : List Mv} {t : Mv} (hk : kindO (v t.1) = 6) : ∃ x T, sanA F v L t = x :: T ∧ 97 ≤ x := by
  rw [sanA_pawn hk]
  unfold tailA
  cases takesB F v t.1 t.2.1
  · exact ⟨_, _, rfl, file_lo hB _⟩
  · exact ⟨_, _, rfl, file_lo hB _⟩
theorem sanA_other {L : List Mv} {t : Mv} (ok : okMv F R v t) (hk : ¬ kindO (v t.1) = 6) (hc : castingB F v t.1 t.2.1 = false) : sanA F v L t = letB (kindO (v t.1)) :: ((fromC F t.1 (disL F v L t.1 t.2.1 0 false false false L.length) ++ (if v t.2.1 = 0 then [] else [120])) ++ [fileC F t.2.1, rankC F t.2.1]) := by
  have e0 : t.2.2 = 0 := by
    have := ok.2.2.2.2.2
    rw [not_pawn_bec hk] at this
    exact this
  have tk : takesB F v t.1 t.2.1 = !decide (v t.2.1 = 0) := by
    unfold takesB
    rw [decide_eq_false hk, Bool.false_and, Bool.or_false]
  unfold sanA headA takeA tailA
  rw [hc, if_neg (by decide), if_neg hk, e0, if_pos rfl, List.append_nil, tk]
  by_cases z : v t.2.1 = 0
  · rw [if_pos z, decide_eq_true z]; simp
  · rw [if_neg z, decide_eq_false z]; simp
theorem sanA_cast {L : List Mv} {t : Mv} (hc : castingB F v t.1 t.2.1 = true) : sanA F v L t = (if t.1 < t.2.1 then [79, 45, 79] else [79, 45, 79, 45, 79]) := by
  unfold sanA; rw [hc, if_pos rfl]
theorem promo_inj {b c : Int} {bp cp : Bool} (hb : 0 ≤ b ∧ b ≤ 5) (hc : 0 ≤ c ∧ c ≤ 5) (h1 : if bp then 2 ≤ b else b = 0) (h2 : if cp then 2 ≤ c else c = 0) (h : (if b = 0 then [] else [61, letB b]) = (if c = 0 then ([] : List Int) else [61, letB c])) : b = c := by
  by_cases z : b = 0
  · by_cases y : c = 0
    · omega
    · rw [if_pos z, if_neg y] at h; exact absurd h (by simp)
  · by_cases y : c = 0
    · rw [if_neg z, if_pos y] at h; exact absurd h (by simp)
    · rw [if_neg z, if_neg y] at h
      injection h with _ h
      injection h with h
      exact letB_inj (by omega) (by omega) h
theorem tail_inj {t u : Mv} (h : tailA F v t = tailA F v u) : fileC F t.2.1 = fileC F u.2.1 ∧ rankC F t.2.1 = rankC F u.2.1 ∧ (if t.2.2 = 0 then [] else [61, letB t.2.2]) = (if u.2.2 = 0 then ([] : List Int) else [61, letB u.2.2]) := by
  unfold tailA at h
  injection h with h1 h
  injection h with h2 h
  exact ⟨h1, h2, h⟩
theorem mv_ext {t u : Mv} (h1 : t.1 = u.1) (h2 : t.2.1 = u.2.1) (h3 : t.2.2 = u.2.2) : t = u := by
  obtain ⟨a, b, c⟩ := t
  obtain ⟨d, e, f⟩ := u
  dsimp only at h1 h2 h3
  rw [h1, h2, h3]
theorem sanA_inj (hB : (4 ≤ F ∧ F ≤ 8) ∧ 4 ≤ R ∧ R ≤ 8) (hv : PV F R v) {t u : Mv} (ht : t ∈ movesL F R v) (hu : u ∈ movesL F R v) (h : sanA F v (movesL F R v) t = sanA F v (movesL F R v) u) : t = u := by
  have hn := FR_r hB.1.1 hB.1.2 hB.2.1 hB.2.2
  have okt := movesL_mem (F := F) (R := R) (v := v) (by omega) ht
  have oku := movesL_mem (F := F) (R := R) (v := v) (by omega) hu
  have pt := hv.1.p t.1 (by have := okt.1; omega) (by have := okt.1; omega)
  have pu := hv.1.p u.1 (by have := oku.1; omega) (by have := oku.1; omega)
  have kt := kind_r pt okt.2.2.2.1
  have ku := kind_r pu oku.2.2.2.1
  have hs : v 64 = 0 ∨ v 64 = 1 := by have := hv.1.s; omega
  have gt : goB F R v t.1 t.2.1 = true := by have := okt.2.2.2.2.1; unfold legB at this; rw [Bool.and_eq_true] at this; exact this.1
  have gu : goB F R v u.1 u.2.1 = true := by have := oku.2.2.2.2.1; unfold legB at this; rw [Bool.and_eq_true] at this; exact this.1
  have ke := kind_eq pt pu okt.2.2.2.1 oku.2.2.2.1 hs
  -- the first letter of a move that is no castling
  have hd : ∀ w : Mv, okMv F R v w → 1 ≤ kindO (v w.1) ∧ kindO (v w.1) ≤ 6 → castingB F v w.1 w.2.1 = false → ∃ x T, sanA F v (movesL F R v) w = x :: T ∧ x ≠ 79 := by
    intro w okw kw cw
    by_cases z : kindO (v w.1) = 6
    · rw [sanA_pawn z]
      unfold tailA
      split
      · exact ⟨_, _, rfl, by have := file_lo hB w.1; omega⟩
      · exact ⟨_, _, rfl, by have := file_lo hB w.2.1; omega⟩
    · rw [sanA_other okw z cw]
      exact ⟨_, _, rfl, (letB_79 kw).1⟩
  cases ct : castingB F v t.1 t.2.1
  · cases cu : castingB F v u.1 u.2.1
    · by_cases zt : kindO (v t.1) = 6
      · by_cases zu : kindO (v u.1) = 6
        · have ve : v t.1 = v u.1 := ke.mp (by omega)
          have pgt := pawn_stp hB.1.1 zt gt
          have pgu := pawn_stp hB.1.1 zu gu
          rw [sanA_pawn zt, sanA_pawn zu] at h
          have rt := rank_lo hB okt.2.1
          have ru := rank_lo hB oku.2.1
          rcases pgt with ⟨t1, t2⟩ | ⟨t1, t2, t3⟩ <;> rcases pgu with ⟨u1, u2⟩ | ⟨u1, u2, u3⟩
          · rw [t1, u1, if_pos rfl, if_pos rfl] at h
            injection h with h1 h
            injection h with _ h
            obtain ⟨h2, h3, h4⟩ := tail_inj (v := v) h
            have eb := sq_eq (fileC_inj h2) (rankC_inj h3)
            rw [ve] at t2
            rw [← eb] at u2
            exact mv_ext (sq_eq (fileC_inj h1) (by omega)) eb (promo_inj okt.2.2.1 oku.2.2.1 okt.2.2.2.2.2 oku.2.2.2.2.2 h4)
          · rw [t1, u1, if_pos rfl, if_neg (by decide)] at h
            unfold tailA at h
            injection h with _ h
            injection h with h _
            omega
          · rw [t1, u1, if_pos rfl, if_neg (by decide)] at h
            unfold tailA at h
            injection h with _ h
            injection h with h _
            omega
          · rw [t1, u1, if_neg (show ¬ (false = true) by decide), if_neg (show ¬ (false = true) by decide)] at h
            obtain ⟨h2, h3, h4⟩ := tail_inj (v := v) h
            have eb := sq_eq (fileC_inj h2) (rankC_inj h3)
            rw [← eb] at u2 u3
            have em : t.1 % F = u.1 % F := t2.trans u2.symm
            have up : upB (v 64) = 1 ∨ upB (v 64) = -1 := by unfold upB; split <;> simp
            have dv := fun (a : Int) => Int.emod_add_mul_ediv a F
            have d1 := dv t.1
            have d2 := dv u.1
            have nt : v t.1 ≠ 0 := fun z => by unfold kindO at zt; rw [z] at zt; exact absurd zt (by decide)
            have nu : v u.1 ≠ 0 := fun z => by unfold kindO at zu; rw [z] at zu; exact absurd zu (by decide)
            have step : ∀ {x y : Int}, x % F = y % F → x / F = y / F + upB (v 64) → y + upB (v 64) * F = x := fun {x y} e1 e2 => by
              have a1 := dv x
              have a2 := dv y
              rw [e1, e2, Int.mul_add] at a1
              rw [Int.mul_comm (upB (v 64)) F]
              omega
            have ef : t.1 / F = u.1 / F := by
              rcases t3 with t3 | ⟨t3, t4⟩ <;> rcases u3 with u3 | ⟨u3, u4⟩ <;> rcases up with e | e <;> rw [e] at t3 u3
              · omega
              · omega
              · exfalso
                have := step em (by rw [e]; omega)
                rw [this] at u4; exact nt u4
              · exfalso
                have := step em (by rw [e]; omega)
                rw [this] at u4; exact nt u4
              · exfalso
                have := step em.symm (by rw [e]; omega)
                rw [this] at t4; exact nu t4
              · exfalso
                have := step em.symm (by rw [e]; omega)
                rw [this] at t4; exact nu t4
              · omega
              · omega
            exact mv_ext (sq_eq em ef) eb (promo_inj okt.2.2.1 oku.2.2.1 okt.2.2.2.2.2 oku.2.2.2.2.2 h4)
        · exfalso
          obtain ⟨x, T, e, n⟩ := pawn_hd (v := v) hB (L := movesL F R v) zt
          rw [e, sanA_other oku zu cu] at h
          have l := letB_79 ku
          injection h with h _; omega
      · by_cases zu : kindO (v u.1) = 6
        · exfalso
          obtain ⟨x, T, e, n⟩ := pawn_hd (v := v) hB (L := movesL F R v) zu
          rw [e, sanA_other okt zt ct] at h
          have l := letB_79 kt
          injection h with h _; omega
        · rw [sanA_other okt zt ct, sanA_other oku zu cu] at h
          injection h with h1 h
          have kk := letB_inj kt ku h1
          have ve : v t.1 = v u.1 := ke.mp kk
          have h := List.append_inj' h rfl
          have h2 := h.2
          injection h2 with h2 h3
          injection h3 with h3 _
          have eb := sq_eq (fileC_inj h2) (rankC_inj h3)
          have h4 := h.1
          rw [← eb] at h4
          have h5 := (List.append_inj' h4 rfl).1
          rw [eb] at h5
          have e0 : t.2.2 = 0 := by have := okt.2.2.2.2.2; rw [not_pawn_bec zt] at this; exact this
          have f0 : u.2.2 = 0 := by have := oku.2.2.2.2.2; rw [not_pawn_bec zu] at this; exact this
          rw [← eb] at h5
          have := fromC_inj (v := v) hB ht hu okt.1 oku.1 eb ve (by rw [← eb]; exact h5)
          exact mv_ext this eb (by rw [e0, f0])
    · exfalso
      obtain ⟨x, T, e, n⟩ := hd t okt kt ct
      rw [e, sanA_cast cu] at h
      split at h <;> (injection h with h _; exact n h)
  · cases cu : castingB F v u.1 u.2.1
    · exfalso
      obtain ⟨x, T, e, n⟩ := hd u oku ku cu
      rw [e, sanA_cast ct] at h
      split at h <;> (injection h with h _; exact n h.symm)
    · have c1 := cast_to ct gt
      have c2 := cast_to cu gu
      have zt : ¬ kindO (v t.1) = 6 := fun z => by unfold castingB at ct; rw [decide_eq_false (by omega)] at ct; exact absurd ct (by simp)
      have zu : ¬ kindO (v u.1) = 6 := fun z => by unfold castingB at cu; rw [decide_eq_false (by omega)] at cu; exact absurd cu (by simp)
      have e0 : t.2.2 = 0 := by have := okt.2.2.2.2.2; rw [not_pawn_bec zt] at this; exact this
      have f0 : u.2.2 = 0 := by have := oku.2.2.2.2.2; rw [not_pawn_bec zu] at this; exact this
      rw [sanA_cast ct, sanA_cast cu] at h
      unfold homeB at c1 c2
      refine mv_ext (by omega) ?_ (by rw [e0, f0])
      by_cases a : t.1 < t.2.1
      · by_cases b : u.1 < u.2.1
        · omega
        · rw [if_pos a, if_neg b] at h; exact absurd h (by simp)
      · by_cases b : u.1 < u.2.1
        · rw [if_neg a, if_pos b] at h; exact absurd h (by simp)
        · omega
/-- the letters tell the moves apart -/
theorem tell_PV {c : cM} (hB : BG c F R) (hv : PV F R v) : tellB F R v := by
  have hm := hB.m
  have h4 := hB.f4; have h8 := hB.f8; have r4 := hB.r4; have r8 := hB.r8
  intro i i0 i1
  refine firstL_u _ (by decide) ⟨i0, by omega⟩ (decide_eq_true rfl) fun j j0 j1 => ?_
  refine decide_eq_false fun z => ?_
  have mi := getD_mem (L := movesL F R v) (k := i) ⟨i0, i1⟩
  have mj := getD_mem (L := movesL F R v) (k := j) ⟨j0, by omega⟩
  have oki := movesL_mem (F := F) (R := R) (v := v) (by omega) mi
  have okj := movesL_mem (F := F) (R := R) (v := v) (by omega) mj
  unfold wdC at z
  have e := (pk_iff ⟨by have := sanA_len6 (L := movesL F R v) okj; omega, sanA_p hB okj⟩ ⟨by have := sanA_len6 (L := movesL F R v) oki; omega, sanA_p hB oki⟩).mp z
  have := sanA_inj ⟨⟨h4, h8⟩, r4, r8⟩ hv mj mi e
  have := movesL_inj (F := F) (R := R) (v := v) hm.2 ⟨j0, by omega⟩ ⟨i0, i1⟩ this
  omega
end
