/-! PHASE 3, how many moves there are -/
theorem sumL_add (f g : Int → Int) : ∀ (d : Nat) (k : Int), sumL (fun j => f j + g j) k d = sumL f k d + sumL g k d
  | 0, k => rfl
  | d + 1, k => by rw [sumL_S, sumL_S, sumL_S, sumL_add f g d (k + 1)]; omega
theorem sumL_mul (c : Int) (f : Int → Int) : ∀ (d : Nat) (k : Int), sumL (fun j => c * f j) k d = c * sumL f k d
  | 0, k => by unfold sumL; omega
  | d + 1, k => by rw [sumL_S, sumL_S, sumL_mul c f d (k + 1), Int.mul_add]
/-- how many moves a square's piece has, castling aside -/
def partN (F R : Int) (v : Int → Int) (a : Int) : Int :=
  if isOfB (v a) (v 64) then zcnt (tgtB F R v a) + (if kindO (v a) = 6 then 3 * zcnt (fun b => tgtB F R v a b && edgeB F R b) else 0) else 0
theorem zcnt_0 {P : Int → Bool} (h : ∀ k : Int, 0 ≤ k → k < 64 → P k = false) : zcnt P = 0 := by
  unfold zcnt
  exact sumL_0 _ _ fun j h0 h1 => by rw [h j h0 (by omega)]; rfl
theorem sumL_one {f : Int → Int} {x : Int} : ∀ (d : Nat) (k : Int), k ≤ x → x < k + d → (∀ j, k ≤ j → j < k + d → j ≠ x → f j = 0) → sumL f k d = f x
  | 0, k, h1, h2, h => by omega
  | d + 1, k, h1, h2, h => by
    rw [sumL_S]
    by_cases e : k = x
    · rw [sumL_0 d (k + 1) (fun j g1 g2 => h j (by omega) (by omega) (by omega)), e]; omega
    · rw [h k (by omega) (by omega) e, sumL_one d (k + 1) (by omega) (by omega) (fun j g1 g2 g3 => h j (by omega) (by omega) g3)]; omega
theorem mFrom_len {F R : Int} {v : Int → Int} (h4 : 4 ≤ F) (h8 : F ≤ 8) (r4 : 4 ≤ R) (r8 : R ≤ 8) (hv : PK F R v) : ∀ (d : Nat) (a : Int), 0 ≤ a → a + d ≤ F * R →
    ((mFrom F R v a d).length : Int) = sumL (fun j => partN F R v j + (if j = kingB F R v (v 64) then zcnt (castC F R v) else 0)) a d
  | 0, a, h1, h2 => rfl
  | d + 1, a, h1, h2 => by
    have hm := FR_r h4 h8 r4 r8
    obtain ⟨v1, v2, v3, v4, v5, v6, v7⟩ := id hv
    rw [sumL_S]
    show (((if isOfB (v a) (v 64) then mTo F R v a 0 (F * R).toNat else []) ++ mFrom F R v (a + 1) d).length : Int) = _
    rw [List.length_append]
    push_cast
    rw [mFrom_len h4 h8 r4 r8 hv d (a + 1) (by omega) (by push_cast at h2; omega)]
    congr 1
    have haF : 0 ≤ a ∧ a < F * R := ⟨h1, by push_cast at h2; omega⟩
    by_cases ho : isOfB (v a) (v 64) = true
    · rw [if_pos ho, mTo_G, mTo_len]
      unfold partN
      rw [if_pos ho]
      have hkd := kindO_r (v1.p a haF.1 (by omega))
      -- all 64 squares
      have e1 : sumL (fun k => if legB F R v a k then (if becB F R v a k then (4 : Int) else 1) else 0) 0 (F * R).toNat = sumL (fun k => (if (tgtB F R v a k : Bool) = true then (1 : Int) else 0) + ((if kindO (v a) = 6 then 3 * (if (tgtB F R v a k && edgeB F R k : Bool) = true then (1 : Int) else 0) else 0) + (if a = kingB F R v (v 64) then (if (castC F R v k : Bool) = true then (1 : Int) else 0) else 0))) 0 64 := by
        rw [show (64 : Nat) = (F * R).toNat + (64 - (F * R).toNat) by omega, sumL_split]
        have tA := fun b (b0 : 0 ≤ b) (b1 : b < 64) => tgtA_iff h4 h8 r4 r8 hv haF ⟨b0, b1⟩ ho
        rw [sumL_0 (64 - (F * R).toNat) (0 + ((F * R).toNat : Int)) (fun j g0 g1 => by
          have := tA j (by omega) (by omega)
          rw [decide_eq_false (show ¬ j < F * R by omega), Bool.false_and] at this
          unfold tgtA at this
          rw [Bool.or_eq_false_iff] at this
          rw [this.1]
          by_cases hK : a = kingB F R v (v 64)
          · rw [decide_eq_true hK, Bool.true_and] at this
            rw [this.2]; simp
          · simp [hK]), Int.add_zero]
        refine sumL_congr _ _ fun j g0 g1 => ?_
        have hj := tA j g0 (by omega)
        rw [decide_eq_true (show j < F * R by omega), Bool.true_and] at hj
        have htl := tgt_leg h4 h8 r4 r8 v1 v3 v4 v5 v6 v7 haF ⟨g0, show j < F * R by omega⟩ ho
        cases hl : legB F R v a j
        · rw [hl] at hj
          unfold tgtA at hj
          rw [Bool.or_eq_false_iff] at hj
          rw [hj.1]
          by_cases hK : a = kingB F R v (v 64)
          · rw [decide_eq_true hK, Bool.true_and] at hj
            rw [hj.2]; simp
          · simp [hK]
        · have hbe := edge_bec h4 h8 r4 r8 v1 haF ⟨g0, show j < F * R by omega⟩ ho hl
          rw [hl] at htl hj
          simp only [if_true]
          cases hcs : castingB F v a j
          · rw [hcs] at htl
            simp only [Bool.not_false, Bool.and_true] at htl
            have hcc : a = kingB F R v (v 64) → castC F R v j = false := fun e => by
              have hk1 : kindO (v a) = 1 := by rw [e, king_at (by omega) v6]; exact kindO_of (by decide)
              rw [castC_iff h4 h8 r4 r8 v1 v5 v7, ← e, ← cast_leg h4 h8 r4 r8 v1 v3 v5 v6 v7 haF ⟨g0, show j < F * R by omega⟩ ho hk1, hcs, Bool.and_false]
            rw [htl, ← hbe]
            by_cases hk6 : kindO (v a) = 6
            · rw [decide_eq_true hk6, if_pos hk6]
              have hK : ¬ a = kingB F R v (v 64) := fun e => by rw [e, king_at (by omega) v6, kindO_of (by decide)] at hk6; omega
              rw [if_neg hK]
              cases edgeB F R j <;> rfl
            · rw [decide_eq_false hk6, if_neg hk6]
              by_cases hK : a = kingB F R v (v 64)
              · rw [if_pos hK, hcc hK]; rfl
              · rw [if_neg hK]; rfl
          · rw [hcs] at htl
            have hk1 : kindO (v a) = 1 := by unfold castingB at hcs; simp only [Bool.and_eq_true, decide_eq_true_eq] at hcs; exact hcs.1
            have hK : a = kingB F R v (v 64) := v7 a haF.1 haF.2 (isOfB_king (v1.p a haF.1 (by omega)) v1.s ho hk1)
            have hcc : castC F R v j = true := by
              rw [castC_iff h4 h8 r4 r8 v1 v5 v7, ← hK, ← cast_leg h4 h8 r4 r8 v1 v3 v5 v6 v7 haF ⟨g0, show j < F * R by omega⟩ ho hk1, hcs, hl]; rfl
            rw [htl, ← hbe, if_pos hK, hcc, if_neg (show ¬ kindO (v a) = 6 by omega), decide_eq_false (show ¬ kindO (v a) = 6 by omega)]
            rfl
      rw [e1, sumL_add, sumL_add]
      unfold zcnt
      by_cases hk6 : kindO (v a) = 6 <;> by_cases hK : a = kingB F R v (v 64)
      · simp only [hk6, if_true, sumL_mul]; rw [if_pos hK]; simp only [hK, if_true]; omega
      · simp only [hk6, if_true, sumL_mul]; rw [if_neg hK]; simp only [hK, if_false]; rw [sumL_0 (f := fun _ => (0 : Int)) _ _ (fun _ _ _ => rfl)]; omega
      · simp only [hk6, if_false]; rw [if_pos hK]; simp only [hK, if_true]; rw [sumL_0 (f := fun _ => (0 : Int)) _ _ (fun _ _ _ => rfl)]; omega
      · simp only [hk6, if_false]; rw [if_neg hK]; simp only [hK, if_false]; rw [sumL_0 (f := fun _ => (0 : Int)) _ _ (fun _ _ _ => rfl)]; omega
    · have hno : a ≠ kingB F R v (v 64) := fun e => ho (by rw [e, king_at (by omega) v6]; exact isOfB_of (by decide) v1.s)
      unfold partN
      rw [if_neg ho, if_neg ho, if_neg hno]; rfl
theorem moves_len {F R : Int} {v : Int → Int} (h4 : 4 ≤ F) (h8 : F ≤ 8) (r4 : 4 ≤ R) (r8 : R ≤ 8) (hv : PK F R v) : ((movesL F R v).length : Int) = zcnt (castC F R v) + sumL (partN F R v) 0 (F * R).toNat := by
  have hm := FR_r h4 h8 r4 r8
  have hkr := kingB_r v (v 64) (show 0 ≤ F * R by omega)
  unfold movesL
  rw [mFrom_len h4 h8 r4 r8 hv _ 0 (by decide) (by omega), sumL_add, sumL_one (x := kingB F R v (v 64)) _ 0 hkr.1 (by have := hv.2.2.2.2.2.1; omega) (fun j _ _ hne => if_neg hne), if_pos rfl]
  omega
theorem partN_r {F R : Int} {v : Int → Int} (a : Int) : 0 ≤ partN F R v a ∧ partN F R v a ≤ 256 := by
  unfold partN
  have h1 := zcnt_r (tgtB F R v a)
  have h2 := zcnt_r (fun b => tgtB F R v a b && edgeB F R b)
  split
  · split <;> omega
  · omega
section
variable {D : wD} {S : wS} {o : Nat → Nat} {c : cM} {F R : Int} {p r : Nat} {v : Int → Int}
theorem q_number_16 {post : Int32 → wS → Prop} (h : CC D S o) (hB : BG c F R) (hp : isP p) (hv : PK F R v) (hA : PAt c p v) (hR : RA c F R v) (k : post (iI (movesL F R v).length) (cS S o c)) :
    ∀ (n d : Nat) (a s : Int), d < n → a + d = F * R → 0 ≤ a → s + sumL (partN F R v) a d = (movesL F R v).length →
    wp_X8_numberOfMoves_16 D post n (cS S o c) (o 10) (o p) (iI s) (iI a) := by
  have hm := hB.m
  have h4 := hB.f4; have h8 := hB.f8; have r4 := hB.r4; have r8 := hB.r8
  obtain ⟨v1, v2, v3, v4, v5, v6, v7⟩ := id hv
  have sz : sI (cS S o c) (o 1) 2 = iI (F * R) := by rw [c_i1 h (by decide) (show ((2 : Nat) : Int) = 2 from rfl)]; exact congrArg iI hB.n
  have z3 : sJ (cS S o c) (o 10) 3 = zS (fun k => isOfB (v k) (v 64)) := by rw [c_j1 h (by decide) (show ((3 : Nat) : Int) = 3 from rfl)]; exact hR.2.2.1
  have ze : sJ (cS S o c) (o 1) 3 = zS (edgeB F R) := by rw [c_j1 h (by decide) (show ((3 : Nat) : Int) = 3 from rfl)]; exact hB.e
  intro n
  induction n with
  | zero => intro d a s hd; omega
  | succ n ih =>
    intro d a s hd had ha0 hsum
    unfold wp_X8_numberOfMoves_16
    refine ⟨o 1, c_r h rfl, (c_m h (by decide)).mpr trivial, c_k h (by decide), ?_⟩
    have lsz : (iI (F * R) ≤ iI a) = (F * R ≤ a) := by rw [iI_le (by omega) (by omega) (by omega) (by omega)]
    rw [sz, lsz]
    refine ⟨fun q => ?_, fun q => ?_⟩
    · have : d = 0 := by omega
      subst this
      have e : s = (movesL F R v).length := by rw [← hsum]; unfold sumL; omega
      rw [e]; exact k
    · obtain ⟨e, rfl⟩ : ∃ e : Nat, d = e + 1 := ⟨d - 1, by omega⟩
      rw [sumL_S] at hsum
      have ha64 : 0 ≤ a ∧ a < 64 := ⟨ha0, by omega⟩
      rw [z3, q_contains _ ha64, bF]
      have next : ∀ s' : Int, s' = s + partN F R v a → wp_X8_numberOfMoves_82 D post (wp_X8_numberOfMoves_16 D post n) (cS S o c) (o 10) (o p) (iI s') (iI a) := by
        intro s' hs'
        unfold wp_X8_numberOfMoves_82
        intro x1 ex
        rw [ex, show (1 : Int32) = iI 1 from rfl, iI_add]
        exact ih e (a + 1) s' (by omega) (by push_cast at had; omega) (by omega) (by omega)
      refine ⟨fun q2 => next s (by unfold partN; rw [q2]; simp), fun q2 => ?_⟩
      have ho : isOfB (v a) (v 64) = true := by simpa using q2
      refine q_targets h hB hp v1 v3 v4 hA hR v6 ⟨ha0, by omega⟩ ?_
      rw [q_bitCount]
      intro x10 e10
      rw [iI_add] at e10
      rw [q_kindOn h hp v1.p hA ha64]
      have hkd := kindO_r (v1.p a ha0 (by omega))
      have lk6 : (iI (kindO (v a)) = (6 : Int32)) = (kindO (v a) = 6) := by rw [show (6 : Int32) = iI 6 from rfl, iI_eq (by omega) (by omega) (by decide) (by decide)]
      rw [lk6, e10]
      refine ⟨fun z => next _ ?_, fun z => ⟨o 1, c_r h rfl, (c_m h (by decide)).mpr trivial, c_k h (by decide), ?_⟩⟩
      · unfold partN; rw [if_pos ho, if_neg z]; omega
      · rw [ze, zS_and, q_bitCount]
        intro x17 e17
        rw [show (3 : Int32) = iI 3 from rfl, iI_mul, iI_add] at e17
        rw [e17]
        refine next _ ?_
        unfold partN; rw [if_pos ho, if_pos z]; omega
theorem q_numberOfMoves {post : Int32 → wS → Prop} (h : CC D S o) (hB : BG c F R) (hp : isP p) (hv : PK F R v) (hA : PAt c p v) (k : post (iI (movesL F R v).length) (cS S o (lookM c F R v))) :
    wp_X8_numberOfMoves D post (cS S o c) (o 10) (o p) := by
  have hm := hB.m
  have h4 := hB.f4; have h8 := hB.f8; have r4 := hB.r4; have r8 := hB.r8
  unfold wp_X8_numberOfMoves wp_X8_numberOfMoves_0
  refine q_look h hB hp hv.1 hv.2.2.1 hA hv.2.2.2.2.2.1 ?_
  refine q_castlings h (hB.look v) hp hv.1 hv.2.2.1 hv.2.2.2.2.1 (lookM_P hp hA) (lookM_RA c F R v) ?_
  rw [q_bitCount]
  refine ⟨(F * R).toNat + 1, ?_⟩
  rw [show (0 : Int32) = iI 0 from rfl]
  exact q_number_16 h (hB.look v) hp hv (lookM_P hp hA) (lookM_RA c F R v) k ((F * R).toNat + 1) (F * R).toNat 0 (zcnt (castC F R v)) (by omega) (by omega) (by decide) (moves_len h4 h8 r4 r8 hv).symm
end
