/-- whether one of the next numbers has a property -/
def anyL (p : Int → Bool) (k : Int) : Nat → Bool
  | 0 => false
  | d + 1 => p k || anyL p (k + 1) d
def sumL (f : Int → Int) (k : Int) : Nat → Int
  | 0 => 0
  | d + 1 => f k + sumL f (k + 1) d
/-- the first of the next numbers that has a property; behind the last, if none has -/
def findL (p : Int → Bool) (k : Int) : Nat → Int
  | 0 => k
  | d + 1 => if p k then k else findL p (k + 1) d
def atkB (F R : Int) (v : Int → Int) (sq its : Int) : Bool := anyL (fun j => isOfB (v j) its && attB F v j sq) 0 (F * R).toNat
def pieceOfB (kind its : Int) : Int := if its = 1 then kind else kind + 6
def kingB (F R : Int) (v : Int → Int) (its : Int) : Int := findL (fun j => decide (v j = pieceOfB 1 its)) 0 (F * R).toNat
def chkB (F R : Int) (v : Int → Int) (its : Int) : Bool := atkB F R v (kingB F R v its) (1 - its)
def cntB (F R : Int) (v : Int → Int) (p : Int) : Int := sumL (fun j => if v j = p then 1 else 0) 0 (F * R).toNat
theorem FR_r {F R : Int} (h1 : 4 ≤ F) (h2 : F ≤ 8) (h3 : 4 ≤ R) (h4 : R ≤ 8) : 16 ≤ F * R ∧ F * R ≤ 64 := by
  rcases (show F = 4 ∨ F = 5 ∨ F = 6 ∨ F = 7 ∨ F = 8 by omega) with rfl | rfl | rfl | rfl | rfl <;> omega
section
variable {D : wD} {S : wS} {x : Nat} {A : Nat → Nat} {m : xM} {post : Int32 → wS → Prop} {F R : Int}
theorem XB.n (hB : XB m F R) : 16 ≤ F * R ∧ F * R ≤ 64 := FR_r hB.f4 hB.f8 hB.r4 hB.r8
theorem q_isAttackedBy_3 (h : XC D S x A) (hB : XB m F R) {l sq its : Int} (hl : 0 ≤ l ∧ l < 8) (hv : okV F R (lv m l)) (hsq : 0 ≤ sq ∧ sq < 64) (hi : 0 ≤ its ∧ its ≤ 1) :
    ∀ (n d : Nat) (j : Int), d < n → j + d = F * R → 0 ≤ j → post (iI (bI (anyL (fun j => isOfB (lv m l j) its && attB F (lv m l) j sq) j d))) (xS S x A m) → wp_X12_isAttackedBy_3 D post n (xS S x A m) x (iI l) (iI sq) (iI its) (iI j) := by
  have hn := hB.n
  intro n
  induction n with
  | zero => intro d j hd; omega
  | succ n ih =>
    intro d j hd hj h0 k
    unfold wp_X12_isAttackedBy_3
    rw [q_squares hB]
    simp (discharger := omega) only [nlit, iI_lit, iI_add, iI_sub, iI_mul, iI_neg, bI_z, bI_o, i10, i01, eq_self, bI_nar, nar_0, nar_1, bI_t, bI_f, Option.some.injEq, exists_eq_left', true_and, and_true, forall_eq, not_true_eq_false, not_false_eq_true, forall_const, false_implies, true_implies, Classical.not_not, if_true, if_false, Int.reduceEq, Int.reduceLT, Int.reduceLE, Int.reduceGT, Int.reduceGE, Int.reduceAdd, Int.reduceSub, Int.reduceMul, Int.reduceNeg, Int.reduceNe, Bool.true_and, Bool.and_true, Bool.false_and, Bool.and_false, BEq.rfl, Bool.true_eq_false, Bool.false_eq_true, iI_le]
    cases d with
    | zero =>
      have e : F * R ≤ j := by omega
      simp only [iI_lit, bI_z, bI_o, i10, i01, eq_self, bI_nar, nar_0, nar_1, bI_t, bI_f, true_and, and_true, forall_eq, not_true_eq_false, not_false_eq_true, forall_const, false_implies, true_implies, Classical.not_not, if_true, if_false, Int.reduceEq, Int.reduceLT, Int.reduceLE, Int.reduceGT, Int.reduceGE, Int.reduceAdd, Int.reduceSub, Int.reduceMul, Int.reduceNeg, Int.reduceNe, Bool.true_and, Bool.and_true, Bool.false_and, Bool.and_false, Bool.true_or, Bool.or_true, Bool.false_or, Bool.or_false, BEq.rfl, decide_true, decide_false, decide_eq_true_eq, Bool.false_eq_true, Bool.true_eq_false, Bool.not_true, Bool.not_false, anyL, e] at k ⊢
      exact k
    | succ d =>
      have e : ¬ F * R ≤ j := by omega
      have hp := hv.p j h0 (by omega)
      simp (discharger := omega) only [nlit, iI_lit, iI_add, iI_sub, iI_mul, iI_neg, bI_z, bI_o, i10, i01, eq_self, bI_nar, nar_0, nar_1, bI_t, bI_f, Option.some.injEq, exists_eq_left', true_and, and_true, forall_eq, not_true_eq_false, not_false_eq_true, forall_const, false_implies, true_implies, Classical.not_not, if_true, if_false, Int.reduceEq, Int.reduceLT, Int.reduceLE, Int.reduceGT, Int.reduceGE, Int.reduceAdd, Int.reduceSub, Int.reduceMul, Int.reduceNeg, Int.reduceNe, Bool.true_and, Bool.and_true, Bool.false_and, Bool.and_false, BEq.rfl, Bool.true_eq_false, Bool.false_eq_true, e]
      rw [q_on h hl (by omega) (by omega), q_isOf hp hi]
      have nx : ∀ (z : post (iI (bI (anyL (fun j => isOfB (lv m l j) its && attB F (lv m l) j sq) (j + 1) d))) (xS S x A m)), wp_X12_isAttackedBy_39 D post (wp_X12_isAttackedBy_3 D post n) (xS S x A m) x (iI l) (iI sq) (iI its) (iI j) := by
        intro z
        simp (discharger := omega) only [nlit, iI_lit, iI_add, iI_sub, iI_mul, iI_neg, bI_z, bI_o, i10, i01, eq_self, bI_nar, nar_0, nar_1, bI_t, bI_f, Option.some.injEq, exists_eq_left', true_and, and_true, forall_eq, not_true_eq_false, not_false_eq_true, forall_const, false_implies, true_implies, Classical.not_not, if_true, if_false, Int.reduceEq, Int.reduceLT, Int.reduceLE, Int.reduceGT, Int.reduceGE, Int.reduceAdd, Int.reduceSub, Int.reduceMul, Int.reduceNeg, Int.reduceNe, Bool.true_and, Bool.and_true, Bool.false_and, Bool.and_false, BEq.rfl, Bool.true_eq_false, Bool.false_eq_true, wp_X12_isAttackedBy_39]
        exact ih d (j + 1) (by omega) (by omega) (by omega) z
      cases c1 : isOfB (lv m l j) its
      · simp only [iI_lit, bI_z, bI_o, i10, i01, eq_self, bI_nar, nar_0, nar_1, bI_t, bI_f, true_and, and_true, forall_eq, not_true_eq_false, not_false_eq_true, forall_const, false_implies, true_implies, Classical.not_not, if_true, if_false, Int.reduceEq, Int.reduceLT, Int.reduceLE, Int.reduceGT, Int.reduceGE, Int.reduceAdd, Int.reduceSub, Int.reduceMul, Int.reduceNeg, Int.reduceNe, Bool.true_and, Bool.and_true, Bool.false_and, Bool.and_false, Bool.true_or, Bool.or_true, Bool.false_or, Bool.or_false, BEq.rfl, decide_true, decide_false, decide_eq_true_eq, Bool.false_eq_true, Bool.true_eq_false, Bool.not_true, Bool.not_false, anyL, c1] at k ⊢
        exact nx k
      · simp only [iI_lit, bI_z, bI_o, i10, i01, eq_self, bI_nar, nar_0, nar_1, bI_t, bI_f, true_and, and_true, forall_eq, not_true_eq_false, not_false_eq_true, forall_const, false_implies, true_implies, Classical.not_not, if_true, if_false, Int.reduceEq, Int.reduceLT, Int.reduceLE, Int.reduceGT, Int.reduceGE, Int.reduceAdd, Int.reduceSub, Int.reduceMul, Int.reduceNeg, Int.reduceNe, Bool.true_and, Bool.and_true, Bool.false_and, Bool.and_false, Bool.true_or, Bool.or_true, Bool.false_or, Bool.or_false, BEq.rfl, decide_true, decide_false, decide_eq_true_eq, Bool.false_eq_true, Bool.true_eq_false, Bool.not_true, Bool.not_false, anyL, c1] at k ⊢
        refine q_attacks h hB hl hv (by omega) hsq ?_
        cases c2 : attB F (lv m l) j sq
        · simp only [iI_lit, bI_z, bI_o, i10, i01, eq_self, bI_nar, nar_0, nar_1, bI_t, bI_f, true_and, and_true, forall_eq, not_true_eq_false, not_false_eq_true, forall_const, false_implies, true_implies, Classical.not_not, if_true, if_false, Int.reduceEq, Int.reduceLT, Int.reduceLE, Int.reduceGT, Int.reduceGE, Int.reduceAdd, Int.reduceSub, Int.reduceMul, Int.reduceNeg, Int.reduceNe, Bool.true_and, Bool.and_true, Bool.false_and, Bool.and_false, Bool.true_or, Bool.or_true, Bool.false_or, Bool.or_false, BEq.rfl, decide_true, decide_false, decide_eq_true_eq, Bool.false_eq_true, Bool.true_eq_false, Bool.not_true, Bool.not_false, c2] at k ⊢
          exact nx k
        · simp only [iI_lit, bI_z, bI_o, i10, i01, eq_self, bI_nar, nar_0, nar_1, bI_t, bI_f, true_and, and_true, forall_eq, not_true_eq_false, not_false_eq_true, forall_const, false_implies, true_implies, Classical.not_not, if_true, if_false, Int.reduceEq, Int.reduceLT, Int.reduceLE, Int.reduceGT, Int.reduceGE, Int.reduceAdd, Int.reduceSub, Int.reduceMul, Int.reduceNeg, Int.reduceNe, Bool.true_and, Bool.and_true, Bool.false_and, Bool.and_false, Bool.true_or, Bool.or_true, Bool.false_or, Bool.or_false, BEq.rfl, decide_true, decide_false, decide_eq_true_eq, Bool.false_eq_true, Bool.true_eq_false, Bool.not_true, Bool.not_false, c2] at k ⊢
          exact k
theorem q_isAttackedBy (h : XC D S x A) (hB : XB m F R) {l sq its : Int} (hl : 0 ≤ l ∧ l < 8) (hv : okV F R (lv m l)) (hsq : 0 ≤ sq ∧ sq < 64) (hi : 0 ≤ its ∧ its ≤ 1)
    (k : post (iI (bI (atkB F R (lv m l) sq its))) (xS S x A m)) : wp_X12_isAttackedBy D post (xS S x A m) x (iI l) (iI sq) (iI its) := by
  have hn := hB.n
  refine ⟨65, ?_⟩
  exact q_isAttackedBy_3 h hB hl hv hsq hi 65 (F * R).toNat 0 (by omega) (by omega) (by omega) k
end
