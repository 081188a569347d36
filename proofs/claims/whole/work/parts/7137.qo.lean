def orI (p b : Int) : Int := ((p.toNat ||| b.toNat : Nat) : Int)
theorem iI_orQ {p b : Int} (hp : 0 ≤ p ∧ p ≤ 15) (hq : 0 ≤ b ∧ b ≤ 15) : iI p ||| iI b = iI (orI p b) := by
  have ha : ∃ n : Nat, n < 16 ∧ p = n := ⟨p.toNat, by omega, by omega⟩
  have hb : ∃ n : Nat, n < 16 ∧ b = n := ⟨b.toNat, by omega, by omega⟩
  obtain ⟨n, hn, rfl⟩ := ha
  obtain ⟨k, hk, rfl⟩ := hb
  clear hp hq
  revert n k
  have key : ∀ n : Nat, n < 16 → ∀ k : Nat, k < 16 → iI (n : Int) ||| iI (k : Int) = iI (orI (n : Int) (k : Int)) := by decide +kernel
  exact fun n hn k hk => key n hn k hk
theorem orI_r {p b : Int} (hp : 0 ≤ p ∧ p ≤ 15) (hb : 0 ≤ b ∧ b ≤ 15) : 0 ≤ orI p b ∧ orI p b ≤ 15 := by
  unfold orI
  have : p.toNat ||| b.toNat < 2 ^ 4 := Nat.or_lt_two_pow (by omega) (by omega)
  omega
def rBit (c : Int) : Int := if c = 75 then 1 else if c = 81 then 2 else if c = 107 then 4 else if c = 113 then 8 else 0
theorem rBit_r (c : Int) : 0 ≤ rBit c ∧ rBit c ≤ 15 := by unfold rBit; repeat' (first | decide | split)
def rdR (t : Int → Int) (len : Int) : Nat → Int → Int → Int × Int
  | 0, a, p => (a, p)
  | n + 1, a, p => if len ≤ a then (a, p) else if t a = 32 then (a, p) else rdR t len n (a + 1) (orI p (rBit (t a)))
def rdQ (F R : Int) (t : Int → Int) (c : Int) : Int := if t c ≠ 45 ∧ (0 ≤ t c - 97 ∧ t c - 97 ≤ F - 1) ∧ 0 ≤ t (c + 1) - 49 ∧ t (c + 1) - 49 ≤ R - 1 then F * (t (c + 1) - 49) + (t c - 97) else -1
def rdE (F R : Int) (t : Int → Int) (len a : Int) (w : Int → Int) : Int → Int :=
  upV (upV (upV w 64 (if t a = 119 then 1 else 0)) 65 (rdR t len 501 (a + 2) 0).2) 66 (rdQ F R t ((rdR t len 501 (a + 2) 0).1 + 1))
def asWr (m : xM) (W : List Int) : Bool := decide ((W.length : Int) = m 50 13) && allL (fun k => decide (W.getD k.toNat 0 = m 12 k)) 0 (m 50 13).toNat
def pasB (F R : Int) (v : Int → Int) : Bool := decide (v 66 = -1) || (!decide (R < 6) && decide (v 66 / F = firstB R (1 - v 64) + 2 * upB (1 - v 64)) && decide (v (v 66) = 0) && decide (v (v 66 - upB (1 - v 64) * F) = 0) &&
  decide (v (v 66 + upB (1 - v 64) * F) = pieceOfB 6 (1 - v 64)) && besideB F v (v 66 + upB (1 - v 64) * F) (pieceOfB 6 (1 - (1 - v 64))))
section
variable {D : wD} {S : wS} {x : Nat} {A : Nat → Nat} {m : xM} {F R : Int}
theorem q_rS_12 {post : Int32 → wS → Prop} (h : XC D S x A) (hB : XB m F R) (hl : 0 ≤ m 50 13 ∧ m 50 13 ≤ 500) (ht : ∀ k, 0 ≤ k → i32 (txB m k - 200) ∧ i32 (txB m k + 200)) :
    ∀ (n d : Nat) (r a : Int) (w : Int → Int), d < n → r + 1 = d → r < R → 0 ≤ a ∧ a + 9 * d < 90000 →
    (rdS F R (txB m) d a w = none → ∀ w a, post (iI 0) (xS S x A (atM m w a))) → (∀ b u, rdS F R (txB m) d a w = some (b, u) → a ≤ b ∧ b ≤ a + 9 * d → post (iI 1) (xS S x A (atM m u b))) →
    wp_X12_readsSquares_12 D post n (xS S x A (atM m w a)) x (iI r) := by
  have h4 := hB.f4; have h8 := hB.f8; have r4 := hB.r4; have r8 := hB.r8
  intro n
  induction n with
  | zero => intro d r a w hd; omega
  | succ n ih =>
    intro d r a w hd hj hr ha kn k
    unfold wp_X12_readsSquares_12
    simp (discharger := omega) only [nlit, iI_lit, iI_add, iI_sub, iI_mul, iI_neg, bI_z, bI_o, i10, i01, eq_self, bI_nar, nar_0, nar_1, bI_t, bI_f, Option.some.injEq, exists_eq_left', true_and, and_true, forall_eq, not_true_eq_false, not_false_eq_true, forall_const, false_implies, true_implies, Classical.not_not, if_true, if_false, Int.reduceEq, Int.reduceLT, Int.reduceLE, Int.reduceGT, Int.reduceGE, Int.reduceAdd, Int.reduceSub, Int.reduceMul, Int.reduceNeg, Int.reduceNe, Bool.true_and, Bool.and_true, Bool.false_and, Bool.and_false, BEq.rfl, Bool.true_eq_false, Bool.false_eq_true, iI_lt]
    cases d with
    | zero =>
      have c : r < 0 := by omega
      simp (discharger := omega) only [nlit, iI_lit, iI_add, iI_sub, iI_mul, iI_neg, bI_z, bI_o, i10, i01, eq_self, bI_nar, nar_0, nar_1, bI_t, bI_f, Option.some.injEq, exists_eq_left', true_and, and_true, forall_eq, not_true_eq_false, not_false_eq_true, forall_const, false_implies, true_implies, Classical.not_not, if_true, if_false, Int.reduceEq, Int.reduceLT, Int.reduceLE, Int.reduceGT, Int.reduceGE, Int.reduceAdd, Int.reduceSub, Int.reduceMul, Int.reduceNeg, Int.reduceNe, Bool.true_and, Bool.and_true, Bool.false_and, Bool.and_false, BEq.rfl, Bool.true_eq_false, Bool.false_eq_true, c]
      exact k a w rfl (by omega)
    | succ d =>
      have c : ¬ r < 0 := by omega
      have er : r = d := by omega
      have hd1 : ((d + 1 : Nat) : Int) = d + 1 := by omega
      rw [hd1] at ha
      simp (discharger := omega) only [nlit, iI_lit, iI_add, iI_sub, iI_mul, iI_neg, bI_z, bI_o, i10, i01, eq_self, bI_nar, nar_0, nar_1, bI_t, bI_f, Option.some.injEq, exists_eq_left', true_and, and_true, forall_eq, not_true_eq_false, not_false_eq_true, forall_const, false_implies, true_implies, Classical.not_not, if_true, if_false, Int.reduceEq, Int.reduceLT, Int.reduceLE, Int.reduceGT, Int.reduceGE, Int.reduceAdd, Int.reduceSub, Int.reduceMul, Int.reduceNeg, Int.reduceNe, Bool.true_and, Bool.and_true, Bool.false_and, Bool.and_false, BEq.rfl, Bool.true_eq_false, Bool.false_eq_true, c]
      have un : rdS F R (txB m) (d + 1) a w = match rdF F R (txB m) r F.toNat 0 a w with
          | none => none
          | some (b, u) => if txB m b = (if 0 < d then 47 else 32) then rdS F R (txB m) d (b + 1) u else none := by rw [er]; rfl
      have zz : (if 0 < r then (47 : Int) else 32) = if 0 < d then 47 else 32 := by
        by_cases q : 0 < d
        · rw [if_pos q, if_pos (by omega)]
        · rw [if_neg q, if_neg (by omega)]
      refine ⟨9, q_rS_18 h hB hl ht (by omega) 9 F.toNat 0 a w (by omega) (by omega) (by omega) (by omega) (fun q => kn ?_) (fun b u q z y => ?_)⟩
      · rw [un]
        cases e : rdF F R (txB m) r F.toNat 0 a w with
        | none => rfl
        | some qq =>
          obtain ⟨b, u⟩ := qq
          have := q b u e
          rw [zz] at this
          dsimp only
          rw [if_neg this]
      · have ty : txB m b = if 0 < d then 47 else 32 := by
          rw [← zz]
          rcases y with ⟨y1, y2⟩ | ⟨y1, y2⟩
          · rw [if_pos y1]; exact y2
          · rw [if_neg (by omega)]; exact y2
        have un2 : rdS F R (txB m) (d + 1) a w = rdS F R (txB m) d (b + 1) u := by
          rw [un, q]
          dsimp only
          rw [if_pos ty]
        rw [un2] at kn k
        exact ih d (r + -1) (b + 1) u (by omega) (by omega) (by omega) (by omega) kn (fun b' u' q' z' => k b' u' q' (by omega))
theorem q_rR_37 {post : wS → Prop} (h : XC D S x A) (hB : XB m F R) (hl : 0 ≤ m 50 13 ∧ m 50 13 ≤ 500) (ht : ∀ k, 0 ≤ k → i32 (txB m k - 200) ∧ i32 (txB m k + 200)) {w : Int → Int} :
    ∀ (n d : Nat) (a p : Int), d < n → m 50 13 ≤ a + d → 0 ≤ a ∧ a + d < 90000 → 0 ≤ p ∧ p ≤ 15 →
    (∀ b q, rdR (txB m) (m 50 13) d a p = (b, q) → a ≤ b ∧ b ≤ a + d → 0 ≤ q ∧ q ≤ 15 → wp_X12_readsRest_128 D post (xS S x A (atM m w b)) x (iI q)) →
    wp_X12_readsRest_37 D post n (xS S x A (atM m w a)) x (iI p) := by
  intro n
  induction n with
  | zero => intro d a p hd; omega
  | succ n ih =>
    intro d a p hd hj ha hp k
    have hlA : 0 ≤ atM m w a 50 13 ∧ atM m w a 50 13 ≤ 500 := by rw [atM_50 m w a (by decide)]; exact hl
    have hta := ht a ha.1
    unfold wp_X12_readsRest_37
    simp (discharger := first | decide | omega) only [x_own h, x_kd h, x_r h, x_m h, x_l h, x_k h, x_n h, x_i0, x_i h, x_u0 h, x_u h, xLen, xKd, nlit, iI_lit, iI_add, iI_sub, iI_mul, iI_neg, bI_z, bI_o, i10, i01, eq_self, bI_nar, nar_0, nar_1, up_at, up_f, Option.some.injEq, exists_eq_left', true_and, and_true, forall_eq, not_true_eq_false, not_false_eq_true, forall_const, false_implies, true_implies, Classical.not_not, if_true, if_false, Int.reduceEq, Int.reduceLT, Int.reduceLE, Int.reduceGT, Int.reduceGE, Int.reduceAdd, Int.reduceSub, Int.reduceMul, Int.reduceNeg, Int.reduceNe]
    rw [show atM m w a 50 13 = m 50 13 from atM_50 m w a (by decide), show atM m w a 50 24 = a from atM_24 m w a, iI_le (by omega) (by omega) (by omega) (by omega)]
    by_cases c : m 50 13 ≤ a
    · simp (discharger := omega) only [nlit, iI_lit, iI_add, iI_sub, iI_mul, iI_neg, bI_z, bI_o, i10, i01, eq_self, bI_nar, nar_0, nar_1, bI_t, bI_f, Option.some.injEq, exists_eq_left', true_and, and_true, forall_eq, not_true_eq_false, not_false_eq_true, forall_const, false_implies, true_implies, Classical.not_not, if_true, if_false, Int.reduceEq, Int.reduceLT, Int.reduceLE, Int.reduceGT, Int.reduceGE, Int.reduceAdd, Int.reduceSub, Int.reduceMul, Int.reduceNeg, Int.reduceNe, Bool.true_and, Bool.and_true, Bool.false_and, Bool.and_false, BEq.rfl, Bool.true_eq_false, Bool.false_eq_true, c]
      refine k a p ?_ (by omega) hp
      cases d with
      | zero => rfl
      | succ d => unfold rdR; rw [if_pos c]
    · cases d with
      | zero => omega
      | succ d =>
        have hd1 : ((d + 1 : Nat) : Int) = d + 1 := by omega
        rw [hd1] at ha hj
        unfold rdR at k
        rw [if_neg c] at k
        simp (discharger := omega) only [nlit, iI_lit, iI_add, iI_sub, iI_mul, iI_neg, bI_z, bI_o, i10, i01, eq_self, bI_nar, nar_0, nar_1, bI_t, bI_f, Option.some.injEq, exists_eq_left', true_and, and_true, forall_eq, not_true_eq_false, not_false_eq_true, forall_const, false_implies, true_implies, Classical.not_not, if_true, if_false, Int.reduceEq, Int.reduceLT, Int.reduceLE, Int.reduceGT, Int.reduceGE, Int.reduceAdd, Int.reduceSub, Int.reduceMul, Int.reduceNeg, Int.reduceNe, Bool.true_and, Bool.and_true, Bool.false_and, Bool.and_false, BEq.rfl, Bool.true_eq_false, Bool.false_eq_true, c]
        rw [q_textAt h hlA ⟨by omega, by omega⟩, txB_up24]
        rw [iI_eq (by omega) (by omega) (by decide) (by decide)]
        by_cases c32 : txB m a = 32
        · rw [if_pos c32] at k
          simp (discharger := omega) only [nlit, iI_lit, iI_add, iI_sub, iI_mul, iI_neg, bI_z, bI_o, i10, i01, eq_self, bI_nar, nar_0, nar_1, bI_t, bI_f, Option.some.injEq, exists_eq_left', true_and, and_true, forall_eq, not_true_eq_false, not_false_eq_true, forall_const, false_implies, true_implies, Classical.not_not, if_true, if_false, Int.reduceEq, Int.reduceLT, Int.reduceLE, Int.reduceGT, Int.reduceGE, Int.reduceAdd, Int.reduceSub, Int.reduceMul, Int.reduceNeg, Int.reduceNe, Bool.true_and, Bool.and_true, Bool.false_and, Bool.and_false, BEq.rfl, Bool.true_eq_false, Bool.false_eq_true, c32]
          exact k a p rfl (by omega) hp
        · rw [if_neg c32] at k
          simp (discharger := omega) only [nlit, iI_lit, iI_add, iI_sub, iI_mul, iI_neg, bI_z, bI_o, i10, i01, eq_self, bI_nar, nar_0, nar_1, bI_t, bI_f, Option.some.injEq, exists_eq_left', true_and, and_true, forall_eq, not_true_eq_false, not_false_eq_true, forall_const, false_implies, true_implies, Classical.not_not, if_true, if_false, Int.reduceEq, Int.reduceLT, Int.reduceLE, Int.reduceGT, Int.reduceGE, Int.reduceAdd, Int.reduceSub, Int.reduceMul, Int.reduceNeg, Int.reduceNe, Bool.true_and, Bool.and_true, Bool.false_and, Bool.and_false, BEq.rfl, Bool.true_eq_false, Bool.false_eq_true, c32]
          simp (discharger := first | decide | omega) only [x_own h, x_kd h, x_r h, x_m h, x_l h, x_k h, x_n h, x_i0, x_i h, x_u0 h, x_u h, xLen, xKd, nlit, iI_lit, iI_add, iI_sub, iI_mul, iI_neg, bI_z, bI_o, i10, i01, eq_self, bI_nar, nar_0, nar_1, up_at, up_f, Option.some.injEq, exists_eq_left', true_and, and_true, forall_eq, not_true_eq_false, not_false_eq_true, forall_const, false_implies, true_implies, Classical.not_not, if_true, if_false, Int.reduceEq, Int.reduceLT, Int.reduceLE, Int.reduceGT, Int.reduceGE, Int.reduceAdd, Int.reduceSub, Int.reduceMul, Int.reduceNeg, Int.reduceNe]
          rw [show atM m w a 50 24 = a from atM_24 m w a]
          rw [q_textAt h hlA ⟨by omega, by omega⟩, txB_up24]
          have k113 : ∀ z : Int, z = rBit (txB m a) → wp_X12_readsRest_113 D post (wp_X12_readsRest_37 D post n) (xS S x A (atM m w a)) x (iI p) (iI z) := by
            intro z hz
            have hzr := rBit_r (txB m a)
            rw [← hz] at hzr
            unfold wp_X12_readsRest_113
            rw [iI_orQ hp hzr]
            simp (discharger := first | decide | omega) only [x_own h, x_kd h, x_r h, x_m h, x_l h, x_k h, x_n h, x_i0, x_i h, x_u0 h, x_u h, xLen, xKd, nlit, iI_lit, iI_add, iI_sub, iI_mul, iI_neg, bI_z, bI_o, i10, i01, eq_self, bI_nar, nar_0, nar_1, up_at, up_f, Option.some.injEq, exists_eq_left', true_and, and_true, forall_eq, not_true_eq_false, not_false_eq_true, forall_const, false_implies, true_implies, Classical.not_not, if_true, if_false, Int.reduceEq, Int.reduceLT, Int.reduceLE, Int.reduceGT, Int.reduceGE, Int.reduceAdd, Int.reduceSub, Int.reduceMul, Int.reduceNeg, Int.reduceNe]
            rw [show atM m w a 50 24 = a from atM_24 m w a, up_put24]
            refine ih d (a + 1) _ (by omega) (by omega) (by omega) (orI_r hp hzr) (fun b q e1 e2 e3 => k b q ?_ (by omega) e3)
            rw [← hz]; exact e1
          unfold rBit at k113
          simp (discharger := omega) only [nlit, iI_lit, iI_add, iI_sub, iI_mul, iI_neg, bI_z, bI_o, i10, i01, eq_self, bI_nar, nar_0, nar_1, bI_t, bI_f, Option.some.injEq, exists_eq_left', true_and, and_true, forall_eq, not_true_eq_false, not_false_eq_true, forall_const, false_implies, true_implies, Classical.not_not, if_true, if_false, Int.reduceEq, Int.reduceLT, Int.reduceLE, Int.reduceGT, Int.reduceGE, Int.reduceAdd, Int.reduceSub, Int.reduceMul, Int.reduceNeg, Int.reduceNe, Bool.true_and, Bool.and_true, Bool.false_and, Bool.and_false, BEq.rfl, Bool.true_eq_false, Bool.false_eq_true, iI_eq]
          by_cases c1 : txB m a = 75
          · simp (discharger := omega) only [nlit, iI_lit, iI_add, iI_sub, iI_mul, iI_neg, bI_z, bI_o, i10, i01, eq_self, bI_nar, nar_0, nar_1, bI_t, bI_f, Option.some.injEq, exists_eq_left', true_and, and_true, forall_eq, not_true_eq_false, not_false_eq_true, forall_const, false_implies, true_implies, Classical.not_not, if_true, if_false, Int.reduceEq, Int.reduceLT, Int.reduceLE, Int.reduceGT, Int.reduceGE, Int.reduceAdd, Int.reduceSub, Int.reduceMul, Int.reduceNeg, Int.reduceNe, Bool.true_and, Bool.and_true, Bool.false_and, Bool.and_false, BEq.rfl, Bool.true_eq_false, Bool.false_eq_true, c1]; exact k113 1 (by rw [if_pos c1])
          · by_cases c2 : txB m a = 81
            · simp (discharger := omega) only [nlit, iI_lit, iI_add, iI_sub, iI_mul, iI_neg, bI_z, bI_o, i10, i01, eq_self, bI_nar, nar_0, nar_1, bI_t, bI_f, Option.some.injEq, exists_eq_left', true_and, and_true, forall_eq, not_true_eq_false, not_false_eq_true, forall_const, false_implies, true_implies, Classical.not_not, if_true, if_false, Int.reduceEq, Int.reduceLT, Int.reduceLE, Int.reduceGT, Int.reduceGE, Int.reduceAdd, Int.reduceSub, Int.reduceMul, Int.reduceNeg, Int.reduceNe, Bool.true_and, Bool.and_true, Bool.false_and, Bool.and_false, BEq.rfl, Bool.true_eq_false, Bool.false_eq_true, c2]; exact k113 2 (by rw [if_neg c1, if_pos c2])
            · by_cases c3 : txB m a = 107
              · simp (discharger := omega) only [nlit, iI_lit, iI_add, iI_sub, iI_mul, iI_neg, bI_z, bI_o, i10, i01, eq_self, bI_nar, nar_0, nar_1, bI_t, bI_f, Option.some.injEq, exists_eq_left', true_and, and_true, forall_eq, not_true_eq_false, not_false_eq_true, forall_const, false_implies, true_implies, Classical.not_not, if_true, if_false, Int.reduceEq, Int.reduceLT, Int.reduceLE, Int.reduceGT, Int.reduceGE, Int.reduceAdd, Int.reduceSub, Int.reduceMul, Int.reduceNeg, Int.reduceNe, Bool.true_and, Bool.and_true, Bool.false_and, Bool.and_false, BEq.rfl, Bool.true_eq_false, Bool.false_eq_true, c3]; exact k113 4 (by rw [if_neg c1, if_neg c2, if_pos c3])
              · by_cases c4 : txB m a = 113
                · simp (discharger := omega) only [nlit, iI_lit, iI_add, iI_sub, iI_mul, iI_neg, bI_z, bI_o, i10, i01, eq_self, bI_nar, nar_0, nar_1, bI_t, bI_f, Option.some.injEq, exists_eq_left', true_and, and_true, forall_eq, not_true_eq_false, not_false_eq_true, forall_const, false_implies, true_implies, Classical.not_not, if_true, if_false, Int.reduceEq, Int.reduceLT, Int.reduceLE, Int.reduceGT, Int.reduceGE, Int.reduceAdd, Int.reduceSub, Int.reduceMul, Int.reduceNeg, Int.reduceNe, Bool.true_and, Bool.and_true, Bool.false_and, Bool.and_false, BEq.rfl, Bool.true_eq_false, Bool.false_eq_true, c4]; exact k113 8 (by rw [if_neg c1, if_neg c2, if_neg c3, if_pos c4])
                · simp (discharger := omega) only [nlit, iI_lit, iI_add, iI_sub, iI_mul, iI_neg, bI_z, bI_o, i10, i01, eq_self, bI_nar, nar_0, nar_1, bI_t, bI_f, Option.some.injEq, exists_eq_left', true_and, and_true, forall_eq, not_true_eq_false, not_false_eq_true, forall_const, false_implies, true_implies, Classical.not_not, if_true, if_false, Int.reduceEq, Int.reduceLT, Int.reduceLE, Int.reduceGT, Int.reduceGE, Int.reduceAdd, Int.reduceSub, Int.reduceMul, Int.reduceNeg, Int.reduceNe, Bool.true_and, Bool.and_true, Bool.false_and, Bool.and_false, BEq.rfl, Bool.true_eq_false, Bool.false_eq_true, c1, c2, c3, c4]; exact k113 0 (by rw [if_neg c1, if_neg c2, if_neg c3, if_neg c4])
theorem rdR_r (t : Int → Int) (len : Int) : ∀ (n : Nat) (a p : Int), 0 ≤ p ∧ p ≤ 15 → 0 ≤ (rdR t len n a p).2 ∧ (rdR t len n a p).2 ≤ 15 := by
  intro n
  induction n with
  | zero => intro a p hp; exact hp
  | succ n ih =>
    intro a p hp
    unfold rdR
    split
    · exact hp
    · split
      · exact hp
      · exact ih _ _ (orI_r hp (rBit_r _))
theorem q_readsRest {post : wS → Prop} (h : XC D S x A) (hB : XB m F R) (hl : 0 ≤ m 50 13 ∧ m 50 13 ≤ 500) (ht : ∀ k, 0 ≤ k → i32 (txB m k - 200) ∧ i32 (txB m k + 200)) {w : Int → Int} {a : Int} (ha : 0 ≤ a ∧ a < 80000)
    (k : ∀ b, post (xS S x A (atM m (rdE F R (txB m) (m 50 13) a w) b))) : wp_X12_readsRest D post (xS S x A (atM m w a)) x := by
  have h4 := hB.f4; have h8 := hB.f8; have r4 := hB.r4; have r8 := hB.r8
  have hn := hB.n
  have hlA : ∀ w a, 0 ≤ atM m w a 50 13 ∧ atM m w a 50 13 ≤ 500 := fun w a => by rw [atM_50 m w a (by decide)]; exact hl
  have hta := ht a ha.1
  unfold wp_X12_readsRest wp_X12_readsRest_0
  simp (discharger := first | decide | omega) only [x_own h, x_kd h, x_r h, x_m h, x_l h, x_k h, x_n h, x_i0, x_i h, x_u0 h, x_u h, xLen, xKd, nlit, iI_lit, iI_add, iI_sub, iI_mul, iI_neg, bI_z, bI_o, i10, i01, eq_self, bI_nar, nar_0, nar_1, up_at, up_f, Option.some.injEq, exists_eq_left', true_and, and_true, forall_eq, not_true_eq_false, not_false_eq_true, forall_const, false_implies, true_implies, Classical.not_not, if_true, if_false, Int.reduceEq, Int.reduceLT, Int.reduceLE, Int.reduceGT, Int.reduceGE, Int.reduceAdd, Int.reduceSub, Int.reduceMul, Int.reduceNeg, Int.reduceNe]
  rw [show atM m w a 50 24 = a from atM_24 m w a]
  rw [q_textAt h (hlA w a) ⟨by omega, by omega⟩, txB_up24]
  rw [iI_eq (by omega) (by omega) (by decide) (by decide)]
  have k22 : ∀ z : Int, z = (if txB m a = 119 then 1 else 0) → wp_X12_readsRest_22 D post (xS S x A (atM m w a)) x x (iI 0) (iI 64) (iI z) := by
    intro z hz
    unfold wp_X12_readsRest_22
    try simp (discharger := omega) only [nlit, iI_lit, iI_add, iI_sub, iI_mul, iI_neg, bI_z, bI_o, i10, i01, eq_self, bI_nar, nar_0, nar_1, bI_t, bI_f, Option.some.injEq, exists_eq_left', true_and, and_true, forall_eq, not_true_eq_false, not_false_eq_true, forall_const, false_implies, true_implies, Classical.not_not, if_true, if_false, Int.reduceEq, Int.reduceLT, Int.reduceLE, Int.reduceGT, Int.reduceGE, Int.reduceAdd, Int.reduceSub, Int.reduceMul, Int.reduceNeg, Int.reduceNe, Bool.true_and, Bool.and_true, Bool.false_and, Bool.and_false, BEq.rfl, Bool.true_eq_false, Bool.false_eq_true]
    rw [q_layA h (by decide)]
    simp (discharger := first | decide | omega) only [x_own h, x_kd h, x_r h, x_m h, x_l h, x_k h, x_n h, x_i0, x_i h, x_u0 h, x_u h, xLen, xKd, nlit, iI_lit, iI_add, iI_sub, iI_mul, iI_neg, bI_z, bI_o, i10, i01, eq_self, bI_nar, nar_0, nar_1, up_at, up_f, Option.some.injEq, exists_eq_left', true_and, and_true, forall_eq, not_true_eq_false, not_false_eq_true, forall_const, false_implies, true_implies, Classical.not_not, if_true, if_false, Int.reduceEq, Int.reduceLT, Int.reduceLE, Int.reduceGT, Int.reduceGE, Int.reduceAdd, Int.reduceSub, Int.reduceMul, Int.reduceNeg, Int.reduceNe]
    rw [show ∀ w, atM m w a 50 24 = a from fun w => atM_24 m w a, up_put24]
    refine ⟨502, q_rR_37 h hB hl ht 502 501 (a + 2) 0 (by omega) (by omega) (by omega) (by decide) (fun b q e1 e2 e3 => ?_)⟩
    unfold rdE at k
    rw [e1] at k
    dsimp only at k
    rw [← hz] at k
    generalize hw1 : upV w 64 z = w1 at k
    unfold wp_X12_readsRest_128
    try simp (discharger := omega) only [nlit, iI_lit, iI_add, iI_sub, iI_mul, iI_neg, bI_z, bI_o, i10, i01, eq_self, bI_nar, nar_0, nar_1, bI_t, bI_f, Option.some.injEq, exists_eq_left', true_and, and_true, forall_eq, not_true_eq_false, not_false_eq_true, forall_const, false_implies, true_implies, Classical.not_not, if_true, if_false, Int.reduceEq, Int.reduceLT, Int.reduceLE, Int.reduceGT, Int.reduceGE, Int.reduceAdd, Int.reduceSub, Int.reduceMul, Int.reduceNeg, Int.reduceNe, Bool.true_and, Bool.and_true, Bool.false_and, Bool.and_false, BEq.rfl, Bool.true_eq_false, Bool.false_eq_true]
    rw [q_layA h (by decide)]
    simp (discharger := first | decide | omega) only [x_own h, x_kd h, x_r h, x_m h, x_l h, x_k h, x_n h, x_i0, x_i h, x_u0 h, x_u h, xLen, xKd, nlit, iI_lit, iI_add, iI_sub, iI_mul, iI_neg, bI_z, bI_o, i10, i01, eq_self, bI_nar, nar_0, nar_1, up_at, up_f, Option.some.injEq, exists_eq_left', true_and, and_true, forall_eq, not_true_eq_false, not_false_eq_true, forall_const, false_implies, true_implies, Classical.not_not, if_true, if_false, Int.reduceEq, Int.reduceLT, Int.reduceLE, Int.reduceGT, Int.reduceGE, Int.reduceAdd, Int.reduceSub, Int.reduceMul, Int.reduceNeg, Int.reduceNe]
    rw [show ∀ w, atM m w b 50 24 = b from fun w => atM_24 m w b, up_put24]
    generalize hw2 : upV w1 65 q = w2 at k
    have ht1 := ht (b + 1) (by omega)
    have ht2 := ht (b + 1 + 1) (by omega)
    have e24 : atM m w2 (b + 1) 50 24 = b + 1 := atM_24 _ _ _
    rw [q_textAt h (hlA w2 (b + 1)) ⟨by omega, by omega⟩, txB_up24]
    simp (discharger := first | decide | omega) only [x_own h, x_kd h, x_r h, x_m h, x_l h, x_k h, x_n h, x_i0, x_i h, x_u0 h, x_u h, xLen, xKd, nlit, iI_lit, iI_add, iI_sub, iI_mul, iI_neg, bI_z, bI_o, i10, i01, eq_self, bI_nar, nar_0, nar_1, up_at, up_f, Option.some.injEq, exists_eq_left', true_and, and_true, forall_eq, not_true_eq_false, not_false_eq_true, forall_const, false_implies, true_implies, Classical.not_not, if_true, if_false, Int.reduceEq, Int.reduceLT, Int.reduceLE, Int.reduceGT, Int.reduceGE, Int.reduceAdd, Int.reduceSub, Int.reduceMul, Int.reduceNeg, Int.reduceNe]
    rw [show atM m w2 (b + 1) 50 24 = b + 1 from e24]
    try simp (discharger := omega) only [nlit, iI_lit, iI_add, iI_sub, iI_mul, iI_neg, bI_z, bI_o, i10, i01, eq_self, bI_nar, nar_0, nar_1, bI_t, bI_f, Option.some.injEq, exists_eq_left', true_and, and_true, forall_eq, not_true_eq_false, not_false_eq_true, forall_const, false_implies, true_implies, Classical.not_not, if_true, if_false, Int.reduceEq, Int.reduceLT, Int.reduceLE, Int.reduceGT, Int.reduceGE, Int.reduceAdd, Int.reduceSub, Int.reduceMul, Int.reduceNeg, Int.reduceNe, Bool.true_and, Bool.and_true, Bool.false_and, Bool.and_false, BEq.rfl, Bool.true_eq_false, Bool.false_eq_true]
    rw [q_textAt h (hlA w2 (b + 1)) ⟨by omega, by omega⟩, txB_up24]
    simp (discharger := first | decide | omega) only [x_own h, x_kd h, x_r h, x_m h, x_l h, x_k h, x_n h, x_i0, x_i h, x_u0 h, x_u h, xLen, xKd, nlit, iI_lit, iI_add, iI_sub, iI_mul, iI_neg, bI_z, bI_o, i10, i01, eq_self, bI_nar, nar_0, nar_1, up_at, up_f, Option.some.injEq, exists_eq_left', true_and, and_true, forall_eq, not_true_eq_false, not_false_eq_true, forall_const, false_implies, true_implies, Classical.not_not, if_true, if_false, Int.reduceEq, Int.reduceLT, Int.reduceLE, Int.reduceGT, Int.reduceGE, Int.reduceAdd, Int.reduceSub, Int.reduceMul, Int.reduceNeg, Int.reduceNe]
    rw [show atM m w2 (b + 1) 50 24 = b + 1 from e24]
    rw [q_textAt h (hlA w2 (b + 1)) ⟨by omega, by omega⟩, txB_up24]
    rw [iI_eq (by omega) (by omega) (by decide) (by decide)]
    have eF : atM m w2 (b + 1) 50 1 = F := (hB.at _ _).f
    have eR : atM m w2 (b + 1) 50 2 = R := (hB.at _ _).r
    have k0 : rdQ F R (txB m) (b + 1) = -1 → wp_X12_readsRest_228 D post (xS S x A (atM m w2 (b + 1))) x (iI 0) (iI 66) := fun e => by
      simp (discharger := omega) only [nlit, iI_lit, iI_add, iI_sub, iI_mul, iI_neg, bI_z, bI_o, i10, i01, eq_self, bI_nar, nar_0, nar_1, bI_t, bI_f, Option.some.injEq, exists_eq_left', true_and, and_true, forall_eq, not_true_eq_false, not_false_eq_true, forall_const, false_implies, true_implies, Classical.not_not, if_true, if_false, Int.reduceEq, Int.reduceLT, Int.reduceLE, Int.reduceGT, Int.reduceGE, Int.reduceAdd, Int.reduceSub, Int.reduceMul, Int.reduceNeg, Int.reduceNe, Bool.true_and, Bool.and_true, Bool.false_and, Bool.and_false, BEq.rfl, Bool.true_eq_false, Bool.false_eq_true, wp_X12_readsRest_228, wp_X12_readsRest_229]
      rw [q_layA h (by decide)]
      rw [e] at k
      exact k (b + 1)
    unfold rdQ at k0
    by_cases c1 : txB m (b + 1) = 45
    · simp (discharger := omega) only [nlit, iI_lit, iI_add, iI_sub, iI_mul, iI_neg, bI_z, bI_o, i10, i01, eq_self, bI_nar, nar_0, nar_1, bI_t, bI_f, Option.some.injEq, exists_eq_left', true_and, and_true, forall_eq, not_true_eq_false, not_false_eq_true, forall_const, false_implies, true_implies, Classical.not_not, if_true, if_false, Int.reduceEq, Int.reduceLT, Int.reduceLE, Int.reduceGT, Int.reduceGE, Int.reduceAdd, Int.reduceSub, Int.reduceMul, Int.reduceNeg, Int.reduceNe, Bool.true_and, Bool.and_true, Bool.false_and, Bool.and_false, BEq.rfl, Bool.true_eq_false, Bool.false_eq_true, c1]
      exact k0 (if_neg (by omega))
    · simp (discharger := omega) only [nlit, iI_lit, iI_add, iI_sub, iI_mul, iI_neg, bI_z, bI_o, i10, i01, eq_self, bI_nar, nar_0, nar_1, bI_t, bI_f, Option.some.injEq, exists_eq_left', true_and, and_true, forall_eq, not_true_eq_false, not_false_eq_true, forall_const, false_implies, true_implies, Classical.not_not, if_true, if_false, Int.reduceEq, Int.reduceLT, Int.reduceLE, Int.reduceGT, Int.reduceGE, Int.reduceAdd, Int.reduceSub, Int.reduceMul, Int.reduceNeg, Int.reduceNe, Bool.true_and, Bool.and_true, Bool.false_and, Bool.and_false, BEq.rfl, Bool.true_eq_false, Bool.false_eq_true, c1]
      simp (discharger := first | decide | omega) only [x_own h, x_kd h, x_r h, x_m h, x_l h, x_k h, x_n h, x_i0, x_i h, x_u0 h, x_u h, xLen, xKd, nlit, iI_lit, iI_add, iI_sub, iI_mul, iI_neg, bI_z, bI_o, i10, i01, eq_self, bI_nar, nar_0, nar_1, up_at, up_f, Option.some.injEq, exists_eq_left', true_and, and_true, forall_eq, not_true_eq_false, not_false_eq_true, forall_const, false_implies, true_implies, Classical.not_not, if_true, if_false, Int.reduceEq, Int.reduceLT, Int.reduceLE, Int.reduceGT, Int.reduceGE, Int.reduceAdd, Int.reduceSub, Int.reduceMul, Int.reduceNeg, Int.reduceNe]
      rw [eF]
      try simp (discharger := omega) only [nlit, iI_lit, iI_add, iI_sub, iI_mul, iI_neg, bI_z, bI_o, i10, i01, eq_self, bI_nar, nar_0, nar_1, bI_t, bI_f, Option.some.injEq, exists_eq_left', true_and, and_true, forall_eq, not_true_eq_false, not_false_eq_true, forall_const, false_implies, true_implies, Classical.not_not, if_true, if_false, Int.reduceEq, Int.reduceLT, Int.reduceLE, Int.reduceGT, Int.reduceGE, Int.reduceAdd, Int.reduceSub, Int.reduceMul, Int.reduceNeg, Int.reduceNe, Bool.true_and, Bool.and_true, Bool.false_and, Bool.and_false, BEq.rfl, Bool.true_eq_false, Bool.false_eq_true]
      rw [q_in (by omega) (by decide) (by omega)]
      try simp (discharger := omega) only [nlit, iI_lit, iI_add, iI_sub, iI_mul, iI_neg, bI_z, bI_o, i10, i01, eq_self, bI_nar, nar_0, nar_1, bI_t, bI_f, Option.some.injEq, exists_eq_left', true_and, and_true, forall_eq, not_true_eq_false, not_false_eq_true, forall_const, false_implies, true_implies, Classical.not_not, if_true, if_false, Int.reduceEq, Int.reduceLT, Int.reduceLE, Int.reduceGT, Int.reduceGE, Int.reduceAdd, Int.reduceSub, Int.reduceMul, Int.reduceNeg, Int.reduceNe, Bool.true_and, Bool.and_true, Bool.false_and, Bool.and_false, BEq.rfl, Bool.true_eq_false, Bool.false_eq_true]
      cases c2 : inB (txB m (b + 1) - 97) 0 (F - 1)
      · try simp (discharger := omega) only [nlit, iI_lit, iI_add, iI_sub, iI_mul, iI_neg, bI_z, bI_o, i10, i01, eq_self, bI_nar, nar_0, nar_1, bI_t, bI_f, Option.some.injEq, exists_eq_left', true_and, and_true, forall_eq, not_true_eq_false, not_false_eq_true, forall_const, false_implies, true_implies, Classical.not_not, if_true, if_false, Int.reduceEq, Int.reduceLT, Int.reduceLE, Int.reduceGT, Int.reduceGE, Int.reduceAdd, Int.reduceSub, Int.reduceMul, Int.reduceNeg, Int.reduceNe, Bool.true_and, Bool.and_true, Bool.false_and, Bool.and_false, BEq.rfl, Bool.true_eq_false, Bool.false_eq_true]
        exact k0 (if_neg (by simp [inB] at c2; omega))
      · simp [inB] at c2
        try simp (discharger := omega) only [nlit, iI_lit, iI_add, iI_sub, iI_mul, iI_neg, bI_z, bI_o, i10, i01, eq_self, bI_nar, nar_0, nar_1, bI_t, bI_f, Option.some.injEq, exists_eq_left', true_and, and_true, forall_eq, not_true_eq_false, not_false_eq_true, forall_const, false_implies, true_implies, Classical.not_not, if_true, if_false, Int.reduceEq, Int.reduceLT, Int.reduceLE, Int.reduceGT, Int.reduceGE, Int.reduceAdd, Int.reduceSub, Int.reduceMul, Int.reduceNeg, Int.reduceNe, Bool.true_and, Bool.and_true, Bool.false_and, Bool.and_false, BEq.rfl, Bool.true_eq_false, Bool.false_eq_true]
        simp (discharger := first | decide | omega) only [x_own h, x_kd h, x_r h, x_m h, x_l h, x_k h, x_n h, x_i0, x_i h, x_u0 h, x_u h, xLen, xKd, nlit, iI_lit, iI_add, iI_sub, iI_mul, iI_neg, bI_z, bI_o, i10, i01, eq_self, bI_nar, nar_0, nar_1, up_at, up_f, Option.some.injEq, exists_eq_left', true_and, and_true, forall_eq, not_true_eq_false, not_false_eq_true, forall_const, false_implies, true_implies, Classical.not_not, if_true, if_false, Int.reduceEq, Int.reduceLT, Int.reduceLE, Int.reduceGT, Int.reduceGE, Int.reduceAdd, Int.reduceSub, Int.reduceMul, Int.reduceNeg, Int.reduceNe]
        rw [eR]
        try simp (discharger := omega) only [nlit, iI_lit, iI_add, iI_sub, iI_mul, iI_neg, bI_z, bI_o, i10, i01, eq_self, bI_nar, nar_0, nar_1, bI_t, bI_f, Option.some.injEq, exists_eq_left', true_and, and_true, forall_eq, not_true_eq_false, not_false_eq_true, forall_const, false_implies, true_implies, Classical.not_not, if_true, if_false, Int.reduceEq, Int.reduceLT, Int.reduceLE, Int.reduceGT, Int.reduceGE, Int.reduceAdd, Int.reduceSub, Int.reduceMul, Int.reduceNeg, Int.reduceNe, Bool.true_and, Bool.and_true, Bool.false_and, Bool.and_false, BEq.rfl, Bool.true_eq_false, Bool.false_eq_true]
        rw [q_in (by omega) (by decide) (by omega)]
        try simp (discharger := omega) only [nlit, iI_lit, iI_add, iI_sub, iI_mul, iI_neg, bI_z, bI_o, i10, i01, eq_self, bI_nar, nar_0, nar_1, bI_t, bI_f, Option.some.injEq, exists_eq_left', true_and, and_true, forall_eq, not_true_eq_false, not_false_eq_true, forall_const, false_implies, true_implies, Classical.not_not, if_true, if_false, Int.reduceEq, Int.reduceLT, Int.reduceLE, Int.reduceGT, Int.reduceGE, Int.reduceAdd, Int.reduceSub, Int.reduceMul, Int.reduceNeg, Int.reduceNe, Bool.true_and, Bool.and_true, Bool.false_and, Bool.and_false, BEq.rfl, Bool.true_eq_false, Bool.false_eq_true]
        cases c3 : inB (txB m (b + 1 + 1) - 49) 0 (R - 1)
        · try simp (discharger := omega) only [nlit, iI_lit, iI_add, iI_sub, iI_mul, iI_neg, bI_z, bI_o, i10, i01, eq_self, bI_nar, nar_0, nar_1, bI_t, bI_f, Option.some.injEq, exists_eq_left', true_and, and_true, forall_eq, not_true_eq_false, not_false_eq_true, forall_const, false_implies, true_implies, Classical.not_not, if_true, if_false, Int.reduceEq, Int.reduceLT, Int.reduceLE, Int.reduceGT, Int.reduceGE, Int.reduceAdd, Int.reduceSub, Int.reduceMul, Int.reduceNeg, Int.reduceNe, Bool.true_and, Bool.and_true, Bool.false_and, Bool.and_false, BEq.rfl, Bool.true_eq_false, Bool.false_eq_true]
          exact k0 (if_neg (by simp [inB] at c3; omega))
        · simp [inB] at c3
          simp (discharger := omega) only [nlit, iI_lit, iI_add, iI_sub, iI_mul, iI_neg, bI_z, bI_o, i10, i01, eq_self, bI_nar, nar_0, nar_1, bI_t, bI_f, Option.some.injEq, exists_eq_left', true_and, and_true, forall_eq, not_true_eq_false, not_false_eq_true, forall_const, false_implies, true_implies, Classical.not_not, if_true, if_false, Int.reduceEq, Int.reduceLT, Int.reduceLE, Int.reduceGT, Int.reduceGE, Int.reduceAdd, Int.reduceSub, Int.reduceMul, Int.reduceNeg, Int.reduceNe, Bool.true_and, Bool.and_true, Bool.false_and, Bool.and_false, BEq.rfl, Bool.true_eq_false, Bool.false_eq_true, wp_X12_readsRest_229]
          rw [x_i0, show atM m w2 (b + 1) 50 ((1 : Nat) : Int) = F from eF]
          try simp (discharger := omega) only [nlit, iI_lit, iI_add, iI_sub, iI_mul, iI_neg, bI_z, bI_o, i10, i01, eq_self, bI_nar, nar_0, nar_1, bI_t, bI_f, Option.some.injEq, exists_eq_left', true_and, and_true, forall_eq, not_true_eq_false, not_false_eq_true, forall_const, false_implies, true_implies, Classical.not_not, if_true, if_false, Int.reduceEq, Int.reduceLT, Int.reduceLE, Int.reduceGT, Int.reduceGE, Int.reduceAdd, Int.reduceSub, Int.reduceMul, Int.reduceNeg, Int.reduceNe, Bool.true_and, Bool.and_true, Bool.false_and, Bool.and_false, BEq.rfl, Bool.true_eq_false, Bool.false_eq_true]
          rw [q_layA h (by decide)]
          unfold rdQ at k
          rw [if_pos ⟨c1, by omega, by omega, by omega⟩] at k
          exact k (b + 1)
  by_cases c : txB m a = 119
  · simp (discharger := omega) only [nlit, iI_lit, iI_add, iI_sub, iI_mul, iI_neg, bI_z, bI_o, i10, i01, eq_self, bI_nar, nar_0, nar_1, bI_t, bI_f, Option.some.injEq, exists_eq_left', true_and, and_true, forall_eq, not_true_eq_false, not_false_eq_true, forall_const, false_implies, true_implies, Classical.not_not, if_true, if_false, Int.reduceEq, Int.reduceLT, Int.reduceLE, Int.reduceGT, Int.reduceGE, Int.reduceAdd, Int.reduceSub, Int.reduceMul, Int.reduceNeg, Int.reduceNe, Bool.true_and, Bool.and_true, Bool.false_and, Bool.and_false, BEq.rfl, Bool.true_eq_false, Bool.false_eq_true, c]
    exact k22 1 (by rw [if_pos c])
  · simp (discharger := omega) only [nlit, iI_lit, iI_add, iI_sub, iI_mul, iI_neg, bI_z, bI_o, i10, i01, eq_self, bI_nar, nar_0, nar_1, bI_t, bI_f, Option.some.injEq, exists_eq_left', true_and, and_true, forall_eq, not_true_eq_false, not_false_eq_true, forall_const, false_implies, true_implies, Classical.not_not, if_true, if_false, Int.reduceEq, Int.reduceLT, Int.reduceLE, Int.reduceGT, Int.reduceGE, Int.reduceAdd, Int.reduceSub, Int.reduceMul, Int.reduceNeg, Int.reduceNe, Bool.true_and, Bool.and_true, Bool.false_and, Bool.and_false, BEq.rfl, Bool.true_eq_false, Bool.false_eq_true, c]
    exact k22 0 (by rw [if_neg c])
end
