/-! PHASE 3, moves as numbers; positions copied -/
section
variable {D0 : wD}
theorem iI_and {z : Int} {k : Nat} (h0 : 0 ≤ z) (h1 : z < 2147483648) (hk : k < 31) : iI z &&& iI ((2 ^ k - 1 : Nat) : Int) = iI (z % (2 ^ k : Nat)) := by
  obtain ⟨n, rfl⟩ : ∃ n : Nat, z = n := ⟨z.toNat, by omega⟩
  apply Int32.toBitVec_inj.mp
  apply BitVec.eq_of_toNat_eq
  rw [Int32.toBitVec_and, BitVec.toNat_and]
  have t : ∀ m : Nat, m < 2147483648 → (iI (m : Int)).toBitVec.toNat = m := fun m hm => by
    show (BitVec.ofInt 32 (m : Int)).toNat = _
    rw [BitVec.ofInt_natCast, BitVec.toNat_ofNat]
    omega
  have hp : 2 ^ k < 2147483648 := by
    have : 2 ^ k < 2 ^ 31 := Nat.pow_lt_pow_right (by decide) hk
    simpa using this
  rw [t n (by omega), t _ (by omega), Nat.and_two_pow_sub_one_eq_mod]
  have e : ((n : Int) % ((2 ^ k : Nat) : Int)) = ((n % 2 ^ k : Nat) : Int) := by push_cast; rfl
  rw [e, t _ (Nat.lt_of_le_of_lt (Nat.mod_le _ _) (by omega))]
theorem iI_ushr {z : Int} {k : Nat} (h0 : 0 ≤ z) (h1 : z < 2147483648) (hk : k < 31) : jiushr (iI z) (iI (k : Int)) = iI (z / (2 ^ k : Nat)) := by
  obtain ⟨n, rfl⟩ : ∃ n : Nat, z = n := ⟨z.toNat, by omega⟩
  apply Int32.toBitVec_inj.mp
  apply BitVec.eq_of_toNat_eq
  have t : ∀ m : Nat, m < 2147483648 → (iI (m : Int)).toBitVec.toNat = m := fun m hm => by
    show (BitVec.ofInt 32 (m : Int)).toNat = _
    rw [BitVec.ofInt_natCast, BitVec.toNat_ofNat]
    omega
  have e : ((n : Int) / ((2 ^ k : Nat) : Int)) = ((n / 2 ^ k : Nat) : Int) := by push_cast; rfl
  rw [e, t _ (Nat.lt_of_le_of_lt (Nat.div_le_self _ _) (by omega))]
  have key : ∀ j : Nat, j < 31 → (((iI (j : Int)).toUInt32 &&& Int32.toUInt32 31).toBitVec % 32).toNat = j := by decide +kernel
  show ((iI (n : Int)).toUInt32 >>> ((iI (k : Int)).toUInt32 &&& Int32.toUInt32 31)).toBitVec.toNat = _
  rw [UInt32.toBitVec_shiftRight, BitVec.ushiftRight_eq', BitVec.toNat_ushiftRight, key k hk, Nat.shiftRight_eq_div_pow]
  exact congrArg (· / 2 ^ k) (t n (by omega))
/-- a move as the class keeps it -/
def mcode (t : Mv) : Int := t.1 + 64 * t.2.1 + 4096 * t.2.2
abbrev mOK (t : Mv) : Prop := (0 ≤ t.1 ∧ t.1 < 64) ∧ (0 ≤ t.2.1 ∧ t.2.1 < 64) ∧ (0 ≤ t.2.2 ∧ t.2.2 < 8)
theorem q_fromOf {U : wS} {post : Int32 → wS → Prop} {t : Mv} (ht : mOK t) : wp_X11_fromOf D0 post U (iI (mcode t)) = post (iI t.1) U := by
  unfold wp_X11_fromOf wp_X11_fromOf_0 mcode
  rw [show (63 : Int32) = iI ((2 ^ 6 - 1 : Nat) : Int) from rfl, iI_and (by omega) (by omega) (by decide)]
  congr 2
  have := ht.1
  show (t.1 + 64 * t.2.1 + 4096 * t.2.2) % 64 = t.1
  omega
theorem q_toOf {U : wS} {post : Int32 → wS → Prop} {t : Mv} (ht : mOK t) : wp_X11_toOf D0 post U (iI (mcode t)) = post (iI t.2.1) U := by
  unfold wp_X11_toOf wp_X11_toOf_0 mcode
  have := ht.1; have := ht.2.1; have := ht.2.2
  rw [show (63 : Int32) = iI ((2 ^ 6 - 1 : Nat) : Int) from rfl, show (6 : Int32) = iI ((6 : Nat) : Int) from rfl, iI_ushr (by omega) (by omega) (by decide), iI_and (by omega) (by omega) (by decide)]
  congr 2
  show (t.1 + 64 * t.2.1 + 4096 * t.2.2) / 64 % 64 = t.2.1
  omega
theorem q_becomesOf {U : wS} {post : Int32 → wS → Prop} {t : Mv} (ht : mOK t) : wp_X11_becomesOf D0 post U (iI (mcode t)) = post (iI t.2.2) U := by
  unfold wp_X11_becomesOf wp_X11_becomesOf_0 mcode
  have := ht.1; have := ht.2.1; have := ht.2.2
  rw [show (7 : Int32) = iI ((2 ^ 3 - 1 : Nat) : Int) from rfl, show (12 : Int32) = iI ((12 : Nat) : Int) from rfl, iI_ushr (by omega) (by omega) (by decide), iI_and (by omega) (by omega) (by decide)]
  congr 2
  show (t.1 + 64 * t.2.1 + 4096 * t.2.2) / 4096 % 8 = t.2.2
  omega
theorem iI_or {a b : Nat} {k : Nat} (ha : a < 2 ^ k) (h : a + 2 ^ k * b < 2147483648) : iI (a : Int) ||| iI ((2 ^ k * b : Nat) : Int) = iI ((a + 2 ^ k * b : Nat) : Int) := by
  apply Int32.toBitVec_inj.mp
  apply BitVec.eq_of_toNat_eq
  have t : ∀ m : Nat, m < 2147483648 → (iI (m : Int)).toBitVec.toNat = m := fun m hm => by
    show (BitVec.ofInt 32 (m : Int)).toNat = _
    rw [BitVec.ofInt_natCast, BitVec.toNat_ofNat]
    omega
  rw [Int32.toBitVec_or, BitVec.toNat_or, t _ (by omega), t _ (by omega), t _ h, Nat.or_comm, Nat.add_comm, Nat.two_pow_add_eq_or_of_lt ha]
theorem q_moveOf {U : wS} {post : Int32 → wS → Prop} {t : Mv} (ht : mOK t) : wp_X11_moveOf D0 post U (iI t.1) (iI t.2.1) (iI t.2.2) = post (iI (mcode t)) U := by
  unfold wp_X11_moveOf wp_X11_moveOf_0 mcode
  obtain ⟨⟨a0, a1⟩, ⟨b0, b1⟩, ⟨e0, e1⟩⟩ := ht
  obtain ⟨a, ha⟩ : ∃ n : Nat, t.1 = n := ⟨t.1.toNat, by omega⟩
  obtain ⟨b, hb⟩ : ∃ n : Nat, t.2.1 = n := ⟨t.2.1.toNat, by omega⟩
  obtain ⟨e, he⟩ : ∃ n : Nat, t.2.2 = n := ⟨t.2.2.toNat, by omega⟩
  have a2 : a < 64 := by omega
  have b2 : b < 64 := by omega
  have d2 : e < 8 := by omega
  rw [ha, hb, he]
  have s1 : ∀ n : Nat, n < 64 → iI (n : Int) <<< ((6 : Int32) &&& 31) = iI ((2 ^ 6 * n : Nat) : Int) := by decide +kernel
  have s2 : ∀ n : Nat, n < 8 → iI (n : Int) <<< ((12 : Int32) &&& 31) = iI ((2 ^ 12 * n : Nat) : Int) := by decide +kernel
  rw [s1 b (by omega), s2 e (by omega), iI_or (k := 6) (show a < 64 by omega) (by simp; omega), iI_or (k := 12) (by simp; omega) (by simp; omega)]
  congr 2
end
theorem putP_congr {c : cM} {p : Nat} {v w : Int → Int} (h : ∀ k : Int, 0 ≤ k → k < 64 → v k = w k) (h1 : v 64 = w 64) (h2 : v 65 = w 65) (h3 : v 66 = w 66) : putP c p v = putP c p w := by
  have e1 : plW v = plW w := zS_congr fun k h0 h1 => by rw [h k h0 h1]
  have e2 : ∀ b, plK v b = plK w b := fun b => zS_congr fun k h0 h1 => by unfold kbit; rw [h k h0 h1]
  unfold putP
  rw [e1, e2, e2, e2, h1, h2, h3]
section
variable {D : wD} {S : wS} {o : Nat → Nat} {c : cM} {F R : Int} {p q : Nat} {v : Int → Int}
theorem put7 (c : cM) (p : Nat) (v : Int → Int) : cI (cI (cI (cJ (cJ (cJ (cJ c p 1 (plW v)) p 2 (plK v 1)) p 3 (plK v 2)) p 4 (plK v 4)) p 5 (v 64)) p 6 (v 65)) p 7 (v 66) = putP c p v := by
  refine putP_char ⟨?_, ?_, ?_, ?_, ?_, ?_, ?_⟩ (fun n j hj => ?_) (fun n j hj => ?_)
  · simp [cJ_at, cI_2]
  · simp [cJ_at, cI_2]
  · simp [cJ_at, cI_2]
  · simp [cJ_at, cI_2]
  · simp [cI_at, cJ_1]
  · simp [cI_at, cJ_1]
  · simp [cI_at, cJ_1]
  · simp only [cI_at, cJ_1]
    rw [if_neg (by rintro ⟨a, b⟩; rcases hj with e | e; exact e a; exact e (by omega)), if_neg (by rintro ⟨a, b⟩; rcases hj with e | e; exact e a; exact e (by omega)), if_neg (by rintro ⟨a, b⟩; rcases hj with e | e; exact e a; exact e (by omega))]
  · simp only [cJ_at, cI_2]
    rw [if_neg (by rintro ⟨a, b⟩; rcases hj with e | e; exact e a; exact e (by omega)), if_neg (by rintro ⟨a, b⟩; rcases hj with e | e; exact e a; exact e (by omega)), if_neg (by rintro ⟨a, b⟩; rcases hj with e | e; exact e a; exact e (by omega)), if_neg (by rintro ⟨a, b⟩; rcases hj with e | e; exact e a; exact e (by omega))]
theorem bool_fit {z : Int} (hz : z = 0 ∨ z = 1) : narrow .boolean (.int (iI z)) = .int (iI z) ∧ fits .boolean (.int (iI z)) = true := by
  rcases hz with rfl | rfl
  · exact ⟨of_eq_true nar_0, by decide⟩
  · exact ⟨of_eq_true nar_1, by decide⟩
theorem q_copyP {post : wS → Prop} (h : CC D S o) (hp : isP p) (hq : isP q) (hne : q ≠ p) (hs : v 64 = 0 ∨ v 64 = 1) (hA : PAt c q v) (k : post (cS S o (putP c p v))) : wp_X7_copy D post (cS S o c) (o p) (o q) := by
  unfold wp_X7_copy wp_X7_copy_0
  have ne : (q == p) = false := by simpa using hne
  intro S1 e1
  rw [c_j1 h hq.1 (show ((1 : Nat) : Int) = 1 from rfl), hA.1, c_w1 h hp.1 (show ((1 : Nat) : Int) = 1 from rfl)] at e1
  rw [e1]
  intro S2 e2
  rw [c_j1 h hq.1 (show ((2 : Nat) : Int) = 2 from rfl), cJ_at, if_neg (by simp [hne]), hA.2.1, c_w1 h hp.1 (show ((2 : Nat) : Int) = 2 from rfl)] at e2
  rw [e2]
  intro S3 e3
  rw [c_j1 h hq.1 (show ((3 : Nat) : Int) = 3 from rfl), cJ_at, if_neg (by simp [hne]), cJ_at, if_neg (by simp [hne]), hA.2.2.1, c_w1 h hp.1 (show ((3 : Nat) : Int) = 3 from rfl)] at e3
  rw [e3]
  intro S4 e4
  rw [c_j1 h hq.1 (show ((4 : Nat) : Int) = 4 from rfl), cJ_at, if_neg (by simp [hne]), cJ_at, if_neg (by simp [hne]), cJ_at, if_neg (by simp [hne]), hA.2.2.2.1, c_w1 h hp.1 (show ((4 : Nat) : Int) = 4 from rfl)] at e4
  rw [e4]
  have r5 : sI (cS S o (cJ (cJ (cJ (cJ c p 1 (plW v)) p 2 (plK v 1)) p 3 (plK v 2)) p 4 (plK v 4))) (o q) 5 = iI (v 64) := by
    rw [c_i1 h hq.1 (show ((5 : Nat) : Int) = 5 from rfl)]; exact congrArg iI hA.2.2.2.2.1
  rw [r5]
  refine ⟨(bool_fit hs).1, (bool_fit hs).2, fun S5 e5 => ?_⟩
  rw [c_u1 h hp.1 (show ((5 : Nat) : Int) = 5 from rfl)] at e5
  rw [e5]
  intro S6 e6
  rw [c_i1 h hq.1 (show ((6 : Nat) : Int) = 6 from rfl), cI_at, if_neg (by simp [hne]), show (cJ (cJ (cJ (cJ c p 1 (plW v)) p 2 (plK v 1)) p 3 (plK v 2)) p 4 (plK v 4)).1 = c.1 from rfl, hA.2.2.2.2.2.1, c_u1 h hp.1 (show ((6 : Nat) : Int) = 6 from rfl)] at e6
  rw [e6]
  intro S7 e7
  rw [c_i1 h hq.1 (show ((7 : Nat) : Int) = 7 from rfl), cI_at, if_neg (by simp [hne]), cI_at, if_neg (by simp [hne]), show (cJ (cJ (cJ (cJ c p 1 (plW v)) p 2 (plK v 1)) p 3 (plK v 2)) p 4 (plK v 4)).1 = c.1 from rfl, hA.2.2.2.2.2.2, c_u1 h hp.1 (show ((7 : Nat) : Int) = 7 from rfl)] at e7
  rw [e7, put7]
  exact k
/-- the empty board -/
def emptyV : Int → Int := fun j => if j = 64 then 1 else if j = 66 then -1 else 0
theorem empty_pl : (0 : Int64) = plW emptyV ∧ ∀ b : Int, (0 : Int64) = plK emptyV b := by
  have e : ∀ k : Int, 0 ≤ k → k < 64 → emptyV k = 0 := fun k _ _ => by unfold emptyV; rw [if_neg (by omega), if_neg (by omega)]
  refine ⟨?_, fun b => ?_⟩
  · rw [zS_f]; exact zS_congr fun k h0 h1 => by rw [e k h0 h1]; rfl
  · rw [zS_f]; exact zS_congr fun k h0 h1 => by unfold kbit; rw [e k h0 h1]; simp [kindO]
theorem q_clearP {post : wS → Prop} (h : CC D S o) (hp : isP p) (k : post (cS S o (putP c p emptyV))) : wp_X7_clear D post (cS S o c) (o p) := by
  unfold wp_X7_clear wp_X7_clear_0
  rw [← put7] at k
  rw [← empty_pl.1, ← empty_pl.2, ← empty_pl.2, ← empty_pl.2] at k
  intro S1 e1
  rw [c_w1 h hp.1 (show ((1 : Nat) : Int) = 1 from rfl)] at e1
  rw [e1]
  intro S2 e2
  rw [c_w1 h hp.1 (show ((2 : Nat) : Int) = 2 from rfl)] at e2
  rw [e2]
  intro S3 e3
  rw [c_w1 h hp.1 (show ((3 : Nat) : Int) = 3 from rfl)] at e3
  rw [e3]
  intro S4 e4
  rw [c_w1 h hp.1 (show ((4 : Nat) : Int) = 4 from rfl)] at e4
  rw [e4]
  refine ⟨nr1, (bool_fit (z := 1) (Or.inr rfl)).2, fun S5 e5 => ?_⟩
  rw [show (1 : Int32) = iI 1 from rfl, c_u1 h hp.1 (show ((5 : Nat) : Int) = 5 from rfl)] at e5
  rw [e5]
  intro S6 e6
  rw [show (0 : Int32) = iI 0 from rfl, c_u1 h hp.1 (show ((6 : Nat) : Int) = 6 from rfl)] at e6
  rw [e6]
  intro S7 e7
  rw [show (-1 : Int32) = iI (-1) from rfl, c_u1 h hp.1 (show ((7 : Nat) : Int) = 7 from rfl)] at e7
  rw [e7]
  exact k
theorem q_besidesOf {post : Int64 → wS → Prop} (h : CC D S o) (hB : BG c F R) {a : Int} (ha : 0 ≤ a ∧ a < F * R) : wp_X0_besidesOf D post (cS S o c) (o 1) (iI a) = post (zS (besB F R a)) (cS S o c) := by
  have hm := hB.m
  unfold wp_X0_besidesOf wp_X0_besidesOf_0 wp_X0_besidesOf_20
  have l1 : (iI a < 0) = False := by rw [show (0 : Int32) = iI 0 from rfl, iI_lt (by omega) (by omega) (by decide) (by decide)]; exact eq_false (by omega)
  have l2 : ((64 : Int32) ≤ iI a) = False := by rw [show (64 : Int32) = iI 64 from rfl, iI_le (by decide) (by decide) (by omega) (by omega)]; exact eq_false (by omega)
  simp only [l1, l2, false_implies, true_implies, not_false_eq_true, true_and]
  apply propext
  have hin : vp_in (iI a) 64 := iI_in (by omega) (by omega) (by omega)
  constructor
  · rintro ⟨y, hy, _, _, _, hk⟩
    rw [c_r h (show sfr 1 11 = some 9 from rfl)] at hy
    obtain rfl := Option.some.inj hy
    rw [c_j h (by decide) (by omega) (by omega), hB.bs ha.1 ha.2] at hk
    exact hk
  · intro hk
    refine ⟨o 9, c_r h rfl, (c_m h (by decide)).mpr trivial, c_k h (by decide), (c_n h (n := 9) (by decide)).symm ▸ hin, ?_⟩
    rw [c_j h (by decide) (by omega) (by omega), hB.bs ha.1 ha.2]
    exact hk
end
