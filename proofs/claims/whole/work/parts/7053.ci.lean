/-! PHASE 3, kings, checks -/
abbrev brd (F R : Int) (v : Int → Int) : Prop := ∀ k : Int, F * R ≤ k → k < 64 → v k = 0
abbrev VG (F R : Int) (v : Int → Int) : Prop := okV F R v ∧ clV v ∧ brd F R v
theorem sumL_S (f : Int → Int) (k : Int) (d : Nat) : sumL f k (d + 1) = f k + sumL f (k + 1) d := rfl
theorem zcnt_below {n : Int} : ∀ (d : Nat) (k : Int), sumL (fun j => if decide (j < n) = true then 1 else 0) k d = if n ≤ k then 0 else if k + d ≤ n then (d : Int) else n - k
  | 0, k => by unfold sumL; omega
  | d + 1, k => by
    rw [sumL_S, zcnt_below d (k + 1)]
    simp only [decide_eq_true_eq]
    omega
theorem zcnt_lt {n : Int} (h0 : 0 ≤ n) (h1 : n ≤ 64) : zcnt (fun k => decide (k < n)) = n := by
  unfold zcnt
  rw [zcnt_below]
  omega
theorem findL_min (p : Int → Bool) : ∀ (d : Nat) (k j : Int), k ≤ j → j < findL p k d → p j = false
  | 0, k, j, h1, h2 => by unfold findL at h2; omega
  | d + 1, k, j, h1, h2 => by
    unfold findL at h2
    by_cases c : p k = true
    · rw [if_pos c] at h2; omega
    · rw [if_neg c] at h2
      by_cases e : j = k
      · subst e; simpa using c
      · exact findL_min p d (k + 1) j (by omega) h2
theorem findL_at (p : Int → Bool) : ∀ (d : Nat) (k : Int), findL p k d < k + d → p (findL p k d) = true
  | 0, k, h => by unfold findL at h; omega
  | d + 1, k, h => by
    unfold findL at h ⊢
    by_cases c : p k = true
    · rw [if_pos c]; exact c
    · rw [if_neg c] at h ⊢
      exact findL_at p d (k + 1) (by omega)
theorem sumL_split (f : Int → Int) : ∀ (a b : Nat) (k : Int), sumL f k (a + b) = sumL f k a + sumL f (k + a) b
  | 0, b, k => by simp [sumL]
  | a + 1, b, k => by
    rw [show a + 1 + b = (a + b) + 1 by omega]
    rw [sumL_S, sumL_S, sumL_split f a b (k + 1)]
    rw [show k + 1 + (a : Int) = k + ((a + 1 : Nat) : Int) by push_cast; omega]
    omega
theorem sumL_congr {f g : Int → Int} : ∀ (d : Nat) (k : Int), (∀ j, k ≤ j → j < k + d → f j = g j) → sumL f k d = sumL g k d
  | 0, k, h => rfl
  | d + 1, k, h => by
    unfold sumL
    rw [h k (by omega) (by omega), sumL_congr d (k + 1) (fun j h1 h2 => h j (by omega) (by omega))]
theorem sumL_0 {f : Int → Int} : ∀ (d : Nat) (k : Int), (∀ j, k ≤ j → j < k + d → f j = 0) → sumL f k d = 0
  | 0, k, h => rfl
  | d + 1, k, h => by
    unfold sumL
    rw [h k (by omega) (by omega), sumL_0 d (k + 1) (fun j h1 h2 => h j (by omega) (by omega))]; rfl
/-- a count of all 64 places is one of the board, if none behind it counts -/
theorem zcnt_board {P : Int → Bool} {n : Int} (h0 : 0 ≤ n) (h1 : n ≤ 64) (h : ∀ k : Int, n ≤ k → k < 64 → P k = false) : zcnt P = sumL (fun k => if P k then 1 else 0) 0 n.toNat := by
  unfold zcnt
  rw [show 64 = n.toNat + (64 - n.toNat) by omega, sumL_split]
  rw [sumL_0 (64 - n.toNat) (0 + ((n.toNat : Nat) : Int)) (fun j h2 h3 => by
    rw [h j (by omega) (by omega)]; rfl)]
  omega
/-- which squares a king of a side stands on, as the class tells it -/
theorem king_bits {v : Int → Int} (hv : okP v) {s k : Int} (hs : s = 0 ∨ s = 1) (h0 : 0 ≤ k) (h1 : k < 64) : (decide (kindO (v k) = 1) && (if s = 1 then isOfB (v k) 1 else !isOfB (v k) 1)) = decide (v k = pieceOfB 1 s) := by
  rcases hs with rfl | rfl <;> rcases kind_cases (hv k h0 h1) with h | h | h | h | h | h | h | h | h | h | h | h | h <;> rw [h] <;> rfl
def kingC (F R : Int) (v : Int → Int) (s : Int) : Int := if kingB F R v s < F * R then kingB F R v s else -1
theorem king_none {F R : Int} {v : Int → Int} {s : Int} (hn : 0 ≤ F * R ∧ F * R ≤ 64) (hb : brd F R v) (hs : s = 0 ∨ s = 1) (h : ¬ kingB F R v s < F * R) {k : Int} (h0 : 0 ≤ k) (h1 : k < 64) : decide (v k = pieceOfB 1 s) = false := by
  by_cases hk : k < F * R
  · have := kingB_r v s hn.1
    exact findL_min (fun j => decide (v j = pieceOfB 1 s)) (F * R).toNat 0 k h0 (show k < kingB F R v s by omega)
  · rw [hb k (by omega) h1]
    rcases hs with rfl | rfl <;> rfl
section
variable {D : wD} {S : wS} {o : Nat → Nat} {c : cM} {F R : Int} {p : Nat} {v : Int → Int}
theorem q_lowest {U : wS} {post : Int32 → wS → Prop} {P : Int → Bool} {n : Int} (hn : 0 ≤ n ∧ n < 64) (hP : P n = true) (hl : ∀ j : Int, 0 ≤ j → j < n → P j = false) : wp_J13_bitCount_95d88 D post U ((zS P &&& (- zS P)) - (1 : Int64)) = post (iI n) U := by
  have hz : zlow P n = false := by
    cases hq : zlow P n
    · rfl
    · obtain ⟨j, h0, h1, h2⟩ := (zlow_iff (by omega)).mp hq
      rw [hl j h0 h1] at h2
      exact absurd h2 (by decide)
  rw [zS_below P hn hP hz, q_bitCount, zcnt_lt hn.1 (by omega)]
theorem q_kingOfC {post : Int32 → wS → Prop} (h : CC D S o) (hn : 0 ≤ F * R ∧ F * R ≤ 64) (hp : isP p) (hv : okP v) (hb : brd F R v) (hA : PAt c p v) {s : Int} (hs : s = 0 ∨ s = 1) (k : post (iI (kingC F R v s)) (cS S o c)) :
    wp_X7_kingOf D post (cS S o c) (o p) (iI s) := by
  unfold wp_X7_kingOf wp_X7_kingOf_0
  simp only [iI_lit]
  rw [q_ofKind h hp hv hA (by decide)]
  have main : ∀ z : Int64, zS (fun k => decide (kindO (v k) = 1)) &&& z = zS (fun k => decide (v k = pieceOfB 1 s)) → wp_X7_kingOf_24 D post (cS S o c) (zS fun k => decide (kindO (v k) = 1)) z := by
    intro z hz
    unfold wp_X7_kingOf_24 wp_X7_kingOf_45
    intro x ex
    rw [hz] at ex
    rw [ex]
    simp only [lg_cmp_eq, zS_0]
    by_cases hk : kingB F R v s < F * R
    · have hr := kingB_r v s hn.1
      have hat : decide (v (kingB F R v s) = pieceOfB 1 s) = true := findL_at (fun j => decide (v j = pieceOfB 1 s)) (F * R).toNat 0 (show kingB F R v s < 0 + ((F * R).toNat : Int) by omega)
      refine ⟨fun _ => ?_, fun hh => ?_⟩
      · rw [q_lowest (n := kingB F R v s) ⟨hr.1, by omega⟩ hat (fun j h0 h1 => findL_min (fun j => decide (v j = pieceOfB 1 s)) (F * R).toNat 0 j h0 h1)]
        unfold kingC at k
        rw [if_pos hk] at k
        exact k
      · rw [hh _ hr.1 (by omega)] at hat
        exact absurd hat (by decide)
    · refine ⟨fun hh => absurd (fun k h0 h1 => king_none hn hb hs hk h0 h1) hh, fun _ => ?_⟩
      unfold kingC at k
      rw [if_neg hk] at k
      exact k
  have e1 : sJ (cS S o c) (o p) 1 = plW v := by rw [c_j0 h hp.1]; exact hA.1
  rw [e1]
  rcases hs with rfl | rfl
  · refine ⟨fun _ => main _ ?_, fun hh => absurd rfl hh⟩
    unfold plW
    rw [zS_not, zS_and]
    exact zS_congr fun k h0 h1 => king_bits hv (Or.inl rfl) h0 h1
  · refine ⟨fun hh => absurd hh (by decide), fun _ => main _ ?_⟩
    unfold plW
    rw [zS_and]
    exact zS_congr fun k h0 h1 => king_bits hv (Or.inr rfl) h0 h1
theorem found_zero (hB : BG c F R) (hv : okP v) (hb : brd F R v) {s a : Int} (hs : s = 0 ∨ s = 1) (ha : 0 ≤ a ∧ a < F * R) : (zS (foundB F R v (occB v) s a) = 0) = (atkB F R v a s = false) := by
  have hm := hB.m
  have e : ∀ t : Int, 0 ≤ t → t < 64 → foundB F R v (occB v) s a t = (isOfB (v t) s && attB F v t a) := fun t h0 h1 => by
    rw [found_iff hB.f4 hB.f8 hB.r4 hB.r8 hm.2 ha ⟨h0, h1⟩ hs (hv t h0 h1) (fun h => hb t h h1)]
    rw [← attO_v]; rfl
  rw [zS_0]
  apply propext
  constructor
  · intro hh
    cases hq : atkB F R v a s
    · rfl
    · unfold atkB at hq
      obtain ⟨j, h1, h2, h3⟩ := anyL_iff.mp hq
      rw [← e j h1 (by omega), hh j h1 (by omega)] at h3
      exact absurd h3 (by decide)
  · intro hh t h0 h1
    rw [e t h0 h1]
    cases hq : (isOfB (v t) s && attB F v t a)
    · rfl
    · exfalso
      have ht : t < F * R := by
        rcases Int.lt_or_le t (F * R) with g | g
        · exact g
        · rw [hb t g h1] at hq
          exact absurd hq (by simp [isOfB])
      have : atkB F R v a s = true := anyL_iff.mpr ⟨t, h0, by omega, hq⟩
      rw [hh] at this
      exact absurd this (by decide)
/-- whether a set is empty, as a truth -/
theorem q_isInCheckC {post : Int32 → wS → Prop} (h : CC D S o) (hB : BG c F R) (hp : isP p) (hv : okV F R v) (hb : brd F R v) (hA : PAt c p v) (hk : kingB F R v (v 64) < F * R) (k : post (iI (bI (chkB F R v (v 64)))) (cS S o c)) :
    wp_X7_isInCheck D post (cS S o c) (o p) := by
  have hm := hB.m
  have hs : v 64 = 0 ∨ v 64 = 1 := by have := hv.s; omega
  have e5 : sI (cS S o c) (o p) 5 = iI (v 64) := by rw [c_i0 h hp.1]; exact congrArg iI hA.2.2.2.2.1
  unfold wp_X7_isInCheck wp_X7_isInCheck_0
  rw [e5]
  refine q_kingOfC h ⟨by omega, hm.2⟩ hp hv.p hb hA hs ?_
  unfold kingC
  rw [if_pos hk, e5]
  have hr := kingB_r v (v 64) (show 0 ≤ F * R by omega)
  have main : ∀ u : Int, u = 1 - v 64 → wp_X7_isInCheck_21 D post (cS S o c) (o p) (o p) (iI (kingB F R v (v 64))) (iI u) := by
    intro u hu
    unfold wp_X7_isInCheck_21 wp_X7_isInCheck_38
    rw [q_occupied h hp hv.p hA]
    refine q_attackers h hB hp hv.p hA ⟨hr.1, hk⟩ (by omega) ?_
    simp only [lg_cmp_eq]
    rw [found_zero hB hv.p hb (by omega) ⟨hr.1, hk⟩]
    unfold chkB at k
    rw [← hu] at k
    cases hc : atkB F R v (kingB F R v (v 64)) u
    · rw [hc] at k
      exact ⟨fun _ => ⟨nr0, k⟩, fun hh => absurd rfl hh⟩
    · rw [hc] at k
      exact ⟨fun hh => absurd hh (by decide), fun _ => ⟨nr1, k⟩⟩
  rcases hs with hs | hs
  · rw [hs] at main ⊢
    exact ⟨fun hh => absurd rfl hh, fun _ => main 1 rfl⟩
  · rw [hs] at main ⊢
    exact ⟨fun _ => main 0 rfl, fun hh => absurd hh (by decide)⟩
end
