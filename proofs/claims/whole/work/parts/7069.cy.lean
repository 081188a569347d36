/-! PHASE 3, the rows of moves that the class generates -/
def putR (c : cM) (r : Nat) (L : List Mv) : cM := (fun n j => if n = r ∧ 0 ≤ j ∧ j < L.length then mcode (L.getD j.toNat (0, 0, 0)) else c.1 n j, c.2)
theorem putR_nil (c : cM) (r : Nat) : putR c r [] = c := by
  apply Prod.ext
  · funext n j; simp only [putR]; rw [if_neg (fun z => by have h1 := z.2.1; have h2 : j < 0 := z.2.2; omega)]
  · rfl
theorem putR_snoc (c : cM) (r : Nat) (L : List Mv) (t : Mv) : cI (putR c r L) r L.length (mcode t) = putR c r (L ++ [t]) := by
  apply Prod.ext
  · funext n j
    rw [cI_at]
    simp only [putR]
    rw [List.length_append, List.length_singleton]
    by_cases hn : n = r
    · by_cases h1 : j = L.length
      · subst h1
        rw [if_pos ⟨hn, rfl⟩, if_pos ⟨hn, by omega, by push_cast; omega⟩]
        simp
      · rw [if_neg (fun z => h1 z.2)]
        by_cases h2 : 0 ≤ j ∧ j < L.length
        · rw [if_pos ⟨hn, h2⟩, if_pos ⟨hn, by omega⟩]
          congr 1
          simp only [List.getD_eq_getElem?_getD]
          rw [List.getElem?_append_left (by omega)]
        · rw [if_neg (by omega), if_neg (by omega)]
    · rw [if_neg (fun z => hn z.1), if_neg (fun z => hn z.1), if_neg (fun z => hn z.1)]
  · rfl
theorem putR_1 (c : cM) {r n : Nat} (L : List Mv) (h : n ≠ r) : (putR c r L).1 n = c.1 n := by
  funext j; simp only [putR]; rw [if_neg (fun z => h z.1)]
theorem putR_2 (c : cM) (r : Nat) (L : List Mv) : (putR c r L).2 = c.2 := rfl
abbrev isR (r : Nat) : Prop := r = 20 ∨ r = 39 ∨ r = 40 ∨ r = 41
theorem isR_k {r : Nat} (h : isR r) : cOk r = true ∧ ckd r = 21 ∧ cln r = 1728 ∧ r < 52 := by
  rcases h with rfl | rfl | rfl | rfl <;> decide
theorem putR_P {c : cM} {r n : Nat} {L : List Mv} {w : Int → Int} (hr : isR r) (hn : isP n) (hA : PAt c n w) : PAt (putR c r L) n w := by
  have : n ≠ r := fun e => by have := hn.2.1; rw [e, (isR_k hr).2.1] at this; exact absurd this (by decide)
  unfold PAt
  rw [putR_1 c L this, putR_2]; exact hA
theorem putR_BG {c : cM} {r : Nat} {L : List Mv} {F R : Int} (hr : isR r) (hB : BG c F R) : BG (putR c r L) F R :=
  BG_of (fun n hn => putR_1 c L (by rcases hr with e | e | e | e <;> omega)) (fun n hn => rfl) hB
theorem putR_RA {c : cM} {r : Nat} {L : List Mv} {F R : Int} {v : Int → Int} (hr : isR r) (h : RA c F R v) : RA (putR c r L) F R v := by
  unfold RA
  rw [putR_1 c L (show 10 ≠ r by rcases hr with e | e | e | e <;> omega), putR_2]; exact h
/-- the moves to a set of squares -/
def mToG (T Ch : Int → Bool) (a b : Int) : Nat → List Mv
  | 0 => []
  | d + 1 => (if T b then bec4 a b (Ch b) else []) ++ mToG T Ch a (b + 1) d
theorem mToG_skip {T Ch : Int → Bool} {a : Int} : ∀ (k d : Nat) (b : Int), (∀ j : Int, b ≤ j → j < b + k → T j = false) → mToG T Ch a b (k + d) = mToG T Ch a (b + k) d
  | 0, d, b, h => by rw [Nat.zero_add]; simp
  | k + 1, d, b, h => by
    rw [show k + 1 + d = (k + d) + 1 by omega]
    have e : mToG T Ch a b (k + d + 1) = (if T b then bec4 a b (Ch b) else []) ++ mToG T Ch a (b + 1) (k + d) := rfl
    rw [e, h b (by omega) (by omega)]
    rw [mToG_skip k d (b + 1) (fun j h1 h2 => h j (by omega) (by omega))]
    rw [show b + 1 + (k : Int) = b + ((k + 1 : Nat) : Int) by push_cast; omega]; rfl
theorem mToG_0 {T Ch : Int → Bool} {a : Int} (d : Nat) (b : Int) (h : ∀ j : Int, b ≤ j → j < b + d → T j = false) : mToG T Ch a b d = [] := by
  have := mToG_skip (T := T) (Ch := Ch) (a := a) d 0 b h
  rw [Nat.add_zero] at this
  rw [this]; rfl
theorem mToG_cut {T Ch : Int → Bool} {a : Int} : ∀ (d e : Nat) (b : Int), (∀ j : Int, b + d ≤ j → j < b + d + e → T j = false) → mToG T Ch a b (d + e) = mToG T Ch a b d
  | 0, e, b, h => by rw [Nat.zero_add]; exact mToG_0 e b (fun j h1 h2 => h j (by simpa using h1) (by simpa using h2))
  | d + 1, e, b, h => by
    rw [show d + 1 + e = (d + e) + 1 by omega]
    show (if T b then bec4 a b (Ch b) else []) ++ mToG T Ch a (b + 1) (d + e) = (if T b then bec4 a b (Ch b) else []) ++ mToG T Ch a (b + 1) d
    rw [mToG_cut d e (b + 1) (fun j h1 h2 => h j (by push_cast at h1 ⊢; omega) (by push_cast at h2 ⊢; omega))]
theorem mToG_congr {T T' Ch Ch' : Int → Bool} {a : Int} : ∀ (d : Nat) (b : Int), (∀ j : Int, b ≤ j → j < b + d → T j = T' j ∧ (T j = true → Ch j = Ch' j)) → mToG T Ch a b d = mToG T' Ch' a b d
  | 0, b, h => rfl
  | d + 1, b, h => by
    show (if T b then bec4 a b (Ch b) else []) ++ mToG T Ch a (b + 1) d = (if T' b then bec4 a b (Ch' b) else []) ++ mToG T' Ch' a (b + 1) d
    obtain ⟨h1, h2⟩ := h b (by omega) (by omega)
    rw [mToG_congr d (b + 1) (fun j g1 g2 => h j (by omega) (by omega)), ← h1]
    cases q : T b
    · rfl
    · rw [h2 q]
theorem mTo_G (F R : Int) (v : Int → Int) (a : Int) : ∀ (d : Nat) (b : Int), mTo F R v a b d = mToG (legB F R v a) (becB F R v a) a b d
  | 0, b => rfl
  | d + 1, b => by
    show _ ++ mTo F R v a (b + 1) d = _ ++ mToG _ _ a (b + 1) d
    rw [mTo_G F R v a d (b + 1)]
section
variable {D : wD} {S : wS} {o : Nat → Nat} {c : cM} {F R : Int} {p r : Nat} {v : Int → Int}
theorem q_add_100 {post : Int32 → wS → Prop} (h : CC D S o) (hr : isR r) {k10 : wS → Nat → Int32 → Int64 → Int32 → Int64 → Int32 → Prop} {k64 : wS → Nat → Int32 → Int64 → Int32 → Int64 → Int32 → Int32 → Int32 → Int32 → Int32 → Prop}
    {L : List Mv} {t : Mv} (ht : mOK t) (hL : (L.length : Int) < 1728) {x3 x11 x12 x13 x14 : Int32} {x6 x9 : Int64} {kd : Int}
    (k : k64 (cS S o (putR c r (L ++ [t]))) (o r) x3 x6 (iI (L.length + 1)) x9 x11 x12 x13 x14 (iI (kd + 1))) :
    wp_X8_addMoves_100 D post k10 k64 (cS S o (putR c r L)) (o r) x3 x6 (iI L.length) x9 x11 x12 x13 x14 (iI kd) (o r) (iI L.length) (iI t.1) (iI t.2.1) (iI t.2.2) := by
  obtain ⟨r1, r2, r3, r4⟩ := isR_k hr
  unfold wp_X8_addMoves_100
  rw [q_moveOf ht]
  refine ⟨(c_l h r4).mpr trivial, (by rw [c_n h r4, r3]; exact iI_in (by omega) (by omega) (by omega)), fun S4 e4 x5 e5 x6 e6 => ?_⟩
  rw [c_u h r1 (by omega) (by omega), putR_snoc] at e4
  rw [e4, e5, e6, show (1 : Int32) = iI 1 from rfl, iI_add, iI_add]
  exact k
/-- one move of a pawn that becomes nothing, or all four -/
theorem q_add_59 {post : Int32 → wS → Prop} (h : CC D S o) (hr : isR r) {k10 : wS → Nat → Int32 → Int64 → Int32 → Int64 → Int32 → Prop} {L : List Mv} {a b : Int} {ch : Bool} (ha : 0 ≤ a ∧ a < 64) (hb : 0 ≤ b ∧ b < 64)
    (hL : ((L ++ bec4 a b ch).length : Int) ≤ 1728) {x11 : Int32} {x6 x9 : Int64}
    (k : ∀ x1 : Int32, x1 = x11 + 1 → k10 (cS S o (putR c r (L ++ bec4 a b ch))) (o r) (iI a) x6 (iI (L ++ bec4 a b ch).length) x9 x1) :
    wp_X8_addMoves_59 D post k10 (cS S o (putR c r L)) (o r) (iI a) x6 (iI L.length) x9 x11 (iI b) (iI (bI ch)) (if ch then 5 else 2) := by
  obtain ⟨r1, r2, r3, r4⟩ := isR_k hr
  unfold wp_X8_addMoves_59
  -- a round of the loop
  have round : ∀ (n : Nat) (kd : Int) (L' : List Mv), 2 ≤ kd → kd ≤ (if ch then 5 else 2) → (L'.length : Int) < 1728 →
      wp_X8_addMoves_64 D post k10 n (cS S o (putR c r (L' ++ [(a, b, if ch then kd else 0)]))) (o r) (iI a) x6 (iI (L'.length + 1)) x9 x11 (iI b) (iI (bI ch)) (iI (if ch then 5 else 2)) (iI (kd + 1)) →
      wp_X8_addMoves_64 D post k10 (n + 1) (cS S o (putR c r L')) (o r) (iI a) x6 (iI L'.length) x9 x11 (iI b) (iI (bI ch)) (iI (if ch then 5 else 2)) (iI kd) := by
    intro n kd L' k2 k5 hl hk
    have h5 : (if ch then 5 else 2 : Int) ≤ 5 := by split <;> decide
    unfold wp_X8_addMoves_64
    have l1 : (iI (if ch then 5 else 2) < iI kd) = False := by rw [iI_lt (by omega) (by omega) (by omega) (by omega)]; exact eq_false (by omega)
    have l2 : (iI (L'.length : Int) < 0) = False := by rw [show (0 : Int32) = iI 0 from rfl, iI_lt (by omega) (by omega) (by decide) (by decide)]; exact eq_false (by omega)
    have l3 : (Int32.ofNat (sN (cS S o (putR c r L')) (o r)) ≤ iI (L'.length : Int)) = False := by
      rw [c_n h r4, r3, show Int32.ofNat 1728 = iI 1728 from rfl, iI_le (by decide) (by decide) (by omega) (by omega)]; exact eq_false (by omega)
    rw [l1, l2, l3, bF]
    refine ⟨fun z => z.elim, fun _ => ⟨fun z => z.elim, fun _ => ⟨fun z => z.elim, fun _ => ⟨fun z => ?_, fun z => ?_⟩⟩⟩⟩
    · rw [z, if_neg (by decide)] at hk
      exact q_add_100 (t := (a, b, 0)) h hr ⟨ha, hb, ⟨by show (0 : Int) ≤ 0; decide, by show (0 : Int) < 8; decide⟩⟩ hl (by rw [z]; exact hk)
    · have z : ch = true := by simpa using z
      rw [z, if_pos rfl] at hk
      exact q_add_100 (t := (a, b, kd)) h hr ⟨ha, hb, ⟨by show 0 ≤ kd; omega, by show kd < 8; omega⟩⟩ hl (by rw [z]; exact hk)
  have fin : ∀ (n : Nat) (kd : Int) (L' : List Mv), (if ch then 5 else 2) < kd → kd < 100 → L' = L ++ bec4 a b ch → wp_X8_addMoves_64 D post k10 (n + 1) (cS S o (putR c r L')) (o r) (iI a) x6 (iI L'.length) x9 x11 (iI b) (iI (bI ch)) (iI (if ch then 5 else 2)) (iI kd) := by
    intro n kd L' hk hk2 e
    have h5 : 2 ≤ (if ch then 5 else 2 : Int) ∧ (if ch then 5 else 2 : Int) ≤ 5 := by split <;> decide
    unfold wp_X8_addMoves_64
    have l1 : (iI (if ch then 5 else 2) < iI kd) = True := by rw [iI_lt (by omega) (by omega) (by omega) (by omega)]; exact eq_true hk
    rw [l1]
    refine ⟨fun _ => ?_, fun z => absurd trivial z⟩
    unfold wp_X8_addMoves_113
    intro x1 ex
    rw [e]
    exact k x1 ex
  refine ⟨6, ?_⟩
  cases ch
  · rw [show (if false then 5 else 2 : Int32) = iI (if false then 5 else 2) from rfl, show (2 : Int32) = iI 2 from rfl]
    have hl : (L.length : Int) < 1728 := by simp [bec4] at hL; omega
    refine round 5 2 L (by decide) (by decide) hl ?_
    have := fin 4 3 (L ++ [(a, b, 0)]) (by decide) (by decide) rfl
    rw [List.length_append, List.length_singleton] at this
    push_cast at this
    exact this
  · rw [show (if true then 5 else 2 : Int32) = iI (if true then 5 else 2) from rfl, show (2 : Int32) = iI 2 from rfl]
    have hl : (L.length : Int) + 4 ≤ 1728 := by simp [bec4] at hL; omega
    refine round 5 2 L (by decide) (by decide) (by omega) ?_
    have s1 : ((L ++ [(a, b, (2 : Int))]).length : Int) = L.length + 1 := by simp
    rw [show iI (L.length + 1) = iI ((L ++ [(a, b, (2 : Int))]).length : Int) by rw [s1]]
    refine round 4 3 (L ++ [(a, b, 2)]) (by decide) (by decide) (by rw [s1]; omega) ?_
    have s2 : ((L ++ [(a, b, (2 : Int))] ++ [(a, b, (3 : Int))]).length : Int) = L.length + 2 := by simp
    rw [show iI (((L ++ [(a, b, (2 : Int))]).length : Int) + 1) = iI ((L ++ [(a, b, (2 : Int))] ++ [(a, b, (3 : Int))]).length : Int) by rw [s2, s1]; rfl]
    refine round 3 4 (L ++ [(a, b, 2)] ++ [(a, b, 3)]) (by decide) (by decide) (by rw [s2]; omega) ?_
    have s3 : ((L ++ [(a, b, (2 : Int))] ++ [(a, b, (3 : Int))] ++ [(a, b, (4 : Int))]).length : Int) = L.length + 3 := by simp
    rw [show iI (((L ++ [(a, b, (2 : Int))] ++ [(a, b, (3 : Int))]).length : Int) + 1) = iI ((L ++ [(a, b, (2 : Int))] ++ [(a, b, (3 : Int))] ++ [(a, b, (4 : Int))]).length : Int) by rw [s3, s2]; rfl]
    refine round 2 5 (L ++ [(a, b, 2)] ++ [(a, b, 3)] ++ [(a, b, 4)]) (by decide) (by decide) (by rw [s3]; omega) ?_
    have s4 : ((L ++ [(a, b, (2 : Int))] ++ [(a, b, (3 : Int))] ++ [(a, b, (4 : Int))] ++ [(a, b, (5 : Int))]).length : Int) = L.length + 4 := by simp
    rw [show iI (((L ++ [(a, b, (2 : Int))] ++ [(a, b, (3 : Int))] ++ [(a, b, (4 : Int))]).length : Int) + 1) = iI ((L ++ [(a, b, (2 : Int))] ++ [(a, b, (3 : Int))] ++ [(a, b, (4 : Int))] ++ [(a, b, (5 : Int))]).length : Int) by rw [s4, s3]; rfl]
    exact fin 1 6 _ (by decide) (by decide) (by simp [bec4])
theorem q_add_10 {post : Int32 → wS → Prop} (h : CC D S o) (hr : isR r) {a : Int} {T Ch : Int → Bool} (ha : 0 ≤ a ∧ a < 64) {G : List Mv} (hG : (G.length : Int) ≤ 1728) (k : post (iI G.length) (cS S o (putR c r G))) :
    ∀ (n : Nat) (m i : Int) (L : List Mv), 64 < m + n → 0 ≤ i → i ≤ m → m ≤ 64 → L ++ mToG T Ch a m (64 - m).toNat = G →
    wp_X8_addMoves_10 D post n (cS S o (putR c r L)) (o r) (iI a) (zS Ch) (iI L.length) (zS (fun b => T b && decide (m ≤ b))) (iI i) := by
  intro n
  induction n with
  | zero => intro m i L h1 h2 h3 h5; omega
  | succ n ih =>
    intro m i L h1 h2 h3 h5 hLG
    have full : (∀ b : Int, 0 ≤ b → b < 64 → m ≤ b → T b = false) → post (iI L.length) (cS S o (putR c r L)) := fun hf => by
      rw [mToG_0 _ m (fun j g1 g2 => hf j (by omega) (by omega) g1), List.append_nil] at hLG
      rw [hLG]; exact k
    unfold wp_X8_addMoves_10 wp_X8_addMoves_119
    have l64 : ((64 : Int32) ≤ iI i) = (64 ≤ i) := by rw [show (64 : Int32) = iI 64 from rfl, iI_le (by decide) (by decide) (by omega) (by omega)]
    simp only [l64, lg_cmp_eq, zS_0]
    refine ⟨fun q => full fun b g0 g1 g2 => by omega, fun q => ⟨fun q2 => full fun b g0 g1 g2 => ?_, fun q2 => ?_⟩⟩
    · have := q2 b g0 g1
      rw [decide_eq_true g2, Bool.and_true] at this
      exact this
    · obtain ⟨b, b1, b2, b3, b4⟩ := least_from (show 0 ≤ m by omega) q2
      refine q_low (n := b) ⟨by omega, b2⟩ (by rw [b3, decide_eq_true b1]; rfl) (fun j g0 g1 => ?_) ?_
      · by_cases g : m ≤ j
        · rw [b4 j g g1]; rfl
        · rw [decide_eq_false g, Bool.and_false]
      · intro x5 e5
        rw [rest_from (by omega) b1 b3 b4] at e5
        rw [e5, q_contains _ (show 0 ≤ b ∧ b < 64 by omega)]
        have hsk := mToG_skip (T := T) (Ch := Ch) (a := a) (b - m).toNat (64 - b).toNat m (fun j g1 g2 => b4 j g1 (by omega))
        rw [show (b - m).toNat + (64 - b).toNat = (64 - m).toNat by omega, show m + ((b - m).toNat : Int) = b by omega, show (64 - b).toNat = (64 - (b + 1)).toNat + 1 by omega] at hsk
        have hst : mToG T Ch a b ((64 - (b + 1)).toNat + 1) = bec4 a b (Ch b) ++ mToG T Ch a (b + 1) (64 - (b + 1)).toNat := by
          show (if T b then bec4 a b (Ch b) else []) ++ _ = _
          rw [b3]; rfl
        rw [hsk, hst, ← List.append_assoc] at hLG
        have hlen : ((L ++ bec4 a b (Ch b)).length : Int) ≤ 1728 := by
          rw [← hLG, List.length_append] at hG
          push_cast at hG ⊢
          omega
        have at59 := q_add_59 (post := post) (k10 := wp_X8_addMoves_10 D post n) (x6 := zS Ch) (x9 := zS (fun b_1 => T b_1 && decide (b + 1 ≤ b_1))) (x11 := iI i) (ch := Ch b) (L := L) (c := c) h hr ha (show 0 ≤ b ∧ b < 64 by omega) hlen (fun x1 ex => by
          rw [ex, show (1 : Int32) = iI 1 from rfl, iI_add]
          exact ih (b + 1) (i + 1) _ (by omega) (by omega) (by omega) (by omega) hLG)
        rw [bF]
        refine ⟨fun z => ?_, fun z => ?_⟩
        · rw [z] at at59 ⊢; exact at59
        · have z : Ch b = true := by simpa using z
          rw [z] at at59 ⊢; exact at59
theorem q_addMoves {post : Int32 → wS → Prop} (h : CC D S o) (hr : isR r) {a : Int} {T Ch : Int → Bool} (ha : 0 ≤ a ∧ a < 64) {L : List Mv} (hG : ((L ++ mToG T Ch a 0 64).length : Int) ≤ 1728)
    (k : post (iI (L ++ mToG T Ch a 0 64).length) (cS S o (putR c r (L ++ mToG T Ch a 0 64)))) : wp_X8_addMoves D post (cS S o (putR c r L)) (o 10) (o r) (iI L.length) (iI a) (zS T) (zS Ch) := by
  unfold wp_X8_addMoves wp_X8_addMoves_0
  refine ⟨65, ?_⟩
  have e2 : zS T = zS (fun b => T b && decide (0 ≤ b)) := zS_congr fun b g0 g1 => by rw [decide_eq_true g0, Bool.and_true]
  rw [e2, show (0 : Int32) = iI 0 from rfl]
  exact q_add_10 h hr ha hG k 65 0 0 L (by decide) (by decide) (by decide) (by decide) rfl
end
