section
variable {D : wD} {S : wS} {o : Nat → Nat} {c : cM} {F R : Int} {p : Nat} {v : Int → Int} {post : Int32 → wS → Prop} {xp : String → wS → Prop}
theorem bI_sum (f : Mv → Bool) : ∀ L : List Mv, 0 ≤ (L.map fun t => bI (f t)).sum ∧ (L.map fun t => bI (f t)).sum ≤ L.length := by
  intro L
  induction L with
  | nil => simp
  | cons a L ih =>
    simp only [List.map_cons, List.sum_cons, List.length_cons]
    have : 0 ≤ bI (f a) ∧ bI (f a) ≤ 1 := by cases f a <;> decide
    omega
theorem keyCount_r (hf : few F R v) : 0 ≤ keyCountB F R v ∧ keyCountB F R v ≤ 320 := by
  unfold keyCountB
  split
  · decide
  · have := bI_sum (fun t => keyB F R (mkT F R v t) (matesB F R v)) (movesL F R v)
    unfold keysB
    omega
theorem q_firstKeyC (h : CC D S o) (hN : NOW c F R v) (hf : properB F R v = true → few3 F R v)
    (k0 : properB F R v = false → xp "java/lang/IllegalStateException" (cS S o c)) (k1 : properB F R v = true → keyCountB F R v = 0 → ∀ c', cSim [10, 38, 39, 40, 41, 42, 43, 44] c c' → xp "java/util/NoSuchElementException" (cS S o c'))
    (k2 : properB F R v = true → keyCountB F R v ≠ 0 → ∀ c', cSim [10, 38, 39, 40, 41, 42, 43, 44] c c' → post (iI (firstKB F R v (matesB F R v) : Nat)) (cS S o c')) : wp_X11_firstKey D post xp (cS S o c) (o 0) := by
  obtain ⟨hB, hv, hc, hb, he, hA, hL⟩ := id hN
  unfold wp_X11_firstKey wp_X11_firstKey_0
  refine q_mustBeLawful h hB hv hb hA hL k0 fun q => ?_
  refine ⟨o 38, c_r h rfl, (c_m h (by decide)).mpr trivial, c_k h (by decide), o 11, c_r h rfl, (c_m h (by decide)).mpr trivial, c_k h (by decide), ?_⟩
  refine q_findKeysC h hB isP11 (by decide) (by decide) (by decide) (hN.pv q) (hf q).1 (hf q).2.1 (hf q).2.2 hA fun c' hs h7 h8 h9 => ?_
  refine ⟨o 38, c_r h rfl, (c_m h (by decide)).mpr trivial, c_k h (by decide), ?_⟩
  have kr := keyCount_r (hf q).1
  rw [c_i1 h (by decide) (show ((8 : Nat) : Int) = 8 from rfl), h8, show (0 : Int32) = iI 0 from rfl, iI_eq (by omega) (by omega) (by decide) (by decide)]
  refine ⟨fun z => ⟨o 38, c_r h rfl, (c_m h (by decide)).mpr trivial, c_k h (by decide), ?_⟩, fun z => k1 q z c' hs⟩
  rw [c_i1 h (by decide) (show ((9 : Nat) : Int) = 9 from rfl), h9 (fun e => z (by unfold keyCountB; rw [if_pos e]))]
  exact k2 q z c' hs
theorem q_startHereC {n : Int} {w : Int → Int → Int} {mv : Int → Mv} (h : CC D S o) (hA : PAt c 11 v) (hv : rgV v) (hG : PG c n w mv) (k : post (iI n) (cS S o (putS (cI c 13 3 0) 14 0 v))) : wp_X11_startHere D post (cS S o c) (o 0) := by
  unfold wp_X11_startHere wp_X11_startHere_0
  refine ⟨o 13, c_r h rfl, (c_m h (by decide)).mpr trivial, c_k h (by decide), ?_⟩
  intro x2 e2
  refine ⟨o 13, c_r h rfl, (c_m h (by decide)).mpr trivial, c_k h (by decide), o 11, c_r h rfl, (c_m h (by decide)).mpr trivial, c_k h (by decide), ?_⟩
  refine q_begin h isP11 hA hv ?_
  rw [e2, c_i1 h (by decide) (show ((3 : Nat) : Int) = 3 from rfl), hG.1]
  exact k
theorem q_mustBeUnmoved {post : wS → Prop} {n : Int} {w : Int → Int → Int} {mv : Int → Mv} (h : CC D S o) (hG : PG c n w mv) (k0 : 0 < n → xp "java/lang/IllegalStateException" (cS S o c)) (k1 : n = 0 → post (cS S o c)) : wp_X11_mustBeUnmoved D post xp (cS S o c) (o 0) := by
  have hn := hG.2.1
  unfold wp_X11_mustBeUnmoved wp_X11_mustBeUnmoved_0
  refine ⟨o 13, c_r h rfl, (c_m h (by decide)).mpr trivial, c_k h (by decide), ?_⟩
  rw [c_i1 h (by decide) (show ((3 : Nat) : Int) = 3 from rfl), hG.1, show (0 : Int32) = iI 0 from rfl, iI_le (by omega) (by omega) (by decide) (by decide)]
  exact ⟨fun z => k1 (by omega), fun z => k0 (by omega)⟩
theorem pl_cong {v w : Int → Int} (h : ∀ k : Int, 0 ≤ k → k < 64 → v k = w k) : plW v = plW w ∧ ∀ b : Int, plK v b = plK w b :=
  ⟨zS_congr fun k k0 k1 => by rw [h k k0 k1], fun b => zS_congr fun k k0 k1 => by unfold kbit; rw [h k k0 k1]⟩
theorem putP_i (c : cM) {p : Nat} (v : Int → Int) (x : Int) {j g : Int} (hj : (j = 5 ∧ g = 64) ∨ (j = 6 ∧ g = 65) ∨ (j = 7 ∧ g = 66)) : cI (putP c p v) p j x = putP c p (upV v g x) := by
  have hA := putP_at c p v
  have e := pl_cong (v := upV v g x) (w := v) (fun k k0 k1 => by unfold upV; rw [if_neg (by omega)])
  refine putP_char ⟨?_, ?_, ?_, ?_, ?_, ?_, ?_⟩ (fun n i hn => ?_) (fun n i hn => ?_)
  · rw [e.1, cI_2]; exact hA.1
  · rw [e.2, cI_2]; exact hA.2.1
  · rw [e.2, cI_2]; exact hA.2.2.1
  · rw [e.2, cI_2]; exact hA.2.2.2.1
  · unfold upV
    rw [cI_1]
    rcases hj with ⟨rfl, rfl⟩ | ⟨rfl, rfl⟩ | ⟨rfl, rfl⟩
    · rw [up_at]; rfl
    · rw [up_ne _ (Or.inr (by decide))]; exact hA.2.2.2.2.1
    · rw [up_ne _ (Or.inr (by decide))]; exact hA.2.2.2.2.1
  · unfold upV
    rw [cI_1]
    rcases hj with ⟨rfl, rfl⟩ | ⟨rfl, rfl⟩ | ⟨rfl, rfl⟩
    · rw [up_ne _ (Or.inr (by decide))]; exact hA.2.2.2.2.2.1
    · rw [up_at]; rfl
    · rw [up_ne _ (Or.inr (by decide))]; exact hA.2.2.2.2.2.1
  · unfold upV
    rw [cI_1]
    rcases hj with ⟨rfl, rfl⟩ | ⟨rfl, rfl⟩ | ⟨rfl, rfl⟩
    · rw [up_ne _ (Or.inr (by decide))]; exact hA.2.2.2.2.2.2
    · rw [up_ne _ (Or.inr (by decide))]; exact hA.2.2.2.2.2.2
    · rw [up_at]; rfl
  · rw [cI_1, up_ne _ (by rcases hn with h | h; exact Or.inl h; exact Or.inr (by omega))]
    unfold putP
    rcases hn with h | h
    · dsimp only; rw [if_neg h]
    · dsimp only; rw [if_neg (show ¬ i = 5 by omega), if_neg (show ¬ i = 6 by omega), if_neg (show ¬ i = 7 by omega)]; split <;> rfl
  · rw [cI_2]
    unfold putP
    rcases hn with h | h
    · dsimp only; rw [if_neg h]
    · dsimp only; rw [if_neg (show ¬ i = 1 by omega), if_neg (show ¬ i = 2 by omega), if_neg (show ¬ i = 3 by omega), if_neg (show ¬ i = 4 by omega)]; split <;> rfl
/-- behind put -/
def putV2 (v : Int → Int) (sq x : Int) : Int → Int := upV (upV (upV v sq x) 65 0) 66 (-1)
theorem q_putC {n : Int} {w : Int → Int → Int} {mv : Int → Mv} (h : CC D S o) (hB : BG c F R) (hv : okV F R v) (hA : PAt c 11 v) (hG : PG c n w mv) {sq x : Int} (hq : i32 sq) (hx : i32 x)
    (k1 : inB sq 0 (F * R - 1) = false → xp "java/lang/IndexOutOfBoundsException" (cS S o c)) (k2 : inB sq 0 (F * R - 1) = true → inB x 0 12 = false → xp "java/lang/IllegalArgumentException" (cS S o c))
    (k3 : inB sq 0 (F * R - 1) = true → inB x 0 12 = true → 0 < n → xp "java/lang/IllegalStateException" (cS S o c))
    (k4 : inB sq 0 (F * R - 1) = true → inB x 0 12 = true → n = 0 → post (iI (v sq)) (cS S o (putS (cI (putP c 11 (putV2 v sq x)) 13 3 0) 14 0 (putV2 v sq x)))) : wp_X11_put D post xp (cS S o c) (o 0) (iI sq) (iI x) := by
  have hm := hB.m
  unfold wp_X11_put wp_X11_put_0 wp_X11_put_15
  refine q_mustBeSquare h hB hq k1 fun q => ?_
  have q2 := inB_iff.mp q
  rw [show (0 : Int32) = iI 0 from rfl, show (12 : Int32) = iI 12 from rfl, iI_lt hx.1 hx.2 (by decide) (by decide), iI_le hx.1 hx.2 (by decide) (by decide)]
  refine ⟨fun z => k2 q ?_, fun z => ⟨fun y => ?_, fun y => k2 q ?_⟩⟩
  · unfold inB; rw [decide_eq_false (by omega)]; rfl
  · have hin : inB x 0 12 = true := inB_iff.mpr ⟨by omega, y⟩
    refine q_mustBeUnmoved h hG (k3 q hin) fun e => ?_
    refine ⟨o 11, c_r h rfl, (c_m h (by decide)).mpr trivial, c_k h (by decide), ?_⟩
    rw [q_pieceOn h isP11 hv.p hA (by omega)]
    refine ⟨o 11, c_r h rfl, (c_m h (by decide)).mpr trivial, c_k h (by decide), ?_⟩
    refine q_place h isP11 hA (by omega) (by omega) ?_
    refine ⟨o 11, c_r h rfl, (c_m h (by decide)).mpr trivial, c_k h (by decide), ?_⟩
    intro S14 e14
    rw [c_u1 h (by decide) (show ((6 : Nat) : Int) = 6 from rfl), putP_i c _ _ (Or.inr (Or.inl ⟨rfl, rfl⟩))] at e14
    rw [e14]
    refine ⟨o 11, c_r h rfl, (c_m h (by decide)).mpr trivial, c_k h (by decide), ?_⟩
    intro S16 e16
    rw [show (-1 : Int32) = iI (-1) from rfl, c_u1 h (by decide) (show ((7 : Nat) : Int) = 7 from rfl), putP_i c _ _ (Or.inr (Or.inr ⟨rfl, rfl⟩))] at e16
    rw [e16]
    refine ⟨o 13, c_r h rfl, (c_m h (by decide)).mpr trivial, c_k h (by decide), o 11, c_r h rfl, (c_m h (by decide)).mpr trivial, c_k h (by decide), ?_⟩
    have hr : rgV (putV2 v sq x) := by
      have r := hv.rg hm.2
      unfold putV2 upV
      refine ⟨fun k k0 k1 => ?_, ?_, ?_, ?_⟩
      · dsimp only; rw [if_neg (by omega), if_neg (by omega)]
        split
        · omega
        · exact hv.p k k0 k1
      · dsimp only; rw [if_neg (by decide), if_neg (by decide), if_neg (by omega)]; exact hv.s
      · dsimp only; rw [if_neg (by decide), if_pos rfl]; decide
      · dsimp only; rw [if_pos rfl]; decide
    exact q_begin h isP11 (putP_at c 11 _) hr (k4 q hin e)
  · unfold inB; rw [decide_eq_false (show ¬ x ≤ 12 from y), Bool.and_false]
/-- behind setSide -/
def sideV2 (v : Int → Int) (s r : Int) : Int → Int := upV (upV (upV v 64 s) 65 r) 66 (-1)
theorem q_setSideC {n : Int} {w : Int → Int → Int} {mv : Int → Mv} (h : CC D S o) (hB : BG c F R) (hv : okV F R v) (hA : PAt c 11 v) (hG : PG c n w mv) {s r : Int} (hs : s = 0 ∨ s = 1) (hr : i32 r)
    (k2 : inB r 0 15 = false → xp "java/lang/IllegalArgumentException" (cS S o c)) (k3 : inB r 0 15 = true → 0 < n → xp "java/lang/IllegalStateException" (cS S o c))
    (k4 : inB r 0 15 = true → n = 0 → post (iI (v 65)) (cS S o (putS (cI (putP c 11 (sideV2 v s r)) 13 3 0) 14 0 (sideV2 v s r)))) : wp_X11_setSide D post xp (cS S o c) (o 0) (iI s) (iI r) := by
  have hm := hB.m
  unfold wp_X11_setSide wp_X11_setSide_0 wp_X11_setSide_10
  rw [show (0 : Int32) = iI 0 from rfl, show (15 : Int32) = iI 15 from rfl, iI_lt hr.1 hr.2 (by decide) (by decide), iI_le hr.1 hr.2 (by decide) (by decide)]
  refine ⟨fun z => k2 ?_, fun z => ⟨fun y => ?_, fun y => k2 ?_⟩⟩
  · unfold inB; rw [decide_eq_false (by omega)]; rfl
  · have hin : inB r 0 15 = true := inB_iff.mpr ⟨by omega, y⟩
    refine q_mustBeUnmoved h hG (k3 hin) fun e => ?_
    refine ⟨o 11, c_r h rfl, (c_m h (by decide)).mpr trivial, c_k h (by decide), ?_⟩
    intro x6 e6
    refine ⟨o 11, c_r h rfl, (c_m h (by decide)).mpr trivial, c_k h (by decide), ?_, ?_, ?_⟩
    · rcases hs with e | e <;> rw [e]
      · exact nr0
      · exact nr1
    · rcases hs with e | e <;> rw [e] <;> decide
    intro S8 e8
    rw [← putP_self hA, c_u1 h (by decide) (show ((5 : Nat) : Int) = 5 from rfl), putP_i c _ _ (Or.inl ⟨rfl, rfl⟩)] at e8
    rw [e8]
    refine ⟨o 11, c_r h rfl, (c_m h (by decide)).mpr trivial, c_k h (by decide), ?_⟩
    intro S11 e11
    rw [c_u1 h (by decide) (show ((6 : Nat) : Int) = 6 from rfl), putP_i c _ _ (Or.inr (Or.inl ⟨rfl, rfl⟩))] at e11
    rw [e11]
    refine ⟨o 11, c_r h rfl, (c_m h (by decide)).mpr trivial, c_k h (by decide), ?_⟩
    intro S13 e13
    rw [show (-1 : Int32) = iI (-1) from rfl, c_u1 h (by decide) (show ((7 : Nat) : Int) = 7 from rfl), putP_i c _ _ (Or.inr (Or.inr ⟨rfl, rfl⟩))] at e13
    rw [e13]
    refine ⟨o 13, c_r h rfl, (c_m h (by decide)).mpr trivial, c_k h (by decide), o 11, c_r h rfl, (c_m h (by decide)).mpr trivial, c_k h (by decide), ?_⟩
    have hrg : rgV (sideV2 v s r) := by
      unfold sideV2 upV
      refine ⟨fun k k0 k1 => ?_, ?_, ?_, ?_⟩
      · dsimp only; rw [if_neg (by omega), if_neg (by omega), if_neg (by omega)]; exact hv.p k k0 k1
      · dsimp only; rw [if_neg (by decide), if_neg (by decide), if_pos rfl]; omega
      · dsimp only; rw [if_neg (by decide), if_pos rfl]; omega
      · dsimp only; rw [if_pos rfl]; decide
    have e65 : x6 = iI (v 65) := by rw [e6, c_i1 h (by decide) (show ((6 : Nat) : Int) = 6 from rfl)]; exact congrArg iI hA.2.2.2.2.2.1
    rw [e65]
    exact q_begin h isP11 (putP_at c 11 _) hrg (k4 hin e)
  · unfold inB; rw [decide_eq_false (show ¬ r ≤ 15 from y), Bool.and_false]
end
