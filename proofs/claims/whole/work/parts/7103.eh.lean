/-- the first places of a row filled -/
def filR (c : cM) (r : Nat) (n v : Int) : cM := (fun g j => if g = r ∧ 0 ≤ j ∧ j < n then v else c.1 g j, c.2)
theorem filR_0 (c : cM) (r : Nat) (v : Int) : filR c r 0 v = c := by
  refine Prod.ext (funext fun g => funext fun j => ?_) rfl
  show (if g = r ∧ 0 ≤ j ∧ j < 0 then v else c.1 g j) = _
  rw [if_neg (by omega)]
theorem filR_s (c : cM) (r : Nat) {n : Int} (v : Int) (hn : 0 ≤ n) : cI (filR c r n v) r n v = filR c r (n + 1) v := by
  refine Prod.ext (funext fun g => funext fun j => ?_) rfl
  show up (filR c r n v).1 r n v g j = (if g = r ∧ 0 ≤ j ∧ j < n + 1 then v else c.1 g j)
  by_cases z : g = r ∧ j = n
  · rw [z.1, z.2, up_at, if_pos ⟨rfl, hn, by omega⟩]
  · rw [up_ne _ (by omega)]
    show (if g = r ∧ 0 ≤ j ∧ j < n then v else c.1 g j) = _
    by_cases w : g = r ∧ 0 ≤ j ∧ j < n
    · rw [if_pos w, if_pos ⟨w.1, w.2.1, by omega⟩]
    · rw [if_neg w, if_neg (by omega)]
theorem filR_sim (c : cM) (r : Nat) (n v : Int) : cSim [r] c (filR c r n v) := fun g hg => ⟨funext fun j => by
  show (if g = r ∧ 0 ≤ j ∧ j < n then v else c.1 g j) = _
  rw [if_neg (fun z => hg (by rw [z.1]; simp))], rfl⟩
theorem filR_at (c : cM) (r : Nat) (n v : Int) {j : Int} (h0 : 0 ≤ j) (h1 : j < n) : (filR c r n v).1 r j = v := by
  show (if r = r ∧ 0 ≤ j ∧ j < n then v else c.1 r j) = v
  rw [if_pos ⟨rfl, h0, h1⟩]
section
variable {D : wD} {S : wS} {o : Nat → Nat} {c : cM} {F R : Int} {v : Int → Int} {post : Int32 → wS → Prop} {xp : String → wS → Prop}
theorem q_fillC {post : wS → Prop} (h : CC D S o) {r : Nat} (hr : cOk r = true) (hl : cln r < 100000) {x : Int} (k : post (cS S o (filR c r (cln r) x))) : wp_J7_fill_53178 D post (cS S o c) (o r) (iI x) := by
  unfold wp_J7_fill_53178 wp_J7_fill_53178_0
  intro x1 e1
  rw [c_n h (cOk_lt hr), show Int32.ofNat (cln r) = iI ((cln r : Nat) : Int) from rfl] at e1
  rw [e1]
  refine ⟨cln r + 1, ?_⟩
  have loop : ∀ (n d : Nat) (j : Int), d < n → j + d = (cln r : Int) → 0 ≤ j → wp_J7_fill_53178_5 D post n (cS S o (filR c r j x)) (o r) (iI x) (iI j) (iI ((cln r : Nat) : Int)) := by
    intro n
    induction n with
    | zero => intro d j hd; omega
    | succ n ih =>
      intro d j hd hj h0
      unfold wp_J7_fill_53178_5
      rw [iI_le (by omega) (by omega) (by omega) (by omega)]
      refine ⟨fun q => ?_, fun q => ?_⟩
      · rw [show j = (cln r : Int) by omega]; exact k
      · have w := c_wrow (D := D) (c := filR c r j x) h hr h0 (by omega) hl
        refine ⟨w.1, w.2, ?_⟩
        intro S3 e3 x4 e4
        rw [c_u h hr h0 (by omega), filR_s c r x h0] at e3
        rw [e3, e4, show (1 : Int32) = iI 1 from rfl, iI_add]
        exact ih (d - 1) (j + 1) (by omega) (by omega) (by omega)
  have := loop (cln r + 1) (cln r) 0 (by omega) (by omega) (by decide)
  rw [filR_0] at this
  exact this
/-- the endings forgotten -/
def forgM (c : cM) : cM := filR (filR (filR c 47 6 0) 48 6 (-1)) 46 6 0
theorem forgM_sim (c : cM) : cSim [46, 47, 48] c (forgM c) := (((filR_sim c 47 6 0).mono (by decide)).trans ((filR_sim _ 48 6 (-1)).mono (by decide))).trans ((filR_sim _ 46 6 0).mono (by decide))
theorem q_forget {post : wS → Prop} (h : CC D S o) (k : post (cS S o (forgM c))) : wp_X2_forget D post (cS S o c) (o 45) := by
  unfold wp_X2_forget wp_X2_forget_0
  refine ⟨o 47, c_r h rfl, (c_m h (by decide)).mpr trivial, c_k h (by decide), ?_⟩
  rw [show (0 : Int32) = iI 0 from rfl]
  refine q_fillC h (r := 47) (by decide) (by decide) ?_
  refine ⟨o 48, c_r h rfl, (c_m h (by decide)).mpr trivial, c_k h (by decide), ?_⟩
  rw [show (-1 : Int32) = iI (-1) from rfl]
  refine q_fillC h (r := 48) (by decide) (by decide) ?_
  refine ⟨7, ?_⟩
  have loop : ∀ (n d : Nat) (j : Int), d < n → j + d = 6 → 0 ≤ j → wp_X2_forget_18 D post n (cS S o (filR (filR (filR c 47 6 0) 48 6 (-1)) 46 j 0)) (o 45) (iI j) := by
    intro n
    induction n with
    | zero => intro d j hd; omega
    | succ n ih =>
      intro d j hd hj h0
      unfold wp_X2_forget_18
      refine ⟨o 46, c_r h rfl, (c_m h (by decide)).mpr trivial, c_k h (by decide), ?_⟩
      rw [c_n h (by decide), show Int32.ofNat (cln 46) = iI 6 from rfl, iI_le (by decide) (by decide) (by omega) (by omega)]
      refine ⟨fun q => ?_, fun q => ⟨o 46, c_r h rfl, (c_m h (by decide)).mpr trivial, c_k h (by decide), ?_⟩⟩
      · have : j = 6 := by omega
        subst this; exact k
      · have w := c_wrow (D := D) (c := filR (filR (filR c 47 6 0) 48 6 (-1)) 46 j 0) h (g := 46) (by decide) h0 (show j < ((cln 46 : Nat) : Int) by have : ((cln 46 : Nat) : Int) = 6 := rfl; omega) (by decide)
        refine ⟨w.1, w.2, ?_⟩
        intro S5 e5 x6 e6
        rw [show vp_nar .boolean (0 : Int32) = iI 0 from by decide, c_u h (by decide) h0 (by omega), filR_s _ 46 0 h0] at e5
        rw [e5, e6, show (1 : Int32) = iI 1 from rfl, iI_add]
        exact ih (d - 1) (j + 1) (by omega) (by omega) (by omega)
  have := loop 7 6 0 (by decide) (by decide) (by decide)
  rw [filR_0] at this
  exact this
theorem q_askC (h : CC D S o) (hB : BG c F R) {sq x : Int} (hq : i32 sq) (hx : i32 x) (hr : ∀ k : Int, 0 ≤ k → k < 64 → 0 ≤ c.1 51 k ∧ c.1 51 k ≤ 15)
    (k1 : inB sq 0 (F * R - 1) = false → xp "java/lang/IndexOutOfBoundsException" (cS S o c)) (k2 : inB sq 0 (F * R - 1) = true → inB x 0 15 = false → xp "java/lang/IllegalArgumentException" (cS S o c))
    (k3 : inB sq 0 (F * R - 1) = true → inB x 0 15 = true → post (iI (c.1 51 sq)) (cS S o (cI c 51 sq x))) : wp_X11_ask D post xp (cS S o c) (o 0) (iI sq) (iI x) := by
  have hm := hB.m
  unfold wp_X11_ask wp_X11_ask_0 wp_X11_ask_15 wp_X11_ask_52
  refine q_mustBeSquare h hB hq k1 fun q => ?_
  have q2 := inB_iff.mp q
  rw [show (0 : Int32) = iI 0 from rfl, show (15 : Int32) = iI 15 from rfl, iI_lt hx.1 hx.2 (by decide) (by decide), iI_le hx.1 hx.2 (by decide) (by decide)]
  refine ⟨fun z => k2 q ?_, fun z => ⟨fun y => ⟨o 51, c_r h rfl, (c_m h (by decide)).mpr trivial, c_k h (by decide), ?_⟩, fun y => k2 q ?_⟩⟩
  · unfold inB; rw [decide_eq_false (by omega)]; rfl
  · have k3 := k3 q (inB_iff.mpr ⟨by omega, y⟩)
    rw [c_n h (by decide), show Int32.ofNat (cln 51) = iI 64 from rfl, iI_le (by decide) (by decide) (by omega) (by omega)]
    refine ⟨fun w => absurd w (by omega), fun _ => ⟨o 51, c_r h rfl, (c_m h (by decide)).mpr trivial, c_k h (by decide), ?_⟩⟩
    have wr := c_wrow (D := D) (c := c) h (g := 51) (by decide) q2.1 (show sq < ((cln 51 : Nat) : Int) by have : ((cln 51 : Nat) : Int) = 64 := rfl; omega) (by decide)
    refine ⟨wr.2, ?_⟩
    intro x9 e9
    refine ⟨o 51, c_r h rfl, (c_m h (by decide)).mpr trivial, c_k h (by decide), wr.1, wr.2, ?_⟩
    intro S12 e12
    rw [c_u h (by decide) q2.1 (by omega)] at e12
    rw [e12, e9, c_i h (by decide) q2.1 (by omega)]
    exact k3
  · unfold inB; rw [decide_eq_false (show ¬ x ≤ 15 from y), Bool.and_false]
theorem q_fits_2C (h : CC D S o) (hB : BG c F R) {p : Nat} (hp : isP p) (hv : okP v) (hA : PAt c p v) {c1 : Int → Int} (h1 : c1 = c.1 51) (hr : ∀ k : Int, 0 ≤ k → k < 64 → 0 ≤ c1 k ∧ c1 k ≤ 15) :
    ∀ (n d : Nat) (j : Int), d < n → j + d = F * R → 0 ≤ j → post (iI (bI (allL (fun j => fitPc (c1 j) (v j)) j d))) (cS S o c) → wp_X7_fits_2 D post n (cS S o c) (o p) (o 51) (iI j) := by
  have hm := hB.m
  intro n
  induction n with
  | zero => intro d j hd; omega
  | succ n ih =>
    intro d j hd hj h0 k
    unfold wp_X7_fits_2
    refine ⟨o 1, c_r h hp.2.2.1, (c_m h (by decide)).mpr trivial, c_k h (by decide), ?_⟩
    have e2 : sI (cS S o c) (o 1) 2 = iI (F * R) := by rw [c_i1 h (by decide) (show ((2 : Nat) : Int) = 2 from rfl)]; exact congrArg iI hB.n
    rw [e2, iI_le (by omega) (by omega) (by omega) (by omega), c_n h (by decide), show Int32.ofNat (cln 51) = iI 64 from rfl, iI_le (by decide) (by decide) (by omega) (by omega)]
    refine ⟨fun q => ?_, fun q => ⟨fun q2 => absurd q2 (by omega), fun _ => ?_⟩⟩
    · unfold wp_X7_fits_114
      rw [show d = 0 by omega] at k
      exact ⟨nr1, k⟩
    · have wr := c_wrow (D := D) (c := c) h (g := 51) (by decide) h0 (show j < ((cln 51 : Nat) : Int) by have : ((cln 51 : Nat) : Int) = 64 := rfl; omega) (by decide)
      have w2 := wr.2
      rw [c_n h (by decide)] at w2
      refine ⟨w2, ?_⟩
      intro x5 e5
      rw [c_i h (by decide) h0 (by omega), ← h1] at e5
      rw [e5, q_pieceOn h hp hv hA (by omega)]
      obtain ⟨d', rfl⟩ : ∃ d', d = d' + 1 := ⟨d - 1, by omega⟩
      unfold allL at k
      have hj1 := hr j h0 (by omega)
      have hj2 := hv j h0 (by omega)
      have a101 : ∀ b : Bool, b = fitPc (c1 j) (v j) → wp_X7_fits_101 D post (wp_X7_fits_2 D post n) (cS S o c) (o p) (o 51) (iI j) (iI (bI b)) := by
        intro b hb
        unfold wp_X7_fits_101
        rw [bI_0]
        refine ⟨fun z x2 f2 => ?_, fun z => ?_⟩
        · rw [← hb, show b = true by simpa using z, Bool.true_and] at k
          rw [f2, show (1 : Int32) = iI 1 from rfl, iI_add]
          exact ih d' (j + 1) (by omega) (by omega) (by omega) k
        · rw [← hb, z, Bool.false_and] at k
          exact ⟨nr0, k⟩
      have a0 := a101 false
      have a1 := a101 true
      unfold wp_X7_fits_94 wp_X7_fits_99 wp_X7_fits_53 wp_X7_fits_54 wp_X7_fits_77
      have l : ∀ m : Int, -2147483648 ≤ m → m < 2147483648 → (iI (c1 j) = iI m) = (c1 j = m) := fun m h1 h2 => by rw [iI_eq (by omega) (by omega) h1 h2]
      have l13 := l 13 (by decide) (by decide); have l14 := l 14 (by decide) (by decide); have l15 := l 15 (by decide) (by decide)
      have lp : (iI (c1 j) = iI (v j)) = (c1 j = v j) := by rw [iI_eq (by omega) (by omega) (by omega) (by omega)]
      have m1 : (iI (v j) ≤ iI 6) = (v j ≤ 6) := by rw [iI_le (by omega) (by omega) (by decide) (by decide)]
      have m2 : (iI (v j) < iI 1) = (v j < 1) := by rw [iI_lt (by omega) (by omega) (by decide) (by decide)]
      have m3 : (iI 6 < iI (v j)) = (6 < v j) := by rw [iI_lt (by decide) (by decide) (by omega) (by omega)]
      rw [show (13 : Int32) = iI 13 from rfl, show (14 : Int32) = iI 14 from rfl, show (15 : Int32) = iI 15 from rfl, show (6 : Int32) = iI 6 from rfl, show (1 : Int32) = iI 1 from rfl]
      rw [l13, l14, l15, lp, m1, m2, m3]
      have f13 : c1 j = 13 → fitPc (c1 j) (v j) = isOfB (v j) 1 := fun z => by unfold fitPc; rw [z]; rfl
      have f14 : c1 j = 14 → fitPc (c1 j) (v j) = isOfB (v j) 0 := fun z => by unfold fitPc; rw [z]; rfl
      have f15 : c1 j = 15 → fitPc (c1 j) (v j) = true := fun z => by unfold fitPc; rw [z]; rfl
      have fe : c1 j ≠ 13 → c1 j ≠ 14 → c1 j ≠ 15 → fitPc (c1 j) (v j) = decide (c1 j = v j) := fun z1 z2 z3 => by unfold fitPc; rw [if_neg z3, if_neg z1, if_neg z2]
      have o1 : isOfB (v j) 1 = decide (1 ≤ v j ∧ v j ≤ 6) := by rcases kind_cases hj2 with e | e | e | e | e | e | e | e | e | e | e | e | e <;> rw [e] <;> rfl
      have o0 : isOfB (v j) 0 = decide (6 < v j) := by rcases kind_cases hj2 with e | e | e | e | e | e | e | e | e | e | e | e | e <;> rw [e] <;> rfl
      refine ⟨fun z13 => ⟨fun z14 => ⟨fun z15 => a1 (f15 z15).symm, fun z15 => ⟨fun w => a0 ?_, fun w => a1 ?_⟩⟩, fun z14 => ⟨fun w => a0 ?_, fun w => a1 ?_⟩⟩, fun z13 => ⟨fun w => a0 ?_, fun w => ⟨fun w2 => a0 ?_, fun w2 => a1 ?_⟩⟩⟩
      · rw [fe z13 z14 z15, decide_eq_false w]
      · rw [fe z13 z14 z15, decide_eq_true w]
      · rw [f14 z14, o0, decide_eq_false (by omega)]
      · rw [f14 z14, o0, decide_eq_true (by omega)]
      · rw [f13 z13, o1, decide_eq_false (by omega)]
      · rw [f13 z13, o1, decide_eq_false (by omega)]
      · rw [f13 z13, o1, decide_eq_true (by omega)]
theorem q_fitsC (h : CC D S o) (hB : BG c F R) {p : Nat} (hp : isP p) (hv : okP v) (hA : PAt c p v) (hr : ∀ k : Int, 0 ≤ k → k < 64 → 0 ≤ c.1 51 k ∧ c.1 51 k ≤ 15) (k : post (iI (bI (holdsB F R (c.1 51) v))) (cS S o c)) : wp_X7_fits D post (cS S o c) (o p) (o 51) := by
  have hm := hB.m
  unfold wp_X7_fits wp_X7_fits_0
  exact ⟨65, q_fits_2C h hB hp hv hA rfl hr 65 (F * R).toNat 0 (by omega) (by omega) (by decide) k⟩
theorem q_holdsC (h : CC D S o) (hB : BG c F R) (hv : okP v) (hA : PAt c 11 v) (hr : ∀ k : Int, 0 ≤ k → k < 64 → 0 ≤ c.1 51 k ∧ c.1 51 k ≤ 15) (k : post (iI (bI (holdsB F R (c.1 51) v))) (cS S o c)) : wp_X11_holds D post (cS S o c) (o 0) := by
  unfold wp_X11_holds wp_X11_holds_0
  refine ⟨o 11, c_r h rfl, (c_m h (by decide)).mpr trivial, c_k h (by decide), o 51, c_r h rfl, (c_m h (by decide)).mpr trivial, c_k h (by decide), ?_⟩
  exact q_fitsC h hB isP11 hv hA hr ⟨nr_b _, k⟩
end
