section
variable {D : wD} {S : wS} {o : Nat → Nat} {c : cM} {F R : Int} {p : Nat} {v : Int → Int}
theorem q_rankAt {post : Int32 → wS → Prop} (h : CC D S o) (hB : BG c F R) {a : Int} (ha : 0 ≤ a ∧ a < F * R) (k : post (iI (a / F)) (cS S o c)) : wp_X0_rankAt D post (cS S o c) (o 1) (iI a) := by
  have hm := hB.m
  unfold wp_X0_rankAt wp_X0_rankAt_0 wp_X0_rankAt_20
  have l1 : (iI a < 0) = False := by rw [show (0 : Int32) = iI 0 from rfl, iI_lt (by omega) (by omega) (by decide) (by decide)]; exact eq_false (by omega)
  have l2 : ((64 : Int32) ≤ iI a) = False := by rw [show (64 : Int32) = iI 64 from rfl, iI_le (by decide) (by decide) (by omega) (by omega)]; exact eq_false (by omega)
  rw [l1, l2]
  refine ⟨fun hh => hh.elim, fun _ => ⟨fun hh => hh.elim, fun _ => ⟨o 3, c_r h rfl, (c_m h (by decide)).mpr trivial, c_k h (by decide), (c_n h (n := 3) (by decide)).symm ▸ (iI_in (by omega) (by omega) (by omega) : vp_in (iI a) 64), ?_⟩⟩⟩
  rw [c_i h (by decide) (by omega) (by omega), hB.rank ha.1 ha.2]
  exact k
theorem q_fileAt {post : Int32 → wS → Prop} (h : CC D S o) (hB : BG c F R) {a : Int} (ha : 0 ≤ a ∧ a < F * R) (k : post (iI (a % F)) (cS S o c)) : wp_X0_fileAt D post (cS S o c) (o 1) (iI a) := by
  have hm := hB.m
  unfold wp_X0_fileAt wp_X0_fileAt_0 wp_X0_fileAt_20
  have l1 : (iI a < 0) = False := by rw [show (0 : Int32) = iI 0 from rfl, iI_lt (by omega) (by omega) (by decide) (by decide)]; exact eq_false (by omega)
  have l2 : ((64 : Int32) ≤ iI a) = False := by rw [show (64 : Int32) = iI 64 from rfl, iI_le (by decide) (by decide) (by omega) (by omega)]; exact eq_false (by omega)
  rw [l1, l2]
  refine ⟨fun hh => hh.elim, fun _ => ⟨fun hh => hh.elim, fun _ => ⟨o 2, c_r h rfl, (c_m h (by decide)).mpr trivial, c_k h (by decide), (c_n h (n := 2) (by decide)).symm ▸ (iI_in (by omega) (by omega) (by omega) : vp_in (iI a) 64), ?_⟩⟩⟩
  rw [c_i h (by decide) (by omega) (by omega), hB.file ha.1 ha.2]
  exact k
theorem bF (b : Bool) : (iI (bI b) = 0) = (b = false) := by cases b <;> decide
theorem q_pawnAims {post : Int64 → wS → Prop} (h : CC D S o) (hB : BG c F R) (hp : isP p) (hv : okV F R v) (hb : brd F R v) (hA : PAt c p v) (hR : RA c F R v) {a : Int} (ha : 0 ≤ a ∧ a < F * R)
    (k : post (zS (pawnAB F R v a)) (cS S o c)) : wp_X8_pawnAims D post (cS S o c) (o 10) (o p) (iI a) := by
  have hm := hB.m
  have h4 := hB.f4; have h8 := hB.f8; have r4 := hB.r4; have r8 := hB.r8
  have hs : v 64 = 0 ∨ v 64 = 1 := by have := hv.s; omega
  have hu := upB_ne (v 64)
  have s5 : sI (cS S o c) (o p) 5 = iI (v 64) := by rw [c_i1 h hp.1 (show ((5 : Nat) : Int) = 5 from rfl)]; exact congrArg iI hA.2.2.2.2.1
  have s7 : sI (cS S o c) (o p) 7 = iI (v 66) := by rw [c_i1 h hp.1 (show ((7 : Nat) : Int) = 7 from rfl)]; exact congrArg iI hA.2.2.2.2.2.2
  have s0 : sI (cS S o c) (o 1) 0 = iI F := by rw [c_i1 h (by decide) (show ((0 : Nat) : Int) = 0 from rfl)]; exact congrArg iI hB.f
  have s1 : sI (cS S o c) (o 1) 1 = iI R := by rw [c_i1 h (by decide) (show ((1 : Nat) : Int) = 1 from rfl)]; exact congrArg iI hB.r
  have z2 : sJ (cS S o c) (o 10) 2 = zS (occB v) := by rw [c_j1 h (by decide) (show ((2 : Nat) : Int) = 2 from rfl)]; exact hR.2.1
  have hz : (iI (v 64) = 0) = (v 64 = 0) := by rw [show (0 : Int32) = iI 0 from rfl, iI_eq (by omega) (by omega) (by decide) (by decide)]
  have he := hv.e
  have hfr : -8 ≤ upB (v 64) * F ∧ upB (v 64) * F ≤ 8 := by rcases hu with hu | hu <;> rw [hu] <;> omega
  generalize hfw : upB (v 64) * F = fw at hfr
  -- the part that is taken
  have at150 : ∀ P : Int → Bool, (∀ b : Int, 0 ≤ b → b < 64 → P b = (inB (a + fw) 0 (F * R - 1) && !occB v (a + fw) && (decide (b = a + fw) || (decide (a / F = if v 64 = 1 then 1 else R - 2) && decide (6 ≤ R) && !occB v (a + fw + fw) && decide (b = a + fw + fw))))) →
      wp_X8_pawnAims_150 D post (cS S o c) (o 10) (o p) (iI a) (iI (v 64)) (zS P) := by
    intro P hP
    have at160 : ∀ u : Int, u = 1 - v 64 → wp_X8_pawnAims_160 D post (cS S o c) (o 10) (o p) (iI a) (iI (v 64)) (zS P) (o p) (iI u) := by
      intro u hue
      have at184 : ∀ Q : Int → Bool, (∀ b : Int, 0 ≤ b → b < 64 → Q b = (isOfB (v b) (1 - v 64) || (!decide (v 66 = -1) && decide (b = v 66)))) → wp_X8_pawnAims_184 D post (cS S o c) (o 10) (iI a) (iI (v 64)) (zS P) (zS Q) := by
        intro Q hQ
        unfold wp_X8_pawnAims_184
        refine ⟨o 1, c_r h rfl, (c_m h (by decide)).mpr trivial, c_k h (by decide), ?_⟩
        refine zS_at1 h hB ha hs ?_
        rw [zS_and, zS_or]
        have e : zS (fun b => P b || (aimB F R a (if v 64 = 1 then 1 else -1) b && Q b)) = zS (pawnAB F R v a) := zS_congr fun b h0 h1 => by
          unfold pawnAB
          rw [hfw, hP b h0 h1, hQ b h0 h1]; rfl
        rw [e]; exact k
      unfold wp_X8_pawnAims_160
      rw [q_ofSide h hp hv.p hA (by omega), s7]
      have l7 : (iI (v 66) = (-1 : Int32)) = (v 66 = -1) := by rw [show (-1 : Int32) = iI (-1) from rfl, iI_eq (by omega) (by omega) (by decide) (by decide)]
      rw [l7]
      refine ⟨fun q => at184 _ fun b _ _ => by rw [hue, decide_eq_true q]; simp, fun q x4 e4 => ?_⟩
      rw [zS_one (show 0 ≤ v 66 ∧ v 66 < 64 by omega), zS_or] at e4
      rw [e4]
      exact at184 _ fun b _ _ => by rw [hue, decide_eq_false q]; simp
    unfold wp_X8_pawnAims_150
    rw [hz]
    exact ⟨fun z => at160 0 (by omega), fun z => at160 1 (by omega)⟩
  have at27 : wp_X8_pawnAims_27 D post (cS S o c) (o 10) (o p) (iI a) (iI (v 64)) (iI fw) := by
    unfold wp_X8_pawnAims_27
    intro x1 e1
    rw [iI_add] at e1
    rw [e1]
    refine ⟨o 1, c_r h rfl, (c_m h (by decide)).mpr trivial, c_k h (by decide), ?_⟩
    rw [q_has h hB ⟨by omega, by omega⟩]
    rw [bF]
    refine ⟨fun q => ?_, fun q => ?_⟩
    · rw [zS_f]
      exact at150 _ fun b _ _ => by rw [q]; rfl
    · have hin : inB (a + fw) 0 (F * R - 1) = true := by simpa using q
      have hrg : 0 ≤ a + fw ∧ a + fw < F * R := by
        unfold inB at hin; simp only [Bool.and_eq_true, decide_eq_true_eq] at hin; omega
      rw [z2, q_contains _ (show 0 ≤ a + fw ∧ a + fw < 64 by omega), bF]
      refine ⟨fun q2 => ?_, fun q2 => ?_⟩
      · rw [zS_f]
        have : occB v (a + fw) = true := by simpa using q2
        exact at150 _ fun b _ _ => by rw [this]; simp
      · intro x9 e9
        rw [zS_one (show 0 ≤ a + fw ∧ a + fw < 64 by omega), zS_f, zS_or] at e9
        refine ⟨o 1, c_r h rfl, (c_m h (by decide)).mpr trivial, c_k h (by decide), ?_⟩
        refine q_rankAt h hB ha ?_
        have hak : 0 ≤ a / F ∧ a / F < 64 := by rcases F_cases h4 h8 with rfl | rfl | rfl | rfl | rfl <;> omega
        have at104 : ∀ sec : Bool, sec = decide (a / F = if v 64 = 1 then 1 else R - 2) → wp_X8_pawnAims_104 D post (cS S o c) (o 10) (o p) (iI a) (iI (v 64)) (iI fw) x9 (iI (a + fw)) (iI (bI sec)) := by
          intro sec hsec
          unfold wp_X8_pawnAims_104
          rw [bF, e9]
          refine ⟨fun q3 => at150 _ fun b _ _ => ?_, fun q3 => ?_⟩
          · rw [hin, q2, ← hsec, q3]; simp
          · have st : sec = true := by simpa using q3
            refine ⟨o 1, c_r h rfl, (c_m h (by decide)).mpr trivial, c_k h (by decide), ?_⟩
            have l6 : (iI R < (6 : Int32)) = (R < 6) := by rw [show (6 : Int32) = iI 6 from rfl, iI_lt (by omega) (by omega) (by decide) (by decide)]
            rw [s1, l6]
            refine ⟨fun q4 => at150 _ fun b _ _ => ?_, fun q4 => ?_⟩
            · rw [hin, q2, decide_eq_false (show ¬ 6 ≤ R by omega)]; simp
            · have hsq : a / F = if v 64 = 1 then 1 else R - 2 := of_decide_eq_true (hsec ▸ st)
              have hrg2 : 0 ≤ a + fw + fw ∧ a + fw + fw < F * R := by
                rcases hs with e | e <;> rw [e] at hsq hfw <;> simp only [upB, Int.reduceEq, if_true, if_false] at hsq hfw <;> rcases F_cases h4 h8 with rfl | rfl | rfl | rfl | rfl <;> omega
              rw [iI_add, z2, q_contains _ (show 0 ≤ a + fw + fw ∧ a + fw + fw < 64 by omega), bF]
              refine ⟨fun q5 => at150 _ fun b _ _ => ?_, fun q5 x7 e7 => ?_⟩
              · have : occB v (a + fw + fw) = true := by simpa using q5
                rw [hin, q2, this]; simp
              · rw [zS_one (show 0 ≤ a + fw + fw ∧ a + fw + fw < 64 by omega), zS_or] at e7
                rw [e7]
                refine at150 _ fun b _ _ => ?_
                rw [hin, q2, q5, ← hsec, st, decide_eq_true (show 6 ≤ R by omega)]; simp
        have at96 : ∀ t : Int, t = (if v 64 = 1 then 1 else R - 2) → wp_X8_pawnAims_96 D post (cS S o c) (o 10) (o p) (iI a) (iI (v 64)) (iI fw) x9 (iI (a + fw)) (iI (a / F)) (iI t) := by
          intro t ht
          unfold wp_X8_pawnAims_96
          have lt : (iI (a / F) = iI t) = (a / F = t) := by rw [iI_eq (by omega) (by omega) (by rw [ht]; split <;> omega) (by rw [ht]; split <;> omega)]
          rw [lt]
          exact ⟨fun q => at104 false (by rw [← ht, decide_eq_false q]), fun q => at104 true (by rw [← ht, decide_eq_true q])⟩
        rw [hz]
        refine ⟨fun q => ⟨o 1, c_r h rfl, (c_m h (by decide)).mpr trivial, c_k h (by decide), ?_⟩, fun q => at96 1 (by rw [if_pos (by omega)])⟩
        rw [s1, show (2 : Int32) = iI 2 from rfl, iI_sub]
        exact at96 _ (by rw [if_neg (by omega)])
  unfold wp_X8_pawnAims wp_X8_pawnAims_0
  intro x1 e1
  rw [s5] at e1
  rw [e1, hz]
  refine ⟨fun q => ⟨o 1, c_r h rfl, (c_m h (by decide)).mpr trivial, c_k h (by decide), ?_⟩, fun q => ⟨o 1, c_r h rfl, (c_m h (by decide)).mpr trivial, c_k h (by decide), ?_⟩⟩
  · rw [s0, iI_neg]
    have : -F = fw := by rw [← hfw, q]; unfold upB; simp
    rw [this]; exact at27
  · rw [s0]
    have : F = fw := by rw [← hfw, show v 64 = 1 by omega]; unfold upB; simp
    have e : iI F = iI fw := congrArg iI this
    rw [e]; exact at27
end
