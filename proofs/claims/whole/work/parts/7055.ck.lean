section
variable {D : wD} {S : wS} {o : Nat → Nat} {c : cM} {F R : Int} {p : Nat} {v : Int → Int}
theorem lgz (x y : Int64) : (lg_cmp x y = iI 0) = (x = y) := propext (lg_cmp_eq x y)
theorem zcnt_congr {P Q : Int → Bool} (h : ∀ k : Int, 0 ≤ k → k < 64 → P k = Q k) : zcnt P = zcnt Q := by
  unfold zcnt
  exact sumL_congr _ _ fun j h0 h1 => by
    show (if P j = true then (1 : Int) else 0) = if Q j = true then 1 else 0
    rw [h j h0 (by omega)]
theorem zcnt_king {v : Int → Int} (hv : okP v) {s : Int} (hs : s = 0 ∨ s = 1) : zcnt (fun k => decide (kindO (v k) = 1) && (if s = 1 then isOfB (v k) 1 else !isOfB (v k) 1)) = zcnt (fun k => decide (v k = pieceOfB 1 s)) := by
  exact zcnt_congr fun k h0 h1 => king_bits hv hs h0 h1
theorem zcnt_r (P : Int → Bool) : 0 ≤ zcnt P ∧ zcnt P ≤ 64 := by
  have := sumL_r (f := fun k => if P k then 1 else 0) (fun j => by split <;> omega) 0 64
  unfold zcnt
  omega
theorem q_isLawful {post : Int32 → wS → Prop} (h : CC D S o) (hB : BG c F R) (hp : isP p) (hv : okV F R v) (hb : brd F R v) (hA : PAt c p v) (k : post (iI (bI (properB F R v))) (cS S o c)) :
    wp_X7_isLawful D post (cS S o c) (o p) := by
  have hm := hB.m
  have hs : v 64 = 0 ∨ v 64 = 1 := by have := hv.s; omega
  have hn : 0 ≤ F * R ∧ F * R ≤ 64 := ⟨by omega, hm.2⟩
  have e5 : sI (cS S o c) (o p) 5 = iI (v 64) := by rw [c_i0 h hp.1]; exact congrArg iI hA.2.2.2.2.1
  have e1 : sJ (cS S o c) (o p) 1 = plW v := by rw [c_j0 h hp.1]; exact hA.1
  have e3 : sJ (cS S o c) (o 1) 3 = zS (edgeB F R) := by rw [c_j0 h (by decide)]; exact hB.e
  unfold wp_X7_isLawful wp_X7_isLawful_0 wp_X7_isLawful_36
  simp only [iI_lit]
  rw [q_ofKind h hp hv.p hA (by decide), e1]
  unfold plW
  rw [zS_and, q_bitCount]
  have k1 : zcnt (fun k => decide (kindO (v k) = 1) && isOfB (v k) 1) = cntB F R v 1 := by
    rw [← cnt_z hn hb (p := 1) (by decide)]
    exact zcnt_king hv.p (s := 1) (Or.inr rfl)
  have k7 : zcnt (fun k => decide (kindO (v k) = 1) && !isOfB (v k) 1) = cntB F R v 7 := by
    rw [← cnt_z hn hb (p := 7) (by decide)]
    exact zcnt_king hv.p (s := 0) (Or.inl rfl)
  rw [k1]
  have r1 := cntB_r (F := F) (R := R) v 1 hn.1
  have r7 := cntB_r (F := F) (R := R) v 7 hn.1
  have l1 : (iI (cntB F R v 1) = iI 1) = (cntB F R v 1 = 1) := by rw [iI_eq (by omega) (by omega) (by decide) (by decide)]
  have l7 : (iI (cntB F R v 7) = iI 1) = (cntB F R v 7 = 1) := by rw [iI_eq (by omega) (by omega) (by decide) (by decide)]
  rw [l1]
  unfold properB at k
  by_cases c1 : cntB F R v 1 = 1
  · refine ⟨fun hh => absurd c1 hh, fun _ => ?_⟩
    rw [e1]
    unfold plW
    rw [zS_not, zS_and, q_bitCount, k7, l7]
    by_cases c7 : cntB F R v 7 = 1
    · refine ⟨fun _ => ?_, fun hh => absurd c7 hh⟩
      rw [q_ofKind h hp hv.p hA (by decide)]
      refine ⟨o 1, c_r h hp.2.2.1, (c_m h (by decide)).mpr trivial, c_k h (by decide), ?_⟩
      rw [e3, zS_and]
      simp only [lgz, zS_0]
      rw [decide_eq_true c1, decide_eq_true c7, Bool.true_and, Bool.true_and] at k
      by_cases cp : allL (pawnFree F R v) 0 F.toNat = true
      · refine ⟨fun _ => ?_, fun hh => absurd ((edge_pawns hB.f4 hB.f8 hB.r4 hB.r8).mpr cp) hh⟩
        have hk : kingB F R v (1 - v 64) < F * R := by
          refine cnt_king hn.1 ?_
          rcases hs with e | e <;> rw [e]
          · show cntB F R v 1 ≠ 0; omega
          · show cntB F R v 7 ≠ 0; omega
        have hkr := kingB_r (F := F) (R := R) v (1 - v 64) hn.1
        rw [cp, Bool.and_true] at k
        have main : ∀ u : Int, u = 1 - v 64 → wp_X7_isLawful_73 D post (cS S o c) (o p) (o p) (o p) (iI u) := by
          intro u hu
          unfold wp_X7_isLawful_73 wp_X7_isLawful_114 wp_X7_isLawful_115
          refine q_kingOfC h hn hp hv.p hb hA (by omega) ?_
          unfold kingC
          rw [hu, if_pos hk, q_occupied h hp hv.p hA, e5]
          refine q_attackers h hB hp hv.p hA ⟨hkr.1, hk⟩ hs ?_
          simp only [lgz, iI_lit]
          rw [found_zero hB hv.p hb hs ⟨hkr.1, hk⟩]
          have ech : chkB F R v (1 - v 64) = atkB F R v (kingB F R v (1 - v 64)) (v 64) := by
            unfold chkB
            rw [show 1 - (1 - v 64) = v 64 by omega]
          rw [ech] at k
          rw [sound_two hv.r] at k
          refine ⟨fun ha => ?_, fun ha => ⟨nr0, ?_⟩⟩
          · rw [ha] at k
            refine q_hasSoundRights h hB hp hv hA (Or.inr rfl) ?_
            refine ⟨fun g1 => ⟨nr0, ?_⟩, fun g1 => ?_⟩
            · have g1 : soundS F R v 1 = false := by cases q : soundS F R v 1; rfl; rw [q] at g1; exact absurd g1 (by decide)
              rw [g1] at k
              exact k
            · have g1 : soundS F R v 1 = true := by cases q : soundS F R v 1; rw [q] at g1; exact absurd rfl g1; rfl
              rw [g1] at k
              refine q_hasSoundRights h hB hp hv hA (Or.inl rfl) ?_
              refine ⟨fun g0 => ⟨nr0, ?_⟩, fun g0 => ⟨nr1, ?_⟩⟩
              · have g0 : soundS F R v 0 = false := by cases q : soundS F R v 0; rfl; rw [q] at g0; exact absurd g0 (by decide)
                rw [g0] at k
                exact k
              · have g0 : soundS F R v 0 = true := by cases q : soundS F R v 0; rw [q] at g0; exact absurd rfl g0; rfl
                rw [g0] at k
                exact k
          · have ha : atkB F R v (kingB F R v (1 - v 64)) (v 64) = true := by simpa using ha
            rw [ha, Bool.not_true, Bool.and_false] at k
            exact k
        rw [e5]
        rcases hs with hs | hs
        · rw [hs] at main ⊢
          exact ⟨fun hh => absurd rfl hh, fun _ => main 1 rfl⟩
        · rw [hs] at main ⊢
          exact ⟨fun _ => main 0 rfl, fun hh => absurd hh (by decide)⟩
      · refine ⟨fun hh => absurd ((edge_pawns hB.f4 hB.f8 hB.r4 hB.r8).mp hh) cp, fun _ => ⟨nr0, ?_⟩⟩
        have cp : allL (pawnFree F R v) 0 F.toNat = false := by simpa using cp
        rw [cp, Bool.and_false, Bool.false_and] at k
        exact k
    · refine ⟨fun hh => absurd hh c7, fun _ => ⟨nr0, ?_⟩⟩
      rw [decide_eq_false c7, Bool.and_false, Bool.false_and, Bool.false_and, Bool.false_and] at k
      exact k
  · refine ⟨fun _ => ⟨nr0, ?_⟩, fun hh => absurd hh c1⟩
    rw [decide_eq_false c1] at k
    exact k
end
