section
variable {D : wD} {S : wS} {o : Nat → Nat} {c : cM} {F R : Int} {p : Nat} {v : Int → Int}
theorem zS_at1 {post : Int64 → wS → Prop} (h : CC D S o) (hB : BG c F R) {a s : Int} (ha : 0 ≤ a ∧ a < F * R) (hs : s = 0 ∨ s = 1) (k : post (zS (aimB F R a (if s = 1 then 1 else -1))) (cS S o c)) : wp_X0_pawnAimsOf D post (cS S o c) (o 1) (iI a) (iI s) := by
  have hm := hB.m
  unfold wp_X0_pawnAimsOf wp_X0_pawnAimsOf_0 wp_X0_pawnAimsOf_31
  have l1 : (iI a < 0) = False := by rw [show (0 : Int32) = iI 0 from rfl, iI_lt (by omega) (by omega) (by decide) (by decide)]; exact eq_false (by omega)
  have l2 : (iI a < (64 : Int32)) = True := by rw [show (64 : Int32) = iI 64 from rfl, iI_lt (by omega) (by omega) (by decide) (by decide)]; exact eq_true (by omega)
  have hin : vp_in (iI a) 64 := iI_in (by omega) (by omega) (by omega)
  simp only [l1, l2, false_implies, true_implies, not_false_eq_true, not_true_eq_false, true_and, and_true]
  rcases hs with rfl | rfl
  · refine ⟨fun _ => ⟨o 8, c_r h rfl, (c_m h (by decide)).mpr trivial, c_k h (by decide), (c_n h (n := 8) (by decide)).symm ▸ hin, ?_⟩, fun hh => absurd rfl hh⟩
    rw [c_j h (by decide) (by omega) (by omega), hB.ba ha.1 ha.2]
    exact k
  · refine ⟨fun hh => absurd hh (by decide), fun _ => ⟨o 7, c_r h rfl, (c_m h (by decide)).mpr trivial, c_k h (by decide), (c_n h (n := 7) (by decide)).symm ▸ hin, ?_⟩⟩
    rw [c_j h (by decide) (by omega) (by omega), hB.wa ha.1 ha.2]
    exact k
theorem q_attackers {post : Int64 → wS → Prop} (h : CC D S o) (hB : BG c F R) (hp : isP p) (hv : okP v) (hA : PAt c p v) {a s : Int} {occ : Int → Bool} (ha : 0 ≤ a ∧ a < F * R) (hs : s = 0 ∨ s = 1)
    (k : post (zS (foundB F R v occ s a)) (cS S o c)) : wp_X7_attackers D post (cS S o c) (o p) (iI a) (iI s) (zS occ) := by
  have hm := hB.m
  unfold wp_X7_attackers wp_X7_attackers_0
  refine ⟨o 1, c_r h hp.2.2.1, (c_m h (by decide)).mpr trivial, c_k h (by decide), ?_⟩
  have hin : inB a 0 (F * R - 1) = true := by unfold inB; rw [decide_eq_true (by omega), decide_eq_true (by omega)]; rfl
  rw [q_has h hB ⟨by omega, by omega⟩, hin]
  refine ⟨fun _ => ?_, fun hh => absurd hh (by decide)⟩
  simp only [iI_lit]
  have hvi : vp_in (iI a) 64 := iI_in (by omega) (by omega) (by omega)
  rw [q_ofKind h hp hv hA (by decide)]
  refine ⟨o 1, c_r h hp.2.2.1, (c_m h (by decide)).mpr trivial, c_k h (by decide), o 5, c_r h rfl, (c_m h (by decide)).mpr trivial, c_k h (by decide), (c_n h (n := 5) (by decide)).symm ▸ hvi, ?_⟩
  rw [q_ofKind h hp hv hA (by decide)]
  refine ⟨o 1, c_r h hp.2.2.1, (c_m h (by decide)).mpr trivial, c_k h (by decide), o 6, c_r h rfl, (c_m h (by decide)).mpr trivial, c_k h (by decide), (c_n h (n := 6) (by decide)).symm ▸ hvi, ?_⟩
  rw [q_ofKind h hp hv hA (by decide)]
  refine ⟨o 1, c_r h hp.2.2.1, (c_m h (by decide)).mpr trivial, c_k h (by decide), ?_⟩
  rw [c_j h (by decide) (by omega) (by omega), c_j h (by decide) (by omega) (by omega), hB.ks ha.1 ha.2, hB.ns ha.1 ha.2, zS_and, zS_and, zS_or]
  have main : ∀ u : Int, (u = 0 ∨ u = 1) → (if u = 1 then 1 else -1 : Int) = (if s = 1 then -1 else 1) → wp_X7_attackers_65 D post (cS S o c) (o p) (iI a) (iI s) (zS occ) (zS fun k => decide (kindO (v k) = 2))
      (zS fun k => kstepB F R a k && decide (kindO (v k) = 1) || nstepB F R a k && decide (kindO (v k) = 5)) (o 1) (iI a) (iI u) := by
    intro u hu hus
    unfold wp_X7_attackers_65
    simp only [iI_lit]
    refine zS_at1 h hB ha hu ?_
    rw [q_ofKind h hp hv hA (by decide)]
    refine ⟨o 1, c_r h hp.2.2.1, (c_m h (by decide)).mpr trivial, c_k h (by decide), ?_⟩
    refine q_slides (st := true) h hB ha ?_
    rw [q_ofKind h hp hv hA (by decide)]
    refine ⟨o 1, c_r h hp.2.2.1, (c_m h (by decide)).mpr trivial, c_k h (by decide), ?_⟩
    refine q_slides (st := false) h hB ha ?_
    rw [q_ofKind h hp hv hA (by decide)]
    intro x15 e15
    rw [q_ofSide h hp hv hA hs, e15]
    rw [hus]
    simp only [zS_and, zS_or]
    have e : foundB F R v occ s a = (fun k => (kstepB F R a k && decide (kindO (v k) = 1) || nstepB F R a k && decide (kindO (v k) = 5) || aimB F R a (if s = 1 then -1 else 1) k && decide (kindO (v k) = 6) || slideB F R occ a true k && (decide (kindO (v k) = 3) || decide (kindO (v k) = 2)) ||
            slideB F R occ a false k && (decide (kindO (v k) = 4) || decide (kindO (v k) = 2))) && isOfB (v k) s) := rfl
    rw [← e]; exact k
  rcases hs with rfl | rfl
  · exact ⟨fun hh => absurd rfl hh, fun _ => main 1 (Or.inr rfl) rfl⟩
  · exact ⟨fun _ => main 0 (Or.inl rfl) rfl, fun hh => absurd hh (by decide)⟩
theorem q_attackersN {post : Int64 → wS → Prop} (h : CC D S o) (hB : BG c F R) (hp : isP p) {a : Int} {s : Int32} {z : Int64} (ha : i32 a) (hn : a < 0 ∨ F * R ≤ a) (k : post 0 (cS S o c)) : wp_X7_attackers D post (cS S o c) (o p) (iI a) s z := by
  unfold wp_X7_attackers wp_X7_attackers_0
  refine ⟨o 1, c_r h hp.2.2.1, (c_m h (by decide)).mpr trivial, c_k h (by decide), ?_⟩
  have hin : inB a 0 (F * R - 1) = false := by
    unfold inB
    rcases hn with hn | hn
    · rw [decide_eq_false (by omega)]; rfl
    · rw [decide_eq_false (show ¬ a ≤ F * R - 1 by omega), Bool.and_false]
  rw [q_has h hB ha, hin]
  exact ⟨fun hh => absurd rfl hh, fun _ => k⟩
end
