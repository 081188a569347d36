section
variable {D : wD} {S : wS} {o : Nat → Nat} {c : cM} {F R : Int} {p : Nat} {v : Int → Int}
theorem q_shieldsKing {post : Int32 → wS → Prop} (h : CC D S o) (hB : BG c F R) (hp : isP p) (hv : PK F R v) (hA : PAt c p v) {q : Int} (hq : 0 ≤ q ∧ q < F * R) (k : post (iI (bI (pinB F R v q))) (cS S o c)) : wp_X7_shieldsKing D post (cS S o c) (o p) (iI q) := by
  have hm := hB.m
  obtain ⟨v1, v2, v3, v4, v5, v6, v7⟩ := id hv
  have hs : v 64 = 0 ∨ v 64 = 1 := by have := v1.s; omega
  have hr := kingB_r v (v 64) (show 0 ≤ F * R by omega)
  rw [pin_iff hB hv hq] at k
  have s5 : sI (cS S o c) (o p) 5 = iI (v 64) := by rw [c_i1 h hp.1 (show ((5 : Nat) : Int) = 5 from rfl)]; exact congrArg iI hA.2.2.2.2.1
  have hz : (iI (v 64) = 0) = (v 64 = 0) := by rw [show (0 : Int32) = iI 0 from rfl, iI_eq (by omega) (by omega) (by decide) (by decide)]
  unfold wp_X7_shieldsKing wp_X7_shieldsKing_0 wp_X7_shieldsKing_34
  rw [s5]
  refine q_kingOfC h ⟨by omega, hm.2⟩ hp v1.p v3 hA hs ?_
  unfold kingC
  rw [if_pos v6]
  have ln : (iI (kingB F R v (v 64)) = (-1 : Int32)) = False := by rw [show (-1 : Int32) = iI (-1) from rfl, iI_eq (by omega) (by omega) (by decide) (by decide)]; exact eq_false (by omega)
  have lq : (iI q = iI (kingB F R v (v 64))) = (q = kingB F R v (v 64)) := by rw [iI_eq (by omega) (by omega) (by omega) (by omega)]
  rw [ln, lq]
  refine ⟨fun z => z.elim, fun _ => ⟨fun z => ⟨nr0, ?_⟩, fun z => ?_⟩⟩
  · rw [decide_eq_true z, Bool.not_true, Bool.and_false, Bool.false_and] at k; exact k
  · rw [decide_eq_false z, Bool.not_false, Bool.and_true] at k
    rw [s5, q_ofSide h hp v1.p hA hs, q_contains _ (show 0 ≤ q ∧ q < 64 by omega), bF]
    refine ⟨fun y => ?_, fun y => ⟨nr0, ?_⟩⟩
    · have y : isOfB (v q) (v 64) = true := by simpa using y
      rw [y, Bool.true_and] at k
      rw [s5, hz]
      have at72 : ∀ u : Int, u = 1 - v 64 → wp_X7_shieldsKing_72 D post (cS S o c) (o p) (iI q) (zS (foundB F R v (occB v) (1 - v 64) (kingB F R v (v 64)))) (o p) (iI (kingB F R v (v 64))) (iI u) := by
        intro u hu
        unfold wp_X7_shieldsKing_72 wp_X7_shieldsKing_107
        rw [q_occupied h hp v1.p hA, zS_one (show 0 ≤ q ∧ q < 64 by omega), zS_not, zS_not, zS_and]
        refine q_attackers h hB hp v1.p hA ⟨hr.1, v6⟩ (by omega) ?_
        rw [zS_and, hu]
        simp only [lg_cmp_eq, none_z]
        cases w : noneB (fun k => foundB F R v (fun k => occB v k && !decide (k = q)) (1 - v 64) (kingB F R v (v 64)) k && !foundB F R v (occB v) (1 - v 64) (kingB F R v (v 64)) k)
        · rw [w] at k
          exact ⟨fun x => absurd x (by decide), fun _ => ⟨nr1, k⟩⟩
        · rw [w] at k
          exact ⟨fun _ => ⟨nr0, k⟩, fun x => absurd rfl x⟩
      have at50 : ∀ u : Int, u = 1 - v 64 → wp_X7_shieldsKing_50 D post (cS S o c) (o p) (iI q) (iI (kingB F R v (v 64))) (o p) (iI (kingB F R v (v 64))) (iI u) := by
        intro u hu
        unfold wp_X7_shieldsKing_50
        rw [q_occupied h hp v1.p hA]
        refine q_attackers h hB hp v1.p hA ⟨hr.1, v6⟩ (by omega) ?_
        rw [s5, hz, hu]
        exact ⟨fun z => at72 0 (by omega), fun z => at72 1 (by omega)⟩
      exact ⟨fun z => at50 0 (by omega), fun z => at50 1 (by omega)⟩
    · rw [y] at k; exact k
/-- the material of a side, by sets -/
theorem mat_z {F R : Int} {v : Int → Int} (hn : 0 ≤ F * R ∧ F * R ≤ 64) (hv : okP v) (hb : brd F R v) {s : Int} :
    9 * zcnt (fun k => decide (kindO (v k) = 2) && isOfB (v k) s) + 5 * zcnt (fun k => decide (kindO (v k) = 3) && isOfB (v k) s) + 3 * zcnt (fun k => (decide (kindO (v k) = 4) || decide (kindO (v k) = 5)) && isOfB (v k) s) + zcnt (fun k => decide (kindO (v k) = 6) && isOfB (v k) s) = matB F R v s := by
  have h0 : ∀ k : Int, F * R ≤ k → k < 64 → isOfB (v k) s = false := fun k h0 h1 => by rw [hb k h0 h1]; simp [isOfB]
  rw [zcnt_board hn.1 hn.2 (fun k a b => by rw [h0 k a b, Bool.and_false]), zcnt_board hn.1 hn.2 (fun k a b => by rw [h0 k a b, Bool.and_false]), zcnt_board hn.1 hn.2 (fun k a b => by rw [h0 k a b, Bool.and_false]), zcnt_board hn.1 hn.2 (fun k a b => by rw [h0 k a b, Bool.and_false])]
  rw [← sumL_mul, ← sumL_mul, ← sumL_mul, ← sumL_add, ← sumL_add, ← sumL_add]
  unfold matB
  refine sumL_congr _ _ fun j j0 j1 => ?_
  cases ho : isOfB (v j) s
  · simp
  · rcases kind_cases (hv j j0 (by omega)) with h | h | h | h | h | h | h | h | h | h | h | h | h <;> rw [h] <;> rfl
end
