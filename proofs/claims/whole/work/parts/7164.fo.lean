/-! PHASE 3: the paper written by the class -/
theorem pcs_at {p : Int} (hp : 1 ≤ p ∧ p ≤ 12) : pcsL.getD p.toNat 0 = letB (kindO p) + (if 6 < p then 32 else 0) := by
  rcases (show p = 1 ∨ p = 2 ∨ p = 3 ∨ p = 4 ∨ p = 5 ∨ p = 6 ∨ p = 7 ∨ p = 8 ∨ p = 9 ∨ p = 10 ∨ p = 11 ∨ p = 12 by omega) with rfl | rfl | rfl | rfl | rfl | rfl | rfl | rfl | rfl | rfl | rfl | rfl <;> rfl
section
variable {D : wD} {S U : wS} {o : Nat → Nat} {c : cM} {v : Int → Int} {p a y0 y : Nat} {F R : Int} {L : List Int}
/-- a builder apart from the class's other cells -/
abbrev AP (o : Nat → Nat) (a y0 : Nat) : Prop := ∀ n, cOk n = true → o n ∉ [a, y0]
theorem bl_c (h : CC D S o) (hK : AP o a y0) (hb : BL D (cS S o c) U a y0 y L) : CC D U o ∧ U = cS U o c := ex_c h hb.1 hK
/-- the constants that are written -/
abbrev KS (D : wD) (V : wS) (a y0 : Nat) : Prop := (ST D V (D.2.2.1 1) pcsL ∧ D.2.2.1 1 ∉ [a, y0] ∧ ∀ v, sR V (D.2.2.1 1) 0 = some v → v ∉ [a, y0]) ∧ (ST D V (D.2.2.1 10) [75, 81, 107, 113] ∧ D.2.2.1 10 ∉ [a, y0] ∧ ∀ v, sR V (D.2.2.1 10) 0 = some v → v ∉ [a, y0]) ∧
  (ST D V (D.2.2.1 8) [32, 119, 32] ∧ D.2.2.1 8 ∉ [a, y0] ∧ ∀ v, sR V (D.2.2.1 8) 0 = some v → v ∉ [a, y0]) ∧ (ST D V (D.2.2.1 9) [32, 98, 32] ∧ D.2.2.1 9 ∉ [a, y0] ∧ ∀ v, sR V (D.2.2.1 9) 0 = some v → v ∉ [a, y0]) ∧ DG D V ∧ D.2.2.1 104 ∉ [a, y0]
theorem q_wR_6 {post : wS → Prop} (h : CC D S o) (hK : AP o a y0) (hB : BG c F R) (hp : isP p) (hv : okV F R v) (hA : PAt c p v) (hk : KS D (cS S o c) a y0) {r : Int} (hr : 0 ≤ r ∧ r < R) {cap0 M : Nat} (h16 : 16 ≤ cap0) (hM : M < 50000) (hM0 : M = cap0 ∨ M = 2 * cap0 + 2) :
    ∀ (n d : Nat) (f e : Int) (bc bs : Nat) (U : wS) (y : Nat) (L : List Int), d < n → f + d = F → 0 ≤ f → 0 ≤ e ∧ e ≤ f → BL D (cS S o c) U a y0 y L → RBD (sN U y) bc bs M → (sN U y = cap0 ∨ sN U y = M) → L.length + (rankP F v r f e d).length ≤ M →
    (∀ U' y', BL D (cS S o c) U' a y0 y' (L ++ rankP F v r f e d) → (sN U' y' = cap0 ∨ sN U' y' = M) → post U') → wp_X6_writeRank_6 D post n bc bs U (o 28) (o p) (iI r) a (iI e) (iI f) := by
  have hm := hB.m
  have h4 := hB.2.1.1; have h8 := hB.2.1.2.1; have r4 := hB.2.1.2.2.1; have r8 := hB.2.1.2.2.2
  obtain ⟨k1, k2, k3, k4, kg, kd⟩ := hk
  intro n
  induction n with
  | zero => intro d f e bc bs U y L hd; omega
  | succ n ih =>
    intro d f e bc bs U y L hd hj h0 he hb hr' hcap hT k
    have hc := bl_c h hK hb
    have hU := hc.2
    have hCU := hc.1
    have step : ∀ need, need ≤ M → need ≤ sN U y ∨ 2 * sN U y + 2 ≤ M := fun need hn => by
      rcases hcap with q | q
      · rcases hM0 with z | z
        · left; omega
        · right; omega
      · left; omega
    have capOk : ∀ need, capM (sN U y) need = cap0 ∨ capM (sN U y) need = M ∨ M < need := fun need => by
      unfold capM
      by_cases z : need ≤ sN U y
      · rw [if_pos z]; omega
      · rw [if_neg z]; omega
    unfold wp_X6_writeRank_6
    rw [hU]
    refine ⟨o 1, c_r hCU rfl, (c_m hCU (by decide)).mpr trivial, c_k hCU (by decide), ?_⟩
    rw [c_i0 hCU (by decide), show c.1 1 ((0 : Nat) : Int) = F from hB.1.1, iI_le (by omega) (by omega) (by omega) (by omega)]
    cases d with
    | zero =>
      refine ⟨fun _ => ?_, fun q => absurd (by omega) q⟩
      unfold wp_X6_writeRank_102
      unfold rankP at k hT
      rw [show (0 : Int32) = iI 0 from rfl, iI_le (by omega) (by omega) (by decide) (by decide)]
      refine ⟨fun q => ?_, fun q => ?_⟩
      · rw [← hU]
        rw [if_neg (by omega), List.append_nil] at k
        exact k U y hb hcap
      · rw [if_pos (by omega)] at k hT
        simp at hT
        have sm := step (L.length + 1) (by omega)
        have le := hr'.le sm
        rw [← hU]
        refine ⟨_, _, le.1, le.2.1, bl_putI hb hr' sm hM (by omega) kg kd ⟨by omega, by omega⟩ fun U' y' hb' hr2 hN => ?_⟩
        refine k U' y' hb' ?_
        rw [hN]
        rcases capOk (L.length + 1) with z | z | z
        · exact Or.inl z
        · exact Or.inr z
        · omega
    | succ d =>
      have hd1 : ((d + 1 : Nat) : Int) = d + 1 := by omega
      have hsq : 0 ≤ F * r + f ∧ F * r + f < 64 := by
        rcases (show F = 4 ∨ F = 5 ∨ F = 6 ∨ F = 7 ∨ F = 8 by omega) with rfl | rfl | rfl | rfl | rfl <;> omega
      have hvp := hv.1 _ hsq.1 hsq.2
      refine ⟨fun q => absurd q (by omega), fun _ => ?_⟩
      refine ⟨o 1, c_r hCU rfl, (c_m hCU (by decide)).mpr trivial, c_k hCU (by decide), ?_⟩
      rw [c_i0 hCU (by decide), show c.1 1 ((0 : Nat) : Int) = F from hB.1.1, iI_mul, iI_add, Int.mul_comm r F]
      rw [q_pieceOn hCU hp hv.1 hA hsq]
      rw [show (0 : Int32) = iI 0 from rfl, iI_eq (by omega) (by omega) (by decide) (by decide), iI_le (by omega) (by omega) (by decide) (by decide)]
      unfold rankP at k hT
      by_cases cz : v (F * r + f) = 0
      · rw [if_pos cz] at k hT
        refine ⟨fun q => absurd cz q, fun _ x17 e17 => ?_⟩
        unfold wp_X6_writeRank_84
        intro x1 e1
        rw [e1, e17, show (1 : Int32) = iI 1 from rfl, iI_add, iI_add, ← hU]
        exact ih d (f + 1) (e + 1) bc bs U y L (by omega) (by omega) (by omega) (by omega) hb hr' hcap hT k
      · rw [if_neg cz] at k hT
        have put : ∀ (bc bs : Nat) (U : wS) (y : Nat) (L : List Int), BL D (cS S o c) U a y0 y L → RBD (sN U y) bc bs M → (sN U y = cap0 ∨ sN U y = M) → L.length + (1 + (rankP F v r (f + 1) 0 d).length) ≤ M →
            (∀ U' y', BL D (cS S o c) U' a y0 y' (L ++ (letB (kindO (v (F * r + f))) + (if 6 < v (F * r + f) then 32 else 0)) :: rankP F v r (f + 1) 0 d) → (sN U' y' = cap0 ∨ sN U' y' = M) → post U') →
            wp_X6_writeRank_59 D post (wp_X6_writeRank_6 D post n) bc bs U (o 28) (o p) (iI r) a (iI f) (iI (v (F * r + f))) := by
          intro bc bs U y L hb hr' hcap hT k
          have W1 := ST.ex hb.1 k1.1 k1.2.1 k1.2.2
          unfold wp_X6_writeRank_59
          intro y1 ey1
          rw [ey1]
          refine q_lenS W1 ?_
          rw [show ((pcsL.length : Nat) : Int) = 13 from rfl, iI_le (by decide) (by decide) (by omega) (by omega)]
          refine ⟨fun q => absurd q (by omega), fun _ y5 ey5 => ?_⟩
          rw [ey5]
          refine q_charS W1 ⟨by omega, by show v (F * r + f) < ((pcsL.length : Nat) : Int); rw [show ((pcsL.length : Nat) : Int) = 13 from rfl]; omega⟩ ?_
          rw [pcs_at (by omega)]
          have lb : 66 ≤ letB (kindO (v (F * r + f))) ∧ letB (kindO (v (F * r + f))) ≤ 82 := by unfold letB; repeat' (first | decide | split)
          have sm : L.length + 1 ≤ sN U y ∨ 2 * sN U y + 2 ≤ M := by
            rcases hcap with q | q
            · rcases hM0 with z | z
              · left; omega
              · right; omega
            · left; omega
          have le := hr'.le sm
          refine ⟨_, _, le.1, le.2.1, bl_put hb hr' sm hM (by split <;> omega) fun U' y' hb' hr2 hN => ?_⟩
          unfold wp_X6_writeRank_84
          intro x1 e1
          rw [e1, show (1 : Int32) = iI 1 from rfl, iI_add]
          refine ih d (f + 1) 0 _ _ U' y' _ (by omega) (by omega) (by omega) (by omega) hb' hr2 ?_ (by simp; omega) (fun U2 y2 q1 q2 => k U2 y2 (by simpa using q1) q2)
          rw [hN]
          unfold capM
          split <;> omega
        refine ⟨fun _ => ⟨fun q => ?_, fun q => ?_⟩, fun q => absurd q cz⟩
        · rw [← hU]
          rw [if_neg (by omega), List.nil_append] at k hT
          exact put bc bs U y L hb hr' hcap (by simp at hT; omega) k
        · rw [if_pos (by omega)] at k hT
          simp at hT
          have sm := step (L.length + 1) (by omega)
          have le := hr'.le sm
          rw [← hU]
          refine ⟨_, _, le.1, le.2.1, bl_putI hb hr' sm hM (by omega) kg kd ⟨by omega, by omega⟩ fun U' y' hb' hr2 hN => ?_⟩
          refine put _ _ U' y' _ hb' hr2 ?_ (by simp; omega) (fun U2 y2 q1 q2 => k U2 y2 (by simpa using q1) q2)
          rw [hN]
          unfold capM
          split <;> omega
theorem q_writeRank {post : wS → Prop} (h : CC D S o) (hK : AP o a y0) (hB : BG c F R) (hp : isP p) (hv : okV F R v) (hA : PAt c p v) (hk : KS D (cS S o c) a y0) {r : Int} (hr : 0 ≤ r ∧ r < R) (hb : BL D (cS S o c) U a y0 y L) (h16 : 16 ≤ sN U y) (hc : sN U y < 20000)
    (k : ∀ U' y', BL D (cS S o c) U' a y0 y' (L ++ rankP F v r 0 0 F.toNat) → sN U' y' = capM (sN U y) (L.length + (rankP F v r 0 0 F.toNat).length) → post U') :
    wp_X6_writeRank D post (gmB1 (sN U y) (L.length + (rankP F v r 0 0 F.toNat).length)) (gzB1 (sN U y) (L.length + (rankP F v r 0 0 F.toNat).length)) U (o 28) (o p) (iI r) a := by
  have h4 := hB.2.1.1; have h8 := hB.2.1.2.1
  have rl := rankP_len F v r F.toNat 0 0
  rw [if_neg (by decide)] at rl
  have hl := hb.2.2.2.1.2.2.2
  generalize hT : L.length + (rankP F v r 0 0 F.toNat).length = T at k
  have hT2 : T ≤ L.length + 8 := by omega
  refine ⟨9, q_wR_6 h hK hB hp hv hA hk hr (cap0 := sN U y) (M := capM (sN U y) T) h16 (by unfold capM; split <;> omega) (by unfold capM; split <;> omega) 9 F.toNat 0 0 _ _ U y L (by omega) (by omega) (by decide) (by decide) hb ?_ (Or.inl rfl) (by rw [hT]; unfold capM; split <;> omega) (fun U' y' q1 q2 => k U' y' q1 ?_)⟩
  · unfold capM gmB1 gzB1
    by_cases z : T ≤ sN U y
    · rw [if_pos z, if_pos z, if_pos z]; exact ⟨Nat.le_refl _, by simp, by omega⟩
    · rw [if_neg z, if_neg z, if_neg z]; exact ⟨by omega, by omega, by omega⟩
  · rcases q2 with q | q
    · have hl' := q1.2.2.2.1.2.2.2
      rw [List.length_append, hT, q] at hl'
      unfold capM; rw [if_pos hl', q]
    · exact q
end
