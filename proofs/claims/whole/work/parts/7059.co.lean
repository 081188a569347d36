/-! PHASE 3, a move made by the class -/
section
variable {D : wD} {S : wS} {o : Nat → Nat} {c : cM} {F R : Int} {p : Nat} {v w : Int → Int}
theorem cI_put (c : cM) (p : Nat) (w : Int → Int) {j x : Int} (hj : j = 5 ∨ j = 6 ∨ j = 7) : cI (putP c p w) p j x = putP c p (upV w (j + 59) x) := by
  refine putP_char ?_ (fun n i hi => ?_) (fun n i hi => ?_)
  · have hA := putP_at c p w
    have lo : ∀ k : Int, 0 ≤ k → k < 64 → upV w (j + 59) x k = w k := fun k h0 h1 => if_neg (by omega)
    have e1 : plW (upV w (j + 59) x) = plW w := zS_congr fun k h0 h1 => by rw [lo k h0 h1]
    have e2 : ∀ b, plK (upV w (j + 59) x) b = plK w b := fun b => zS_congr fun k h0 h1 => by unfold kbit; rw [lo k h0 h1]
    refine ⟨?_, ?_, ?_, ?_, ?_, ?_, ?_⟩
    · rw [e1]; exact hA.1
    · rw [e2]; exact hA.2.1
    · rw [e2]; exact hA.2.2.1
    · rw [e2]; exact hA.2.2.2.1
    · rw [cI_at]; unfold upV
      by_cases h : j = 5
      · rw [if_pos ⟨rfl, h.symm⟩, if_pos (by omega)]
      · rw [if_neg (by omega), if_neg (by omega)]; exact hA.2.2.2.2.1
    · rw [cI_at]; unfold upV
      by_cases h : j = 6
      · rw [if_pos ⟨rfl, h.symm⟩, if_pos (by omega)]
      · rw [if_neg (by omega), if_neg (by omega)]; exact hA.2.2.2.2.2.1
    · rw [cI_at]; unfold upV
      by_cases h : j = 7
      · rw [if_pos ⟨rfl, h.symm⟩, if_pos (by omega)]
      · rw [if_neg (by omega), if_neg (by omega)]; exact hA.2.2.2.2.2.2
  · rw [cI_at, if_neg (by rintro ⟨a, b⟩; rcases hi with e | e; exact e a; exact e (by omega))]
    simp only [putP]
    by_cases hn : n = p
    · have hi : ¬ (i = 5 ∨ i = 6 ∨ i = 7) := hi.resolve_left fun e => e hn
      rw [if_pos hn, if_neg (by omega), if_neg (by omega), if_neg (by omega)]
    · rw [if_neg hn]
  · rw [cI_2]
    simp only [putP]
    by_cases hn : n = p
    · have hi : ¬ (i = 1 ∨ i = 2 ∨ i = 3 ∨ i = 4) := hi.resolve_left fun e => e hn
      rw [if_pos hn, if_neg (by omega), if_neg (by omega), if_neg (by omega), if_neg (by omega)]
    · rw [if_neg hn]
theorem q_placeP {post : wS → Prop} (h : CC D S o) (hp : isP p) {q x : Int} (hq : 0 ≤ q ∧ q < 64) (hx : 0 ≤ x ∧ x ≤ 12) (k : post (cS S o (putP c p (upV w q x)))) :
    wp_X7_place D post (cS S o (putP c p w)) (o p) (iI q) (iI x) := by
  refine q_place h hp (putP_at c p w) hq hx ?_
  rw [putP_putP]; exact k
theorem BG.put (hB : BG c F R) (hp : isP p) (w : Int → Int) : BG (putP c p w) F R := by
  have hn : ∀ n : Nat, n < 10 → n ≠ p := by
    intro n hn e
    have h2 := hp.2.1
    subst e
    have key : ∀ n : Nat, n < 10 → ckd n ≠ 12 := by decide
    exact key n hn h2
  unfold BG
  rw [putP_1 c w (hn 1 (by decide)), putP_1 c w (hn 2 (by decide)), putP_1 c w (hn 3 (by decide)), putP_2 c w (hn 1 (by decide)), putP_2 c w (hn 4 (by decide)), putP_2 c w (hn 5 (by decide)), putP_2 c w (hn 6 (by decide)), putP_2 c w (hn 7 (by decide)), putP_2 c w (hn 8 (by decide)), putP_2 c w (hn 9 (by decide))]
  exact hB
/-- one right -/
theorem q_lose_step {post : wS → Prop} (h : CC D S o) (hp : isP p) {a b x i cn : Int} {n : Nat} {U : cM} (hU : U = putP c p (upV w 65 x)) (ha : 0 ≤ a ∧ a < 64) (hb : 0 ≤ b ∧ b < 64) (hx : 0 ≤ x ∧ x ≤ 15) (hi : 0 ≤ i ∧ i < 4) {t : Int} (ht : 0 ≤ t ∧ t + 7 < 64)
    (hc : cn = if i % 2 = 0 then t + 7 else t) (hl : lostB F R a = 2 ^ i.toNat ↔ a = cn) (hl2 : lostB F R b = 2 ^ i.toNat ↔ b = cn)
    (k : wp_X7_loseRights_39 D post n (cS S o (putP c p (upV w 65 (stepR (lostB F R a) (lostB F R b) x i)))) (o p) (zS fun k => decide (k = a) || decide (k = b)) (iI (i + 1))) :
    wp_X7_loseRights_65 D post (wp_X7_loseRights_39 D post n) (cS S o U) (o p) (zS fun k => decide (k = a) || decide (k = b)) (iI i) (iI t) := by
  subst hU
  have e6 : sI (cS S o (putP c p (upV w 65 x))) (o p) 6 = iI x := by
    rw [c_i1 h hp.1 (show ((6 : Nat) : Int) = 6 from rfl)]
    exact congrArg iI ((putP_at c p (upV w 65 x)).2.2.2.2.2.1.trans (if_pos rfl))
  have at84 : wp_X7_loseRights_84 D post (wp_X7_loseRights_39 D post n) (cS S o (putP c p (upV w 65 x))) (o p) (zS fun k => decide (k = a) || decide (k = b)) (iI i) (iI cn) := by
    unfold wp_X7_loseRights_84
    have hcn : 0 ≤ cn ∧ cn < 64 := by rw [hc]; split <;> omega
    rw [q_contains _ hcn]
    unfold wp_X7_loseRights_111
    have hpw : iI (1 : Int) <<< (iI i &&& iI 31) = iI (2 ^ i.toNat) := iI_pow hi.1 (by omega)
    by_cases ct : a = cn ∨ b = cn
    · have hbt : (decide (cn = a) || decide (cn = b)) = true := by rcases ct with e | e <;> simp [e]
      rw [hbt]
      refine ⟨fun hh => absurd hh (by decide), fun _ S4 e4 x1 ex => ?_⟩
      have hst : stepR (lostB F R a) (lostB F R b) x i = clr x (2 ^ i.toNat) := by
        unfold stepR
        rw [if_pos (ct.imp hl.mpr hl2.mpr)]
      have hp2 : 0 ≤ (2 : Int) ^ i.toNat ∧ (2 : Int) ^ i.toNat ≤ 15 := by
        rcases (show i = 0 ∨ i = 1 ∨ i = 2 ∨ i = 3 by omega) with rfl | rfl | rfl | rfl <;> decide
      rw [e6] at e4
      rw [show (31 : Int32) = iI 31 from rfl, show (1 : Int32) = iI 1 from rfl, hpw, iI_neg, (clr_I hx hp2).1, c_u1 h hp.1 (show ((6 : Nat) : Int) = 6 from rfl), cI_put c p (upV w 65 x) (Or.inr (Or.inl rfl))] at e4
      rw [e4, ex, show (1 : Int32) = iI 1 from rfl, iI_add]
      rw [hst] at k
      have eu : upV (upV w 65 x) (6 + 59) (clr x (2 ^ i.toNat)) = upV w 65 (clr x (2 ^ i.toNat)) := by
        funext j; unfold upV; by_cases hj : j = 65
        · rw [if_pos (show j = 6 + 59 by omega), if_pos hj]
        · rw [if_neg (show ¬ j = 6 + 59 by omega), if_neg hj, if_neg hj]
      rw [eu]
      exact k
    · have hbt : (decide (cn = a) || decide (cn = b)) = false := by
        rw [decide_eq_false (fun e => ct (Or.inl e.symm)), decide_eq_false (fun e => ct (Or.inr e.symm))]; rfl
      rw [hbt]
      refine ⟨fun _ x1 ex => ?_, fun hh => absurd rfl hh⟩
      have hst : stepR (lostB F R a) (lostB F R b) x i = x := by
        unfold stepR
        rw [if_neg (fun hh => ct (hh.imp hl.mp hl2.mp))]
      rw [hst] at k
      rw [ex, show (1 : Int32) = iI 1 from rfl, iI_add]
      exact k
  unfold wp_X7_loseRights_65
  have hpar : ((iI i &&& (1 : Int32)) = 0) = (i % 2 = 0) := by
    rcases (show i = 0 ∨ i = 1 ∨ i = 2 ∨ i = 3 by omega) with rfl | rfl | rfl | rfl <;> decide
  rw [hpar, hc] at *
  by_cases g : i % 2 = 0
  · rw [if_pos g] at at84
    refine ⟨fun hh => absurd g hh, fun _ => ?_⟩
    rw [show (7 : Int32) = iI 7 from rfl, iI_add]
    exact at84
  · rw [if_neg g] at at84
    exact ⟨fun _ => at84, fun hh => absurd hh g⟩
theorem lost_corner {R a : Int} (r4 : 4 ≤ R) (r8 : R ≤ 8) : (lostB 8 R a = 2 ^ (0 : Int).toNat ↔ a = 0 + 7) ∧ (lostB 8 R a = 2 ^ (1 : Int).toNat ↔ a = 0) ∧ (lostB 8 R a = 2 ^ (2 : Int).toNat ↔ a = 8 * R - 8 + 7) ∧ (lostB 8 R a = 2 ^ (3 : Int).toNat ↔ a = 8 * R - 8) ∧ (lostB 8 R a = 0 ∨ lostB 8 R a = 1 ∨ lostB 8 R a = 2 ∨ lostB 8 R a = 4 ∨ lostB 8 R a = 8) := by
  unfold lostB homeB
  simp only [if_true, Int.reduceEq, if_false]
  refine ⟨?_, ?_, ?_, ?_, ?_⟩
  · show _ = 1 ↔ _; omega
  · show _ = 2 ↔ _; omega
  · show _ = 4 ↔ _; omega
  · show _ = 8 ↔ _; omega
  · omega
theorem q_lose_39 {post : wS → Prop} (h : CC D S o) (hB : BG c 8 R) (hp : isP p) {a b x i cn : Int} {n : Nat} (ha : 0 ≤ a ∧ a < 64) (hb : 0 ≤ b ∧ b < 64) (hx : 0 ≤ x ∧ x ≤ 15) (hi : 0 ≤ i ∧ i < 4)
    (hc : cn = if i % 2 = 0 then (if i < 2 then 0 else 8 * R - 8) + 7 else (if i < 2 then 0 else 8 * R - 8)) (hl : lostB 8 R a = 2 ^ i.toNat ↔ a = cn) (hl2 : lostB 8 R b = 2 ^ i.toNat ↔ b = cn)
    (k : wp_X7_loseRights_39 D post n (cS S o (putP c p (upV w 65 (stepR (lostB 8 R a) (lostB 8 R b) x i)))) (o p) (zS fun k => decide (k = a) || decide (k = b)) (iI (i + 1))) :
    wp_X7_loseRights_39 D post (n + 1) (cS S o (putP c p (upV w 65 x))) (o p) (zS fun k => decide (k = a) || decide (k = b)) (iI i) := by
  have r4 := hB.r4; have r8 := hB.r8
  have sz : sI (cS S o (putP c p (upV w 65 x))) (o 1) 2 = iI (8 * R) := by rw [c_i1 h (by decide) (show ((2 : Nat) : Int) = 2 from rfl)]; exact congrArg iI (hB.put hp _).n
  unfold wp_X7_loseRights_39
  have l4 : ((4 : Int32) ≤ iI i) = False := by rw [show (4 : Int32) = iI 4 from rfl, iI_le (by decide) (by decide) (by omega) (by omega)]; exact eq_false (by omega)
  have l2 : ((2 : Int32) ≤ iI i) = (2 ≤ i) := by rw [show (2 : Int32) = iI 2 from rfl, iI_le (by decide) (by decide) (by omega) (by omega)]
  rw [l4, l2]
  refine ⟨fun hh => hh.elim, fun _ => ⟨fun g => ?_, fun g => ?_⟩⟩
  · refine ⟨o 1, c_r h hp.2.2.1, (c_m h (by decide)).mpr trivial, c_k h (by decide), ?_⟩
    rw [sz, show (8 : Int32) = iI 8 from rfl, iI_sub]
    rw [if_neg (show ¬ i < 2 by omega)] at hc
    exact q_lose_step (F := 8) (R := R) h hp rfl ha hb hx hi (t := 8 * R - 8) (by omega) hc hl hl2 k
  · rw [if_pos (show i < 2 by omega)] at hc
    rw [show (0 : Int32) = iI 0 from rfl]
    exact q_lose_step (F := 8) (R := R) h hp rfl ha hb hx hi (t := 0) (by decide) hc hl hl2 k
theorem q_loseRights {post : wS → Prop} (h : CC D S o) (hB : BG c F R) (hF : F = 8) (hp : isP p) {a b kd : Int} (hw : 0 ≤ w 65 ∧ w 65 ≤ 15) (hs : w 64 = 0 ∨ w 64 = 1) (ha : 0 ≤ a ∧ a < 64) (hb : 0 ≤ b ∧ b < 64) (hk : 0 ≤ kd ∧ kd ≤ 6)
    (k : post (cS S o (putP c p (upV w 65 (clr (clr (clr (w 65) (lostB F R a)) (lostB F R b)) (if kd = 1 then (if w 64 = 1 then 3 else 12) else 0)))))) :
    wp_X7_loseRights D post (cS S o (putP c p w)) (o p) (iI a) (iI b) (iI kd) := by
  subst hF
  have r4 := hB.r4; have r8 := hB.r8
  have la := lost_corner (a := a) r4 r8
  have lb := lost_corner (a := b) r4 r8
  have hB2 : ∀ u, BG (putP c p u) 8 R := fun u => hB.put hp u
  have hkm : (if kd = 1 then (if w 64 = 1 then 3 else 12) else 0 : Int) = 0 ∨ (if kd = 1 then (if w 64 = 1 then 3 else 12) else 0 : Int) = 3 ∨ (if kd = 1 then (if w 64 = 1 then 3 else 12) else 0 : Int) = 12 := by omega
  rw [rights_steps hw la.2.2.2.2 lb.2.2.2.2 hkm] at k
  have hclr : 0 ≤ clr (w 65) (if kd = 1 then (if w 64 = 1 then 3 else 12) else 0) ∧ clr (w 65) (if kd = 1 then (if w 64 = 1 then 3 else 12) else 0) ≤ 15 := (clr_I hw (by omega)).2
  have hst : ∀ (x i : Int), 0 ≤ i → i < 4 → 0 ≤ x ∧ x ≤ 15 → 0 ≤ stepR (lostB 8 R a) (lostB 8 R b) x i ∧ stepR (lostB 8 R a) (lostB 8 R b) x i ≤ 15 := by
    intro x i i0 i1 hx
    unfold stepR
    split
    · refine (clr_I hx ?_).2
      rcases (show i = 0 ∨ i = 1 ∨ i = 2 ∨ i = 3 by omega) with rfl | rfl | rfl | rfl <;> decide
    · exact hx
  have loop : ∀ x : Int, 0 ≤ x ∧ x ≤ 15 → post (cS S o (putP c p (upV w 65 (stepR (lostB 8 R a) (lostB 8 R b) (stepR (lostB 8 R a) (lostB 8 R b) (stepR (lostB 8 R a) (lostB 8 R b) (stepR (lostB 8 R a) (lostB 8 R b) x 0) 1) 2) 3)))) → wp_X7_loseRights_27 D post (cS S o (putP c p (upV w 65 x))) (o p) (iI a) (iI b) := by
    intro x hx hpost
    unfold wp_X7_loseRights_27
    intro z ez
    rw [zS_one ha, zS_one hb, zS_or] at ez
    rw [ez]
    refine ⟨5, ?_⟩
    have h1 := hst _ 0 (by decide) (by decide) hx
    have h2 := hst _ 1 (by decide) (by decide) h1
    have h3 := hst _ 2 (by decide) (by decide) h2
    rw [show (0 : Int32) = iI 0 from rfl]
    refine q_lose_39 (cn := 0 + 7) h hB hp ha hb hx (by decide) rfl la.1 lb.1 ?_
    refine q_lose_39 (i := 1) (cn := 0) h hB hp ha hb h1 (by decide) rfl la.2.1 lb.2.1 ?_
    refine q_lose_39 (i := 2) (cn := 8 * R - 8 + 7) h hB hp ha hb h2 (by decide) rfl la.2.2.1 lb.2.2.1 ?_
    refine q_lose_39 (i := 3) (cn := 8 * R - 8) h hB hp ha hb h3 (by decide) rfl la.2.2.2.1 lb.2.2.2.1 ?_
    unfold wp_X7_loseRights_39
    exact ⟨fun _ => hpost, fun hh => absurd (show (4 : Int32) ≤ iI (3 + 1) by decide) hh⟩
  have e5 : sI (cS S o (putP c p w)) (o p) 5 = iI (w 64) := by rw [c_i1 h hp.1 (show ((5 : Nat) : Int) = 5 from rfl)]; exact congrArg iI (putP_at c p w).2.2.2.2.1
  have e6 : sI (cS S o (putP c p w)) (o p) 6 = iI (w 65) := by rw [c_i1 h hp.1 (show ((6 : Nat) : Int) = 6 from rfl)]; exact congrArg iI (putP_at c p w).2.2.2.2.2.1
  unfold wp_X7_loseRights wp_X7_loseRights_0
  have lk : (iI kd = (1 : Int32)) = (kd = 1) := by rw [show (1 : Int32) = iI 1 from rfl, iI_eq (by omega) (by omega) (by decide) (by decide)]
  rw [lk, e5, e6]
  by_cases ck : kd = 1
  · rw [if_pos ck] at k hclr
    refine ⟨fun hh => absurd ck hh, fun _ => ?_⟩
    have and12 : ∀ n : Nat, n < 16 → iI (n : Int) &&& (12 : Int32) = iI (clr (n : Int) 3) := by decide +kernel
    have and3 : ∀ n : Nat, n < 16 → iI (n : Int) &&& (3 : Int32) = iI (clr (n : Int) 12) := by decide +kernel
    obtain ⟨n, hn, en⟩ : ∃ n : Nat, n < 16 ∧ w 65 = n := ⟨(w 65).toNat, by omega, by omega⟩
    rcases hs with e | e
    · rw [e]
      refine ⟨fun _ => ?_, fun hh => absurd rfl hh⟩
      unfold wp_X7_loseRights_23
      intro S1 e1
      rw [en, and3 n hn, ← en, c_u1 h hp.1 (show ((6 : Nat) : Int) = 6 from rfl), cI_put c p w (Or.inr (Or.inl rfl))] at e1
      rw [e1]
      rw [e, if_neg (by decide)] at k hclr
      exact loop _ hclr k
    · rw [e]
      refine ⟨fun hh => absurd hh (by decide), fun _ => ?_⟩
      unfold wp_X7_loseRights_23
      intro S1 e1
      rw [en, and12 n hn, ← en, c_u1 h hp.1 (show ((6 : Nat) : Int) = 6 from rfl), cI_put c p w (Or.inr (Or.inl rfl))] at e1
      rw [e1]
      rw [e, if_pos rfl] at k hclr
      exact loop _ hclr k
  · rw [if_neg ck] at k hclr
    refine ⟨fun _ => ?_, fun hh => absurd hh ck⟩
    have c0 : clr (w 65) 0 = w 65 := by
      obtain ⟨n, hn, en⟩ : ∃ n : Nat, n < 16 ∧ w 65 = n := ⟨(w 65).toNat, by omega, by omega⟩
      rw [en]
      have key : ∀ n : Nat, n < 16 → clr (n : Int) 0 = n := by decide +kernel
      exact key n hn
    rw [c0] at k hclr
    have := loop (w 65) hclr k
    rw [upV_self rfl] at this
    exact this
end
