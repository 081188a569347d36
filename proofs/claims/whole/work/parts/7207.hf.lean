/-! PHASE 3: the cabinet is made -/
section
variable {D : wD} {S0 : wS}
theorem MDE.first {a0 : Nat} (h : a0 ∈ sL S0 ∧ sK S0 a0 = 16 ∧ sN S0 a0 = 0) : MDE D S0 S0 [0] [] (fun _ => a0) :=
  ⟨EX.rf, fun n hn => by rw [List.mem_singleton.mp hn]; exact h, fun n hn k hk _ => by rw [List.mem_singleton.mp hn, List.mem_singleton.mp hk], fun n hn h0 => absurd (List.mem_singleton.mp hn) h0, fun p hp => absurd hp List.not_mem_nil, fun n hn hz => by rw [List.mem_singleton.mp hn] at hz; exact absurd hz (by decide)⟩
/-- the cells of a cabinet just made: all objects, both shelves empty, no text, no ending solved -/
abbrev NEWC (D : wD) (S0 U : wS) (adr : Nat → Nat) (a0 : Nat) : Prop := adr 0 = a0 ∧ CC D U adr ∧ EX D S0 U [a0] ∧ (SB U (adr 29) (adr 52) [] ∧ SB U (adr 49) (adr 53) [] ∧ SB U (adr 50) (adr 54) []) ∧ (sN U (adr 52) = 16 ∧ sN U (adr 53) = 16 ∧ sN U (adr 54) = 16) ∧
  (AL D U (adr 31) (D.2.2.1 106) [] ∧ AL D U (adr 33) (D.2.2.1 106) []) ∧ ENo D U adr ∧ (∀ n, n < 58 → n ≠ 0 → ¬ wM D S0 (adr n)) ∧ (∀ n, n < 58 → ∀ k, k < 58 → adr n = adr k → n = k) ∧ ∀ j, sI U (adr 46) j = 0

theorem q_madeL {post : wS → Prop} {U : wS} {LF : List Nat} {GF : List (Nat × Nat)} {adr : Nat → Nat} {a0 : Nat} (m : MDE D S0 U LF GF adr) (ha : a0 = adr 0) (hL : ∀ n, n < 58 → n ∈ LF) (hG : ∀ p ∈ sfG, p ∈ GF) (hG2 : (31, 1) ∈ GF ∧ (33, 1) ∈ GF ∧ (29, 0) ∈ GF ∧ (49, 0) ∈ GF ∧ (50, 0) ∈ GF ∧ (45, 4) ∈ GF) (i16 : sI U a0 16 = 0) (i17 : sI U a0 17 = 0) (hk106 : D.2.2.1 106 ∈ D.2.1 ∧ sK S0 (D.2.2.1 106) = 24 ∧ sN S0 (D.2.2.1 106) = 0 ∧ D.2.2.1 106 ≠ a0)
    (hK : ∀ U o, EX D S0 U [a0] → CC D U o → o 0 = a0 → (∀ c, ST D (cS U o c) (D.2.2.1 0) usualL) ∧ (∀ c, ST D (cS U o c) (D.2.2.1 1) pcsL) ∧ RW D U o)
    (k : ∀ U adr, NEWC D S0 U adr a0 → ∀ c c1, cSim [11, 13, 14, 51] c1 c → cSim [1, 2, 3, 4, 5, 6, 7, 8, 9] (c0U U adr) c1 → BG c 8 8 → PAt c 11 usualV → PG c 0 (fun _ => usualV) (fun _ => (0, 0, 0)) → (∀ j : Int, 0 ≤ j → j < 64 → c.1 51 j = 15) → c.1 0 16 = 0 → c.1 0 17 = 0 → post (cS U adr c)) :
    ∃ y_125 : Nat, sR U a0 0 = some y_125 ∧ wM D U y_125 ∧ sK U y_125 = 5 ∧
    wp_X0_lay D (fun S_127 => 
    ∃ y_128 : Nat, sR S_127 a0 2 = some y_128 ∧ wM D S_127 y_128 ∧ sK S_127 y_128 = 12 ∧
    wp_X7_setUpUsual D (fun S_130 => 
    ∃ y_131 : Nat, sR S_130 a0 4 = some y_131 ∧ wM D S_130 y_131 ∧ sK S_130 y_131 = 8 ∧
    ∃ y_132 : Nat, sR S_130 a0 2 = some y_132 ∧ wM D S_130 y_132 ∧ sK S_130 y_132 = 12 ∧
    wp_X3_begin D (fun S_134 => 
    ∃ y_135 : Nat, sR S_134 a0 15 = some y_135 ∧ wM D S_134 y_135 ∧ sK S_134 y_135 = 21 ∧
    wp_J7_fill_53178 D (fun S_137 => 
    post S_137) S_134 y_135 (15 : Int32)) S_130 y_131 y_132) S_127 y_128) U y_125 (8 : Int32) (8 : Int32) := by
  have h := m.cc (fun n hn => hL n (by omega)) hG
  have x1 := m.1
  rw [← ha] at x1
  have x2 := m.2.1
  have x3 := m.2.2.1
  have x4 := m.2.2.2.1
  have x6 := m.2.2.2.2.2
  have r29 := m.r (n := 29) (f := 0) (k := 52) hG2.2.2.1 rfl
  have r49 := m.r (n := 49) (f := 0) (k := 53) hG2.2.2.2.1 rfl
  have r50 := m.r (n := 50) (f := 0) (k := 54) hG2.2.2.2.2.1 rfl
  have r45 := m.r (n := 45) (f := 4) (k := 55) hG2.2.2.2.2.2 rfl
  have c106 : ∀ p ∈ GF, sfx p.1 p.2 = none → sR U (adr p.1) p.2 = some (D.2.2.1 106) := fun p hp hn => by
    rcases (m.2.2.2.2.1 p hp).2 with ⟨k, _, e, _⟩ | e
    · rw [hn] at e; exact absurd e (by simp)
    · exact e.2
  have m106 : wM D S0 (D.2.2.1 106) := Or.inr hk106.1
  have ck : ∀ n, n < 58 → sK U (adr n) = ckx n := fun n hn => (x2 n (hL n hn)).2.1
  have sb : ∀ p q, p < 58 → q < 58 → p ∈ ZL → q ∈ ZL → ckx p = 1 → ckx q = 20 → sR U (adr p) 0 = some (adr q) → SB U (adr p) (adr q) [] := fun p q hp hq zp zq k1 k2 hr =>
    ⟨⟨(x2 p (hL p hp)).1, (ck p hp).trans k1⟩, ⟨hr, (x2 q (hL q hq)).1, (ck q hq).trans k2, Nat.zero_le _⟩, ⟨x6 p (hL p hp) zp 1, x6 p (hL p hp) zp 3⟩, fun j hj => absurd hj (Nat.not_lt_zero _), fun x hx => absurd hx List.not_mem_nil, fun j _ => by rw [x6 q (hL q hq) zq j]; decide⟩
  have al : ∀ p, p < 58 → p ∈ ZL → ckx p = 4 → sR U (adr p) 1 = some (D.2.2.1 106) → AL D U (adr p) (D.2.2.1 106) [] := fun p hp zp k1 hr => by
    have k106 : sK U (D.2.2.1 106) = 24 := by rw [x1.k m106]; exact hk106.2.1
    have n106 : sN U (D.2.2.1 106) = 0 := by rw [x1.n m106]; exact hk106.2.2.1
    exact ⟨⟨(x2 p (hL p hp)).1, (ck p hp).trans k1⟩, ⟨hr, Or.inr hk106.1, k106, Nat.zero_le _, Or.inr ⟨rfl, n106⟩⟩, x6 p (hL p hp) zp 2, fun j hj => by rw [n106] at hj; exact absurd hj (Nat.not_lt_zero _), fun g hg => absurd hg List.not_mem_nil⟩
  have hN : NEWC D S0 U adr a0 := by
    refine ⟨ha.symm, h, x1, ⟨sb 29 52 (by decide) (by decide) (by decide) (by decide) rfl rfl r29.1, sb 49 53 (by decide) (by decide) (by decide) (by decide) rfl rfl r49.1, sb 50 54 (by decide) (by decide) (by decide) (by decide) rfl rfl r50.1⟩, ⟨(x2 52 (hL 52 (by decide))).2.2, (x2 53 (hL 53 (by decide))).2.2, (x2 54 (hL 54 (by decide))).2.2⟩, ⟨al 31 (by decide) (by decide) rfl (c106 _ hG2.1 rfl), al 33 (by decide) (by decide) rfl (c106 _ hG2.2.1 rfl)⟩, ⟨adr 55, r45.1, r45.2.1, r45.2.2, (x2 55 (hL 55 (by decide))).2.2⟩, fun n hn h0 => x4 n (hL n hn) h0, fun n hn k hk q => x3 n (hL n hn) k (hL k hk) q, fun j => x6 46 (hL 46 (by decide)) (by decide) j⟩
  have hs := hK U adr x1 h ha.symm
  have k := k U adr hN
  have c16 : (c0U U adr).1 0 16 = 0 := by
    show (sI U (adr 0) (16 : Int).toNat).toInt = 0
    rw [← ha, show (16 : Int).toNat = 16 from rfl, i16]; rfl
  have c17 : (c0U U adr).1 0 17 = 0 := by
    show (sI U (adr 0) (17 : Int).toNat).toInt = 0
    rw [← ha, show (17 : Int).toNat = 17 from rfl, i17]; rfl
  have key : ∀ c0 : cM, c0.1 0 16 = 0 → c0.1 0 17 = 0 → (∀ c c1, cSim [11, 13, 14, 51] c1 c → cSim [1, 2, 3, 4, 5, 6, 7, 8, 9] c0 c1 → BG c 8 8 → PAt c 11 usualV → PG c 0 (fun _ => usualV) (fun _ => (0, 0, 0)) → (∀ j : Int, 0 ≤ j → j < 64 → c.1 51 j = 15) → c.1 0 16 = 0 → c.1 0 17 = 0 → post (cS U adr c)) →
      ∃ y_125 : Nat, sR (cS U adr c0) (adr 0) 0 = some y_125 ∧ wM D (cS U adr c0) y_125 ∧ sK (cS U adr c0) y_125 = 5 ∧
      wp_X0_lay D (fun S_127 => 
      ∃ y_128 : Nat, sR S_127 (adr 0) 2 = some y_128 ∧ wM D S_127 y_128 ∧ sK S_127 y_128 = 12 ∧
      wp_X7_setUpUsual D (fun S_130 => 
      ∃ y_131 : Nat, sR S_130 (adr 0) 4 = some y_131 ∧ wM D S_130 y_131 ∧ sK S_130 y_131 = 8 ∧
      ∃ y_132 : Nat, sR S_130 (adr 0) 2 = some y_132 ∧ wM D S_130 y_132 ∧ sK S_130 y_132 = 12 ∧
      wp_X3_begin D (fun S_134 => 
      ∃ y_135 : Nat, sR S_134 (adr 0) 15 = some y_135 ∧ wM D S_134 y_135 ∧ sK S_134 y_135 = 21 ∧
      wp_J7_fill_53178 D (fun S_137 => 
      post S_137) S_134 y_135 (15 : Int32)) S_130 y_131 y_132) S_127 y_128) (cS U adr c0) y_125 (8 : Int32) (8 : Int32) := by
    intro c0 d16 d17 kk
    refine ⟨adr 1, c_r h rfl, (c_m h (by decide)).mpr trivial, c_k h (by decide), ?_⟩
    rw [show (8 : Int32) = iI 8 from rfl]
    refine q_layB h hs.2.2 ⟨by decide, by decide, by decide, by decide⟩ fun c1 s1 hB => ?_
    refine ⟨adr 11, c_r h rfl, (c_m h (by decide)).mpr trivial, c_k h (by decide), ?_⟩
    refine q_setUpUsual h isP11 hs.1 hs.2.1 ?_
    refine ⟨adr 13, c_r h rfl, (c_m h (by decide)).mpr trivial, c_k h (by decide), adr 11, c_r h rfl, (c_m h (by decide)).mpr trivial, c_k h (by decide), ?_⟩
    have ur : rgV usualV := by
      refine ⟨?_, by decide, by decide, by decide⟩
      have : ∀ k : Nat, k < 64 → 0 ≤ usualV (k : Int) ∧ usualV (k : Int) ≤ 12 := by decide +kernel
      intro k k0 k1
      have := this k.toNat (by omega)
      rw [Int.toNat_of_nonneg k0] at this
      exact this
    refine q_begin h isP11 (putP_at c1 11 _) ur ?_
    refine ⟨adr 51, c_r h rfl, (c_m h (by decide)).mpr trivial, c_k h (by decide), ?_⟩
    rw [show (15 : Int32) = iI 15 from rfl]
    refine q_fillC h (r := 51) (by decide) (by decide) ?_
    have t1 : cSim [11] c1 (putP c1 11 usualV) := putP_sim c1 11 _
    have t2 : cSim [13] (putP c1 11 usualV) (cI (putP c1 11 usualV) 13 3 0) := cI_sim _ 13 3 0
    have t3 : cSim [14] (cI (putP c1 11 usualV) 13 3 0) (putS (cI (putP c1 11 usualV) 13 3 0) 14 0 usualV) := putS_sim _ 14 0 _
    have t4 := filR_sim (putS (cI (putP c1 11 usualV) 13 3 0) 14 0 usualV) 51 (cln 51) 15
    have tt : cSim [11, 13, 14, 51] c1 (filR (putS (cI (putP c1 11 usualV) 13 3 0) 14 0 usualV) 51 (cln 51) 15) := ((t1.mono (by decide)).trans (t2.mono (by decide))).trans ((t3.mono (by decide)).trans (t4.mono (by decide)))
    refine kk _ c1 tt s1 (tt.B (fun m hm => by simp; omega) hB) ?_ ?_ ?_ ?_ ?_
    · exact t4.P (by decide) (t3.P (by decide) (t2.P (by decide) (putP_at c1 11 usualV)))
    · exact PG.sim t4 (by decide) (by decide) (by decide) (PG.begin ur _)
    · intro j j0 j1
      exact filR_at _ 51 _ _ j0 (by have : ((cln 51 : Nat) : Int) = 64 := rfl; omega)
    · rw [(tt 0 (by decide)).1, (s1 0 (by decide)).1]; exact d16
    · rw [(tt 0 (by decide)).1, (s1 0 (by decide)).1]; exact d17
  have fin := key (c0U U adr) c16 c17 k
  rw [← c0U_self U adr] at fin
  rw [ha]
  exact fin

theorem q_made {post : wS → Prop} {a0 bc bs : Nat} (h0 : a0 ∈ sL S0 ∧ sK S0 a0 = 16 ∧ sN S0 a0 = 0) (hbd : 100 ≤ bc ∧ 20000 ≤ bs) (hk106 : D.2.2.1 106 ∈ D.2.1 ∧ sK S0 (D.2.2.1 106) = 24 ∧ sN S0 (D.2.2.1 106) = 0 ∧ D.2.2.1 106 ≠ a0)
    (hK : ∀ U o, EX D S0 U [a0] → CC D U o → o 0 = a0 → (∀ c, ST D (cS U o c) (D.2.2.1 0) usualL) ∧ (∀ c, ST D (cS U o c) (D.2.2.1 1) pcsL) ∧ RW D U o)
    (k : ∀ U adr, NEWC D S0 U adr a0 → ∀ c c1, cSim [11, 13, 14, 51] c1 c → cSim [1, 2, 3, 4, 5, 6, 7, 8, 9] (c0U U adr) c1 → BG c 8 8 → PAt c 11 usualV → PG c 0 (fun _ => usualV) (fun _ => (0, 0, 0)) → (∀ j : Int, 0 ≤ j → j < 64 → c.1 51 j = 15) → c.1 0 16 = 0 → c.1 0 17 = 0 → post (cS U adr c)) : wp_X11_init D post bc bs S0 a0 := by
  unfold wp_X11_init wp_X11_init_0
  have m := MDE.first (D := D) h0
  obtain ⟨adr0, e0⟩ : ∃ adr : Nat → Nat, adr = fun _ => a0 := ⟨_, rfl⟩
  rw [← e0] at m
  have ha : a0 = adr0 0 := by rw [e0]
  refine ⟨by omega, by omega, fun y1 hy1 S1 e1 => ?_⟩
  have m := m.new' (n := 1) hy1 e1 (by decide) (by decide) (by decide) (by decide)
  have ha := ha.trans (setA_ne _ y1 (show (0 : Nat) ≠ 1 by decide)).symm
  refine ⟨by omega, by omega, ?_⟩
  refine i_X0 m (setA_at _ _ _).symm fun S2 adr2 m g => ?_
  have ha := ha.trans (g 0 (by decide)).symm
  have hy : y1 = adr2 1 := (setA_at _ _ _).symm.trans (g 1 (by decide)).symm
  intro S3 e3
  have m := m.ref' (n := 0) (k := 1) e3 ha hy (by decide) (by decide) (by decide) (by decide)
  refine ⟨by omega, by omega, fun y4 hy4 S4 e4 => ?_⟩
  have m := m.new' (n := 10) hy4 e4 (by decide) (by decide) (by decide) (by decide)
  have ha := ha.trans (setA_ne _ y4 (show (0 : Nat) ≠ 10 by decide)).symm
  have r5 := m.r' (n := 0) (f := 0) (k := 1) (c := 5) ha (by decide) rfl (by decide)
  refine ⟨_, r5.1, r5.2.1, r5.2.2, ?_⟩
  refine i_X8 m (setA_at _ _ _).symm rfl fun S6 adr6 m g => ?_
  have ha := ha.trans (g 0 (by decide)).symm
  have hy : y4 = adr6 10 := (setA_at _ _ _).symm.trans (g 10 (by decide)).symm
  intro S7 e7
  have m := m.ref' (n := 0) (k := 10) e7 ha hy (by decide) (by decide) (by decide) (by decide)
  refine ⟨by omega, by omega, fun y8 hy8 S8 e8 => ?_⟩
  have m := m.new' (n := 11) hy8 e8 (by decide) (by decide) (by decide) (by decide)
  have ha := ha.trans (setA_ne _ y8 (show (0 : Nat) ≠ 11 by decide)).symm
  have r9 := m.r' (n := 0) (f := 0) (k := 1) (c := 5) ha (by decide) rfl (by decide)
  refine ⟨_, r9.1, r9.2.1, r9.2.2, ?_⟩
  refine i_X7 m (setA_at _ _ _).symm rfl (by decide) (by decide) (by decide) (by decide) (by decide) fun S10 m => ?_
  intro S11 e11
  have m := m.ref' (n := 0) (k := 11) e11 ha (setA_at _ _ _).symm (by decide) (by decide) (by decide) (by decide)
  refine ⟨by omega, by omega, fun y12 hy12 S12 e12 => ?_⟩
  have m := m.new' (n := 12) hy12 e12 (by decide) (by decide) (by decide) (by decide)
  have ha := ha.trans (setA_ne _ y12 (show (0 : Nat) ≠ 12 by decide)).symm
  have r13 := m.r' (n := 0) (f := 0) (k := 1) (c := 5) ha (by decide) rfl (by decide)
  refine ⟨_, r13.1, r13.2.1, r13.2.2, ?_⟩
  refine i_X7 m (setA_at _ _ _).symm rfl (by decide) (by decide) (by decide) (by decide) (by decide) fun S14 m => ?_
  intro S15 e15
  have m := m.ref' (n := 0) (k := 12) e15 ha (setA_at _ _ _).symm (by decide) (by decide) (by decide) (by decide)
  refine ⟨by omega, by omega, fun y16 hy16 S16 e16 => ?_⟩
  have m := m.new' (n := 13) hy16 e16 (by decide) (by decide) (by decide) (by decide)
  have ha := ha.trans (setA_ne _ y16 (show (0 : Nat) ≠ 13 by decide)).symm
  refine ⟨3, 566, by omega, by omega, ?_⟩
  refine i_X3 m (setA_at _ _ _).symm ⟨by omega, by omega⟩ fun S17 adr17 m g => ?_
  have ha := ha.trans (g 0 (by decide)).symm
  have hy : y16 = adr17 13 := (setA_at _ _ _).symm.trans (g 13 (by decide)).symm
  intro S18 e18
  have m := m.ref' (n := 0) (k := 13) e18 ha hy (by decide) (by decide) (by decide) (by decide)
  refine ⟨by omega, by omega, fun y19 hy19 S19 e19 => ?_⟩
  have m := m.new' (n := 17) hy19 e19 (by decide) (by decide) (by decide) (by decide)
  have ha := ha.trans (setA_ne _ y19 (show (0 : Nat) ≠ 17 by decide)).symm
  have r20 := m.r' (n := 0) (f := 0) (k := 1) (c := 5) ha (by decide) rfl (by decide)
  refine ⟨_, r20.1, r20.2.1, r20.2.2, ?_⟩
  have r21 := m.r' (n := 0) (f := 1) (k := 10) (c := 13) ha (by decide) rfl (by decide)
  refine ⟨_, r21.1, r21.2.1, r21.2.2, ?_⟩
  refine ⟨by omega, by omega, ?_⟩
  refine i_X4 m (setA_at _ _ _).symm rfl rfl fun S22 adr22 m g => ?_
  have ha := ha.trans (g 0 (by decide)).symm
  have hy : y19 = adr22 17 := (setA_at _ _ _).symm.trans (g 17 (by decide)).symm
  intro S23 e23
  have m := m.ref' (n := 0) (k := 17) e23 ha hy (by decide) (by decide) (by decide) (by decide)
  refine ⟨by omega, by omega, fun y24 hy24 S24 e24 => ?_⟩
  have m := m.new' (n := 22) hy24 e24 (by decide) (by decide) (by decide) (by decide)
  have ha := ha.trans (setA_ne _ y24 (show (0 : Nat) ≠ 22 by decide)).symm
  have r25 := m.r' (n := 0) (f := 0) (k := 1) (c := 5) ha (by decide) rfl (by decide)
  refine ⟨_, r25.1, r25.2.1, r25.2.2, ?_⟩
  have r26 := m.r' (n := 0) (f := 5) (k := 17) (c := 9) ha (by decide) rfl (by decide)
  refine ⟨_, r26.1, r26.2.1, r26.2.2, ?_⟩
  refine ⟨by omega, by omega, ?_⟩
  refine i_X5 m (setA_at _ _ _).symm rfl rfl fun S27 adr27 m g => ?_
  have ha := ha.trans (g 0 (by decide)).symm
  have hy : y24 = adr27 22 := (setA_at _ _ _).symm.trans (g 22 (by decide)).symm
  intro S28 e28
  have m := m.ref' (n := 0) (k := 22) e28 ha hy (by decide) (by decide) (by decide) (by decide)
  refine ⟨by omega, by omega, fun y29 hy29 S29 e29 => ?_⟩
  have m := m.new' (n := 28) hy29 e29 (by decide) (by decide) (by decide) (by decide)
  have ha := ha.trans (setA_ne _ y29 (show (0 : Nat) ≠ 28 by decide)).symm
  have r30 := m.r' (n := 0) (f := 0) (k := 1) (c := 5) ha (by decide) rfl (by decide)
  refine ⟨_, r30.1, r30.2.1, r30.2.2, ?_⟩
  refine ⟨2, 20, by omega, by omega, ?_⟩
  refine i_X6 m (setA_at _ _ _).symm rfl ⟨by omega, by omega⟩ fun S31 adr31 m g => ?_
  have ha := ha.trans (g 0 (by decide)).symm
  have hy : y29 = adr31 28 := (setA_at _ _ _).symm.trans (g 28 (by decide)).symm
  intro S32 e32
  have m := m.ref' (n := 0) (k := 28) e32 ha hy (by decide) (by decide) (by decide) (by decide)
  refine ⟨by omega, by omega, fun y33 hy33 S33 e33 => ?_⟩
  have m := m.new' (n := 30) hy33 e33 (by decide) (by decide) (by decide) (by decide)
  have ha := ha.trans (setA_ne _ y33 (show (0 : Nat) ≠ 30 by decide)).symm
  refine ⟨by omega, by omega, ?_⟩
  refine i_X10_30 m (setA_at _ _ _).symm fun S34 adr34 m g => ?_
  have ha := ha.trans (g 0 (by decide)).symm
  have hy : y33 = adr34 30 := (setA_at _ _ _).symm.trans (g 30 (by decide)).symm
  intro S35 e35
  have m := m.ref' (n := 0) (k := 30) e35 ha hy (by decide) (by decide) (by decide) (by decide)
  refine ⟨by omega, by omega, fun y36 hy36 S36 e36 => ?_⟩
  have m := m.new' (n := 32) hy36 e36 (by decide) (by decide) (by decide) (by decide)
  have ha := ha.trans (setA_ne _ y36 (show (0 : Nat) ≠ 32 by decide)).symm
  refine ⟨by omega, by omega, ?_⟩
  refine i_X10_32 m (setA_at _ _ _).symm fun S37 adr37 m g => ?_
  have ha := ha.trans (g 0 (by decide)).symm
  have hy : y36 = adr37 32 := (setA_at _ _ _).symm.trans (g 32 (by decide)).symm
  intro S38 e38
  have m := m.ref' (n := 0) (k := 32) e38 ha hy (by decide) (by decide) (by decide) (by decide)
  refine ⟨by omega, by omega, fun y39 hy39 S39 e39 => ?_⟩
  have m := m.new' (n := 34) hy39 e39 (by decide) (by decide) (by decide) (by decide)
  have ha := ha.trans (setA_ne _ y39 (show (0 : Nat) ≠ 34 by decide)).symm
  have r40 := m.r' (n := 0) (f := 5) (k := 17) (c := 9) ha (by decide) rfl (by decide)
  refine ⟨_, r40.1, r40.2.1, r40.2.2, ?_⟩
  refine ⟨by omega, by omega, ?_⟩
  refine i_X1 m (setA_at _ _ _).symm rfl fun S41 adr41 m g => ?_
  have ha := ha.trans (g 0 (by decide)).symm
  have hy : y39 = adr41 34 := (setA_at _ _ _).symm.trans (g 34 (by decide)).symm
  intro S42 e42
  have m := m.ref' (n := 0) (k := 34) e42 ha hy (by decide) (by decide) (by decide) (by decide)
  refine ⟨by omega, by omega, fun y43 hy43 S43 e43 => ?_⟩
  have m := m.new' (n := 38) hy43 e43 (by decide) (by decide) (by decide) (by decide)
  have ha := ha.trans (setA_ne _ y43 (show (0 : Nat) ≠ 38 by decide)).symm
  have r44 := m.r' (n := 0) (f := 0) (k := 1) (c := 5) ha (by decide) rfl (by decide)
  refine ⟨_, r44.1, r44.2.1, r44.2.2, ?_⟩
  have r45 := m.r' (n := 0) (f := 1) (k := 10) (c := 13) ha (by decide) rfl (by decide)
  refine ⟨_, r45.1, r45.2.1, r45.2.2, ?_⟩
  refine ⟨by omega, by omega, ?_⟩
  refine i_X9 m (setA_at _ _ _).symm rfl rfl fun S46 adr46 m g => ?_
  have ha := ha.trans (g 0 (by decide)).symm
  have hy : y43 = adr46 38 := (setA_at _ _ _).symm.trans (g 38 (by decide)).symm
  intro S47 e47
  have m := m.ref' (n := 0) (k := 38) e47 ha hy (by decide) (by decide) (by decide) (by decide)
  refine ⟨by omega, by omega, fun y48 hy48 S48 e48 => ?_⟩
  have m := m.new' (n := 45) hy48 e48 (by decide) (by decide) (by decide) (by decide)
  have ha := ha.trans (setA_ne _ y48 (show (0 : Nat) ≠ 45 by decide)).symm
  have r49 := m.r' (n := 0) (f := 0) (k := 1) (c := 5) ha (by decide) rfl (by decide)
  refine ⟨_, r49.1, r49.2.1, r49.2.2, ?_⟩
  refine ⟨by omega, by omega, ?_⟩
  refine i_X2 m (setA_at _ _ _).symm rfl fun S50 adr50 m g => ?_
  have ha := ha.trans (g 0 (by decide)).symm
  have hy : y48 = adr50 45 := (setA_at _ _ _).symm.trans (g 45 (by decide)).symm
  intro S51 e51
  have m := m.ref' (n := 0) (k := 45) e51 ha hy (by decide) (by decide) (by decide) (by decide)
  refine ⟨by omega, by omega, fun y52 hy52 S52 e52 => ?_⟩
  have m := m.new' (n := 49) hy52 e52 (by decide) (by decide) (by decide) (by decide)
  have ha := ha.trans (setA_ne _ y52 (show (0 : Nat) ≠ 49 by decide)).symm
  refine ⟨1, 16, by omega, by omega, ?_⟩
  refine i_SB (p := 49) (q := 53) m (setA_at _ _ _).symm (by decide) (by decide) (by decide) (by decide) (by decide) (by decide) (by decide) (by decide) fun S53 z53 m => ?_
  have ha := ha.trans (setA_ne _ z53 (show (0 : Nat) ≠ 53 by decide)).symm
  intro S54 e54
  have m := m.ref' (n := 0) (k := 49) e54 ha ((setA_ne _ _ (by decide)).trans (setA_at _ _ _)).symm (by decide) (by decide) (by decide) (by decide)
  refine ⟨by omega, by omega, fun y55 hy55 S55 e55 => ?_⟩
  have m := m.new' (n := 50) hy55 e55 (by decide) (by decide) (by decide) (by decide)
  have ha := ha.trans (setA_ne _ y55 (show (0 : Nat) ≠ 50 by decide)).symm
  refine ⟨1, 16, by omega, by omega, ?_⟩
  refine i_SB (p := 50) (q := 54) m (setA_at _ _ _).symm (by decide) (by decide) (by decide) (by decide) (by decide) (by decide) (by decide) (by decide) fun S56 z56 m => ?_
  have ha := ha.trans (setA_ne _ z56 (show (0 : Nat) ≠ 54 by decide)).symm
  intro S57 e57
  have m := m.ref' (n := 0) (k := 50) e57 ha ((setA_ne _ _ (by decide)).trans (setA_at _ _ _)).symm (by decide) (by decide) (by decide) (by decide)
  have n64 : ((64 : Int32)).toNatClampNeg = 64 := by decide
  rw [n64]
  refine ⟨by decide, by decide, by omega, by omega, fun y58 hy58 S58 e58 => ?_⟩
  have m := m.new' (n := 51) hy58 e58 (by decide) (by decide) (by decide) (by decide)
  have ha := ha.trans (setA_ne _ y58 (show (0 : Nat) ≠ 51 by decide)).symm
  intro S59 e59
  have m := m.ref' (n := 0) (k := 51) e59 ha (setA_at _ _ _).symm (by decide) (by decide) (by decide) (by decide)
  intro S60 e60
  have m := m.i' e60 ha (by decide) (by decide)
  intro S61 e61
  have m := m.i' e61 ha (by decide) (by decide)
  have i17 : sI S61 a0 17 = 0 := by rw [e61]; exact uI_self _ _ _ _
  have i16 : sI S61 a0 16 = 0 := by rw [e61, uI_j _ _ _ (by decide), e60]; exact uI_self _ _ _ _
  exact q_madeL m ha (by decide) (by decide +kernel) ⟨by decide, by decide, by decide, by decide, by decide, by decide⟩ i16 i17 hk106 hK k
end
