/-! PHASE 3: the class's constructors -/
section
variable {D : wD} {S0 U U' : wS} {L : List Nat} {G : List (Nat × Nat)} {adr : Nat → Nat}
theorem MDE.new' (h : MDE D S0 U L G adr) {z n k l : Nat} (hz : ¬ wM D U z) (e : U' = nA U z k l) (hn : n ∉ L) (h0 : n ≠ 0) (hk : k = ckx n) (hl : l = clx n) : MDE D S0 U' (n :: L) G (setA adr n z) := by
  rw [e, hk, hl]; exact h.new hz hn h0
theorem MDE.ref' (h : MDE D S0 U L G adr) {n f k a b : Nat} (e : U' = uR U a f (some b)) (ha : a = adr n) (hb : b = adr k) (hn : n ∈ L) (hk : k ∈ L) (hf : (n, f) ∉ G) (hs : sfx n f = some k) : MDE D S0 U' L ((n, f) :: G) adr := by
  rw [e, ha, hb]; exact h.ref hn hk hf hs
theorem MDE.ref6 (h : MDE D S0 U L G adr) {n f a b : Nat} (e : U' = uR U a f (some b)) (ha : a = adr n) (hb : b = D.2.2.1 106) (hn : n ∈ L) (hf : (n, f) ∉ G) (hs : sfx n f = none) : MDE D S0 U' L ((n, f) :: G) adr := by
  rw [e, ha]; exact h.wR hn hf (Or.inr ⟨hs, hb⟩)
theorem MDE.i' (h : MDE D S0 U L G adr) {n j a : Nat} {v : Int32} (e : U' = uI U a j v) (ha : a = adr n) (hn : n ∈ L) (hz : n ∉ ZL ∨ v = 0) : MDE D S0 U' L G adr := by
  rw [e, ha]; exact h.wI hn j v hz
theorem MDE.j' (h : MDE D S0 U L G adr) {n j a : Nat} {v : Int64} (e : U' = uJ U a j v) (ha : a = adr n) (hn : n ∈ L) : MDE D S0 U' L G adr := by
  rw [e, ha]; exact h.wJ hn j v
theorem MDE.r' (h : MDE D S0 U L G adr) {n f k a c : Nat} (ha : a = adr n) (hp : (n, f) ∈ G) (hs : sfx n f = some k) (hc : c = ckx k) : sR U a f = some (adr k) ∧ wM D U (adr k) ∧ sK U (adr k) = c := by
  rw [ha, hc]; exact h.r hp hs
theorem setA_keep {L0 : List Nat} {adr0 : Nat → Nat} (g : ∀ n, n ∈ L0 → adr n = adr0 n) {N z : Nat} (hN : N ∉ L0) : ∀ n, n ∈ L0 → setA adr N z n = adr0 n := fun n hn => by
  rw [setA_ne _ _ (fun q => hN (by rw [← q]; exact hn))]; exact g n hn
/-- a position -/
theorem i_X7 {post : wS → Prop} {p a b : Nat} (m : MDE D S0 U L G adr) (ha : a = adr p) (hb : b = adr 1) (hp : p ∈ L) (h1 : 1 ∈ L) (hz : p ∉ ZL) (hf : (p, 0) ∉ G) (hs : sfx p 0 = some 1) (k : ∀ U', MDE D S0 U' L ((p, 0) :: G) adr → post U') : wp_X7_init D post U a b := by
  unfold wp_X7_init wp_X7_init_0
  intro S1 e1 S2 e2 S3 e3 S4 e4
  have m := (((m.j' e1 ha hp).j' e2 ha hp).j' e3 ha hp).j' e4 ha hp
  refine ⟨by rfl, by rfl, ?_⟩
  intro S5 e5 S7 e7 S8 e8 S9 e9
  have m := ((m.i' e5 ha hp (Or.inl hz)).i' e7 ha hp (Or.inl hz)).i' e8 ha hp (Or.inl hz)
  exact k S9 (m.ref' e9 ha hb hp h1 hf hs)
/-- a string builder and its row -/
theorem i_SB {post : wS → Prop} {p q a bc bs : Nat} (m : MDE D S0 U L G adr) (ha : a = adr p) (hp : p ∈ L) (hq : q ∉ L) (q0 : q ≠ 0) (qk : 20 = ckx q) (ql : 16 = clx q) (hf : (p, 0) ∉ G) (hs : sfx p 0 = some q) (hb : 1 ≤ bc ∧ 16 ≤ bs) (k : ∀ U' z, MDE D S0 U' (q :: L) ((p, 0) :: G) (setA adr q z) → post U') : wp_J4_init_da8c8 D post bc bs U a := by
  unfold wp_J4_init_da8c8 wp_J4_init_da8c8_0
  refine ⟨bc, bs, Nat.le_refl _, Nat.le_refl _, ?_⟩
  unfold wp_J5_init_d00df wp_J5_init_d00df_0 wp_J5_init_d00df_38
  have n16 : ((16 : Int32)).toNatClampNeg = 16 := by decide
  refine ⟨fun w => absurd w (by decide), fun _ => ⟨by decide, by decide, hb.1, by rw [n16]; exact hb.2, fun z hz S10 e10 S12 e12 => ⟨by rfl, by rfl, fun S13 e13 => ?_⟩⟩⟩
  have pq : p ≠ q := fun w => hq (w ▸ hp)
  have m := m.new' (n := q) hz e10 hq q0 qk (n16.trans ql)
  have ha : a = setA adr q z p := by rw [setA_ne _ _ pq]; exact ha
  have m := m.ref' (n := p) (k := q) e12 ha (setA_at _ _ _).symm (List.mem_cons_of_mem _ hp) List.mem_cons_self hf hs
  exact k S13 z (m.i' e13 ha (List.mem_cons_of_mem _ hp) (Or.inr rfl))
/-- a list -/
theorem i_AL {post : wS → Prop} {p a : Nat} (m : MDE D S0 U L G adr) (ha : a = adr p) (hp : p ∈ L) (hf : (p, 1) ∉ G) (hs : sfx p 1 = none) (k : ∀ U', MDE D S0 U' L ((p, 1) :: G) adr → post U') : wp_Jx4a65c_init_da8c8 D post U a := by
  unfold wp_Jx4a65c_init_da8c8 wp_Jx4a65c_init_da8c8_0 wp_Jxc12de_init_da8c8 wp_Jxc12de_init_da8c8_0 wp_Jxa1e45_init_da8c8 wp_Jxa1e45_init_da8c8_0
  intro S3 e3 y hy S4 e4
  exact k S4 ((m.i' e3 ha hp (Or.inr rfl)).ref6 e4 ha hy hp hf hs)

theorem i_X0 {post : wS → Prop} {a : Nat} (m : MDE D S0 U [1, 0] [] adr) (ha : a = adr 1) (k : ∀ U' adr', MDE D S0 U' [9, 8, 7, 6, 5, 4, 3, 2, 1, 0] [(1, 11), (1, 10), (1, 9), (1, 8), (1, 7), (1, 6), (1, 5), (1, 4)] adr' → (∀ n, n ∈ [1, 0] → adr' n = adr n) → post U') : wp_X0_init D post U a := by
  unfold wp_X0_init wp_X0_init_0
  have g : ∀ n, n ∈ [1, 0] → adr n = adr n := fun _ _ => rfl
  intro S1 e1
  have m := m.i' e1 ha (by decide) (by decide)
  intro S2 e2
  have m := m.i' e2 ha (by decide) (by decide)
  intro S3 e3
  have m := m.i' e3 ha (by decide) (by decide)
  intro S4 e4
  have m := m.j' e4 ha (by decide)
  refine ⟨by decide, by decide, fun y5 hy5 S5 e5 => ?_⟩
  have m := m.new' (n := 2) hy5 e5 (by decide) (by decide) (by decide) (by decide)
  have g := setA_keep (N := 2) (z := y5) g (by decide)
  have ha := ha.trans (setA_ne _ y5 (show (1 : Nat) ≠ 2 by decide)).symm
  intro S6 e6
  have m := m.ref' (n := 1) (k := 2) e6 ha (setA_at _ _ _).symm (by decide) (by decide) (by decide) (by decide)
  refine ⟨by decide, by decide, fun y7 hy7 S7 e7 => ?_⟩
  have m := m.new' (n := 3) hy7 e7 (by decide) (by decide) (by decide) (by decide)
  have g := setA_keep (N := 3) (z := y7) g (by decide)
  have ha := ha.trans (setA_ne _ y7 (show (1 : Nat) ≠ 3 by decide)).symm
  intro S8 e8
  have m := m.ref' (n := 1) (k := 3) e8 ha (setA_at _ _ _).symm (by decide) (by decide) (by decide) (by decide)
  refine ⟨by decide, by decide, fun y9 hy9 S9 e9 => ?_⟩
  have m := m.new' (n := 4) hy9 e9 (by decide) (by decide) (by decide) (by decide)
  have g := setA_keep (N := 4) (z := y9) g (by decide)
  have ha := ha.trans (setA_ne _ y9 (show (1 : Nat) ≠ 4 by decide)).symm
  intro S10 e10
  have m := m.ref' (n := 1) (k := 4) e10 ha (setA_at _ _ _).symm (by decide) (by decide) (by decide) (by decide)
  refine ⟨by decide, by decide, fun y11 hy11 S11 e11 => ?_⟩
  have m := m.new' (n := 5) hy11 e11 (by decide) (by decide) (by decide) (by decide)
  have g := setA_keep (N := 5) (z := y11) g (by decide)
  have ha := ha.trans (setA_ne _ y11 (show (1 : Nat) ≠ 5 by decide)).symm
  intro S12 e12
  have m := m.ref' (n := 1) (k := 5) e12 ha (setA_at _ _ _).symm (by decide) (by decide) (by decide) (by decide)
  refine ⟨by decide, by decide, fun y13 hy13 S13 e13 => ?_⟩
  have m := m.new' (n := 6) hy13 e13 (by decide) (by decide) (by decide) (by decide)
  have g := setA_keep (N := 6) (z := y13) g (by decide)
  have ha := ha.trans (setA_ne _ y13 (show (1 : Nat) ≠ 6 by decide)).symm
  intro S14 e14
  have m := m.ref' (n := 1) (k := 6) e14 ha (setA_at _ _ _).symm (by decide) (by decide) (by decide) (by decide)
  refine ⟨by decide, by decide, fun y15 hy15 S15 e15 => ?_⟩
  have m := m.new' (n := 7) hy15 e15 (by decide) (by decide) (by decide) (by decide)
  have g := setA_keep (N := 7) (z := y15) g (by decide)
  have ha := ha.trans (setA_ne _ y15 (show (1 : Nat) ≠ 7 by decide)).symm
  intro S16 e16
  have m := m.ref' (n := 1) (k := 7) e16 ha (setA_at _ _ _).symm (by decide) (by decide) (by decide) (by decide)
  refine ⟨by decide, by decide, fun y17 hy17 S17 e17 => ?_⟩
  have m := m.new' (n := 8) hy17 e17 (by decide) (by decide) (by decide) (by decide)
  have g := setA_keep (N := 8) (z := y17) g (by decide)
  have ha := ha.trans (setA_ne _ y17 (show (1 : Nat) ≠ 8 by decide)).symm
  intro S18 e18
  have m := m.ref' (n := 1) (k := 8) e18 ha (setA_at _ _ _).symm (by decide) (by decide) (by decide) (by decide)
  refine ⟨by decide, by decide, fun y19 hy19 S19 e19 => ?_⟩
  have m := m.new' (n := 9) hy19 e19 (by decide) (by decide) (by decide) (by decide)
  have g := setA_keep (N := 9) (z := y19) g (by decide)
  have ha := ha.trans (setA_ne _ y19 (show (1 : Nat) ≠ 9 by decide)).symm
  intro S20 e20
  have m := m.ref' (n := 1) (k := 9) e20 ha (setA_at _ _ _).symm (by decide) (by decide) (by decide) (by decide)
  exact k _ _ m g
theorem i_X8 {post : wS → Prop} {a b : Nat} (m : MDE D S0 U [10, 9, 8, 7, 6, 5, 4, 3, 2, 1, 0] [(0, 0), (1, 11), (1, 10), (1, 9), (1, 8), (1, 7), (1, 6), (1, 5), (1, 4)] adr) (ha : a = adr 10) (hb : b = adr 1) (k : ∀ U' adr', MDE D S0 U' [10, 9, 8, 7, 6, 5, 4, 3, 2, 1, 0] [(10, 0), (0, 0), (1, 11), (1, 10), (1, 9), (1, 8), (1, 7), (1, 6), (1, 5), (1, 4)] adr' → (∀ n, n ∈ [10, 9, 8, 7, 6, 5, 4, 3, 2, 1, 0] → adr' n = adr n) → post U') : wp_X8_init D post U a b := by
  unfold wp_X8_init wp_X8_init_0
  have g : ∀ n, n ∈ [10, 9, 8, 7, 6, 5, 4, 3, 2, 1, 0] → adr n = adr n := fun _ _ => rfl
  intro S1 e1
  have m := m.i' e1 ha (by decide) (by decide)
  intro S2 e2
  have m := m.j' e2 ha (by decide)
  intro S3 e3
  have m := m.j' e3 ha (by decide)
  refine ⟨by rfl, by rfl, ?_⟩
  intro S4 e4
  have m := m.i' e4 ha (by decide) (by decide)
  intro S5 e5
  have m := m.j' e5 ha (by decide)
  intro S6 e6
  have m := m.ref' (n := 10) (k := 1) e6 ha hb (by decide) (by decide) (by decide) (by decide)
  exact k _ _ m g
theorem i_X3 {post : wS → Prop} {a bc bs : Nat} (m : MDE D S0 U [13, 12, 11, 10, 9, 8, 7, 6, 5, 4, 3, 2, 1, 0] [(0, 3), (12, 0), (0, 2), (11, 0), (0, 1), (10, 0), (0, 0), (1, 11), (1, 10), (1, 9), (1, 8), (1, 7), (1, 6), (1, 5), (1, 4)] adr) (ha : a = adr 13) (hbd : 3 ≤ bc ∧ 566 ≤ bs) (k : ∀ U' adr', MDE D S0 U' [16, 15, 14, 13, 12, 11, 10, 9, 8, 7, 6, 5, 4, 3, 2, 1, 0] [(13, 2), (13, 1), (13, 0), (0, 3), (12, 0), (0, 2), (11, 0), (0, 1), (10, 0), (0, 0), (1, 11), (1, 10), (1, 9), (1, 8), (1, 7), (1, 6), (1, 5), (1, 4)] adr' → (∀ n, n ∈ [13, 12, 11, 10, 9, 8, 7, 6, 5, 4, 3, 2, 1, 0] → adr' n = adr n) → post U') : wp_X3_init D post bc bs U a (80 : Int32) := by
  unfold wp_X3_init wp_X3_init_0
  have g : ∀ n, n ∈ [13, 12, 11, 10, 9, 8, 7, 6, 5, 4, 3, 2, 1, 0] → adr n = adr n := fun _ _ => rfl
  intro S1 e1
  have m := m.i' e1 ha (by decide) (by decide)
  intro S2 e2
  have m := m.i' e2 ha (by decide) (by decide)
  intro S3 e3
  have m := m.i' e3 ha (by decide) (by decide)
  intro S4 e4
  have m := m.i' e4 ha (by decide) (by decide)
  intro S5 e5
  have m := m.i' e5 ha (by decide) (by decide)
  intro S6 e6
  have m := m.i' e6 ha (by decide) (by decide)
  intro x7 e7
  have e7 : x7 = (80 : Int32) := by rw [e7]; decide
  subst e7
  have n405 : ((((80 : Int32) + (1 : Int32)) * (5 : Int32))).toNatClampNeg = 405 := by decide
  have n80 : ((80 : Int32)).toNatClampNeg = 80 := by decide
  have n81 : (((80 : Int32) + (1 : Int32))).toNatClampNeg = 81 := by decide
  rw [n405, n80, n81]
  refine ⟨by decide, by decide, by omega, by omega, fun y7 hy7 S7 e7 => ?_⟩
  have m := m.new' (n := 14) hy7 e7 (by decide) (by decide) (by decide) (by decide)
  have g := setA_keep (N := 14) (z := y7) g (by decide)
  have ha := ha.trans (setA_ne _ y7 (show (13 : Nat) ≠ 14 by decide)).symm
  intro S8 e8
  have m := m.ref' (n := 13) (k := 14) e8 ha (setA_at _ _ _).symm (by decide) (by decide) (by decide) (by decide)
  refine ⟨by decide, by decide, by omega, by omega, fun y9 hy9 S9 e9 => ?_⟩
  have m := m.new' (n := 15) hy9 e9 (by decide) (by decide) (by decide) (by decide)
  have g := setA_keep (N := 15) (z := y9) g (by decide)
  have ha := ha.trans (setA_ne _ y9 (show (13 : Nat) ≠ 15 by decide)).symm
  intro S10 e10
  have m := m.ref' (n := 13) (k := 15) e10 ha (setA_at _ _ _).symm (by decide) (by decide) (by decide) (by decide)
  refine ⟨by decide, by decide, by omega, by omega, fun y11 hy11 S11 e11 => ?_⟩
  have m := m.new' (n := 16) hy11 e11 (by decide) (by decide) (by decide) (by decide)
  have g := setA_keep (N := 16) (z := y11) g (by decide)
  have ha := ha.trans (setA_ne _ y11 (show (13 : Nat) ≠ 16 by decide)).symm
  intro S12 e12
  have m := m.ref' (n := 13) (k := 16) e12 ha (setA_at _ _ _).symm (by decide) (by decide) (by decide) (by decide)
  exact k _ _ m g
theorem i_X4 {post : wS → Prop} {a b c : Nat} (m : MDE D S0 U [17, 16, 15, 14, 13, 12, 11, 10, 9, 8, 7, 6, 5, 4, 3, 2, 1, 0] [(0, 4), (13, 2), (13, 1), (13, 0), (0, 3), (12, 0), (0, 2), (11, 0), (0, 1), (10, 0), (0, 0), (1, 11), (1, 10), (1, 9), (1, 8), (1, 7), (1, 6), (1, 5), (1, 4)] adr) (ha : a = adr 17) (hb : b = adr 1) (hc : c = adr 10) (k : ∀ U' adr', MDE D S0 U' [19, 18, 21, 20, 17, 16, 15, 14, 13, 12, 11, 10, 9, 8, 7, 6, 5, 4, 3, 2, 1, 0] [(17, 3), (19, 0), (17, 2), (18, 0), (17, 1), (17, 0), (17, 5), (17, 4), (0, 4), (13, 2), (13, 1), (13, 0), (0, 3), (12, 0), (0, 2), (11, 0), (0, 1), (10, 0), (0, 0), (1, 11), (1, 10), (1, 9), (1, 8), (1, 7), (1, 6), (1, 5), (1, 4)] adr' → (∀ n, n ∈ [17, 16, 15, 14, 13, 12, 11, 10, 9, 8, 7, 6, 5, 4, 3, 2, 1, 0] → adr' n = adr n) → post U') : wp_X4_init D post U a b c := by
  unfold wp_X4_init wp_X4_init_0
  have g : ∀ n, n ∈ [17, 16, 15, 14, 13, 12, 11, 10, 9, 8, 7, 6, 5, 4, 3, 2, 1, 0] → adr n = adr n := fun _ _ => rfl
  refine ⟨by decide, by decide, fun y1 hy1 S1 e1 => ?_⟩
  have m := m.new' (n := 20) hy1 e1 (by decide) (by decide) (by decide) (by decide)
  have g := setA_keep (N := 20) (z := y1) g (by decide)
  have ha := ha.trans (setA_ne _ y1 (show (17 : Nat) ≠ 20 by decide)).symm
  have hb := hb.trans (setA_ne _ y1 (show (1 : Nat) ≠ 20 by decide)).symm
  have hc := hc.trans (setA_ne _ y1 (show (10 : Nat) ≠ 20 by decide)).symm
  intro S2 e2
  have m := m.ref' (n := 17) (k := 20) e2 ha (setA_at _ _ _).symm (by decide) (by decide) (by decide) (by decide)
  refine ⟨by decide, by decide, fun y3 hy3 S3 e3 => ?_⟩
  have m := m.new' (n := 21) hy3 e3 (by decide) (by decide) (by decide) (by decide)
  have g := setA_keep (N := 21) (z := y3) g (by decide)
  have ha := ha.trans (setA_ne _ y3 (show (17 : Nat) ≠ 21 by decide)).symm
  have hb := hb.trans (setA_ne _ y3 (show (1 : Nat) ≠ 21 by decide)).symm
  have hc := hc.trans (setA_ne _ y3 (show (10 : Nat) ≠ 21 by decide)).symm
  intro S4 e4
  have m := m.ref' (n := 17) (k := 21) e4 ha (setA_at _ _ _).symm (by decide) (by decide) (by decide) (by decide)
  refine ⟨by rfl, by rfl, ?_⟩
  intro S5 e5
  have m := m.i' e5 ha (by decide) (by decide)
  intro S6 e6
  have m := m.i' e6 ha (by decide) (by decide)
  intro S7 e7
  have m := m.ref' (n := 17) (k := 1) e7 ha hb (by decide) (by decide) (by decide) (by decide)
  intro S8 e8
  have m := m.ref' (n := 17) (k := 10) e8 ha hc (by decide) (by decide) (by decide) (by decide)
  intro y10 hy10 S10 e10
  have m := m.new' (n := 18) hy10 e10 (by decide) (by decide) (by decide) (by decide)
  have g := setA_keep (N := 18) (z := y10) g (by decide)
  have ha := ha.trans (setA_ne _ y10 (show (17 : Nat) ≠ 18 by decide)).symm
  refine i_X7 m (setA_at _ _ _).symm (hb.trans (setA_ne _ y10 (show (1 : Nat) ≠ 18 by decide)).symm) (by decide) (by decide) (by decide) (by decide) (by decide) fun S11 m => ?_
  have hb := hb.trans (setA_ne _ y10 (show (1 : Nat) ≠ 18 by decide)).symm
  have hc := hc.trans (setA_ne _ y10 (show (10 : Nat) ≠ 18 by decide)).symm
  intro S12 e12
  have m := m.ref' (n := 17) (k := 18) e12 ha (setA_at _ _ _).symm (by decide) (by decide) (by decide) (by decide)
  intro y14 hy14 S14 e14
  have m := m.new' (n := 19) hy14 e14 (by decide) (by decide) (by decide) (by decide)
  have g := setA_keep (N := 19) (z := y14) g (by decide)
  have ha := ha.trans (setA_ne _ y14 (show (17 : Nat) ≠ 19 by decide)).symm
  refine i_X7 m (setA_at _ _ _).symm (hb.trans (setA_ne _ y14 (show (1 : Nat) ≠ 19 by decide)).symm) (by decide) (by decide) (by decide) (by decide) (by decide) fun S15 m => ?_
  have hb := hb.trans (setA_ne _ y14 (show (1 : Nat) ≠ 19 by decide)).symm
  have hc := hc.trans (setA_ne _ y14 (show (10 : Nat) ≠ 19 by decide)).symm
  intro S16 e16
  have m := m.ref' (n := 17) (k := 19) e16 ha (setA_at _ _ _).symm (by decide) (by decide) (by decide) (by decide)
  exact k _ _ m g
theorem i_X5 {post : wS → Prop} {a b c : Nat} (m : MDE D S0 U [22, 19, 18, 21, 20, 17, 16, 15, 14, 13, 12, 11, 10, 9, 8, 7, 6, 5, 4, 3, 2, 1, 0] [(0, 5), (17, 3), (19, 0), (17, 2), (18, 0), (17, 1), (17, 0), (17, 5), (17, 4), (0, 4), (13, 2), (13, 1), (13, 0), (0, 3), (12, 0), (0, 2), (11, 0), (0, 1), (10, 0), (0, 0), (1, 11), (1, 10), (1, 9), (1, 8), (1, 7), (1, 6), (1, 5), (1, 4)] adr) (ha : a = adr 22) (hb : b = adr 1) (hc : c = adr 17) (k : ∀ U' adr', MDE D S0 U' [23, 27, 26, 25, 24, 22, 19, 18, 21, 20, 17, 16, 15, 14, 13, 12, 11, 10, 9, 8, 7, 6, 5, 4, 3, 2, 1, 0] [(22, 1), (23, 0), (22, 0), (22, 5), (22, 4), (22, 3), (22, 2), (0, 5), (17, 3), (19, 0), (17, 2), (18, 0), (17, 1), (17, 0), (17, 5), (17, 4), (0, 4), (13, 2), (13, 1), (13, 0), (0, 3), (12, 0), (0, 2), (11, 0), (0, 1), (10, 0), (0, 0), (1, 11), (1, 10), (1, 9), (1, 8), (1, 7), (1, 6), (1, 5), (1, 4)] adr' → (∀ n, n ∈ [22, 19, 18, 21, 20, 17, 16, 15, 14, 13, 12, 11, 10, 9, 8, 7, 6, 5, 4, 3, 2, 1, 0] → adr' n = adr n) → post U') : wp_X5_init D post U a b c := by
  unfold wp_X5_init wp_X5_init_0
  have g : ∀ n, n ∈ [22, 19, 18, 21, 20, 17, 16, 15, 14, 13, 12, 11, 10, 9, 8, 7, 6, 5, 4, 3, 2, 1, 0] → adr n = adr n := fun _ _ => rfl
  refine ⟨by decide, by decide, fun y1 hy1 S1 e1 => ?_⟩
  have m := m.new' (n := 24) hy1 e1 (by decide) (by decide) (by decide) (by decide)
  have g := setA_keep (N := 24) (z := y1) g (by decide)
  have ha := ha.trans (setA_ne _ y1 (show (22 : Nat) ≠ 24 by decide)).symm
  have hb := hb.trans (setA_ne _ y1 (show (1 : Nat) ≠ 24 by decide)).symm
  have hc := hc.trans (setA_ne _ y1 (show (17 : Nat) ≠ 24 by decide)).symm
  intro S2 e2
  have m := m.ref' (n := 22) (k := 24) e2 ha (setA_at _ _ _).symm (by decide) (by decide) (by decide) (by decide)
  refine ⟨by decide, by decide, fun y3 hy3 S3 e3 => ?_⟩
  have m := m.new' (n := 25) hy3 e3 (by decide) (by decide) (by decide) (by decide)
  have g := setA_keep (N := 25) (z := y3) g (by decide)
  have ha := ha.trans (setA_ne _ y3 (show (22 : Nat) ≠ 25 by decide)).symm
  have hb := hb.trans (setA_ne _ y3 (show (1 : Nat) ≠ 25 by decide)).symm
  have hc := hc.trans (setA_ne _ y3 (show (17 : Nat) ≠ 25 by decide)).symm
  intro S4 e4
  have m := m.ref' (n := 22) (k := 25) e4 ha (setA_at _ _ _).symm (by decide) (by decide) (by decide) (by decide)
  refine ⟨by decide, by decide, fun y5 hy5 S5 e5 => ?_⟩
  have m := m.new' (n := 26) hy5 e5 (by decide) (by decide) (by decide) (by decide)
  have g := setA_keep (N := 26) (z := y5) g (by decide)
  have ha := ha.trans (setA_ne _ y5 (show (22 : Nat) ≠ 26 by decide)).symm
  have hb := hb.trans (setA_ne _ y5 (show (1 : Nat) ≠ 26 by decide)).symm
  have hc := hc.trans (setA_ne _ y5 (show (17 : Nat) ≠ 26 by decide)).symm
  intro S6 e6
  have m := m.ref' (n := 22) (k := 26) e6 ha (setA_at _ _ _).symm (by decide) (by decide) (by decide) (by decide)
  refine ⟨by decide, by decide, fun y7 hy7 S7 e7 => ?_⟩
  have m := m.new' (n := 27) hy7 e7 (by decide) (by decide) (by decide) (by decide)
  have g := setA_keep (N := 27) (z := y7) g (by decide)
  have ha := ha.trans (setA_ne _ y7 (show (22 : Nat) ≠ 27 by decide)).symm
  have hb := hb.trans (setA_ne _ y7 (show (1 : Nat) ≠ 27 by decide)).symm
  have hc := hc.trans (setA_ne _ y7 (show (17 : Nat) ≠ 27 by decide)).symm
  intro S8 e8
  have m := m.ref' (n := 22) (k := 27) e8 ha (setA_at _ _ _).symm (by decide) (by decide) (by decide) (by decide)
  intro S9 e9
  have m := m.i' e9 ha (by decide) (by decide)
  intro S10 e10
  have m := m.i' e10 ha (by decide) (by decide)
  intro S11 e11
  have m := m.i' e11 ha (by decide) (by decide)
  refine ⟨by rfl, by rfl, ?_⟩
  intro S12 e12
  have m := m.i' e12 ha (by decide) (by decide)
  refine ⟨by rfl, by rfl, ?_⟩
  intro S13 e13
  have m := m.i' e13 ha (by decide) (by decide)
  intro S14 e14
  have m := m.ref' (n := 22) (k := 17) e14 ha hc (by decide) (by decide) (by decide) (by decide)
  intro y16 hy16 S16 e16
  have m := m.new' (n := 23) hy16 e16 (by decide) (by decide) (by decide) (by decide)
  have g := setA_keep (N := 23) (z := y16) g (by decide)
  have ha := ha.trans (setA_ne _ y16 (show (22 : Nat) ≠ 23 by decide)).symm
  refine i_X7 m (setA_at _ _ _).symm (hb.trans (setA_ne _ y16 (show (1 : Nat) ≠ 23 by decide)).symm) (by decide) (by decide) (by decide) (by decide) (by decide) fun S17 m => ?_
  have hb := hb.trans (setA_ne _ y16 (show (1 : Nat) ≠ 23 by decide)).symm
  have hc := hc.trans (setA_ne _ y16 (show (17 : Nat) ≠ 23 by decide)).symm
  intro S18 e18
  have m := m.ref' (n := 22) (k := 23) e18 ha (setA_at _ _ _).symm (by decide) (by decide) (by decide) (by decide)
  exact k _ _ m g
theorem i_X6 {post : wS → Prop} {a b bc bs : Nat} (m : MDE D S0 U [28, 23, 27, 26, 25, 24, 22, 19, 18, 21, 20, 17, 16, 15, 14, 13, 12, 11, 10, 9, 8, 7, 6, 5, 4, 3, 2, 1, 0] [(0, 6), (22, 1), (23, 0), (22, 0), (22, 5), (22, 4), (22, 3), (22, 2), (0, 5), (17, 3), (19, 0), (17, 2), (18, 0), (17, 1), (17, 0), (17, 5), (17, 4), (0, 4), (13, 2), (13, 1), (13, 0), (0, 3), (12, 0), (0, 2), (11, 0), (0, 1), (10, 0), (0, 0), (1, 11), (1, 10), (1, 9), (1, 8), (1, 7), (1, 6), (1, 5), (1, 4)] adr) (ha : a = adr 28) (hb : b = adr 1) (hbd : 2 ≤ bc ∧ 20 ≤ bs) (k : ∀ U' adr', MDE D S0 U' [52, 29, 28, 23, 27, 26, 25, 24, 22, 19, 18, 21, 20, 17, 16, 15, 14, 13, 12, 11, 10, 9, 8, 7, 6, 5, 4, 3, 2, 1, 0] [(28, 0), (28, 1), (29, 0), (0, 6), (22, 1), (23, 0), (22, 0), (22, 5), (22, 4), (22, 3), (22, 2), (0, 5), (17, 3), (19, 0), (17, 2), (18, 0), (17, 1), (17, 0), (17, 5), (17, 4), (0, 4), (13, 2), (13, 1), (13, 0), (0, 3), (12, 0), (0, 2), (11, 0), (0, 1), (10, 0), (0, 0), (1, 11), (1, 10), (1, 9), (1, 8), (1, 7), (1, 6), (1, 5), (1, 4)] adr' → (∀ n, n ∈ [28, 23, 27, 26, 25, 24, 22, 19, 18, 21, 20, 17, 16, 15, 14, 13, 12, 11, 10, 9, 8, 7, 6, 5, 4, 3, 2, 1, 0] → adr' n = adr n) → post U') : wp_X6_init D post bc bs U a b := by
  unfold wp_X6_init wp_X6_init_0
  have g : ∀ n, n ∈ [28, 23, 27, 26, 25, 24, 22, 19, 18, 21, 20, 17, 16, 15, 14, 13, 12, 11, 10, 9, 8, 7, 6, 5, 4, 3, 2, 1, 0] → adr n = adr n := fun _ _ => rfl
  refine ⟨by omega, by omega, ?_⟩
  intro y1 hy1 S1 e1
  have m := m.new' (n := 29) hy1 e1 (by decide) (by decide) (by decide) (by decide)
  have g := setA_keep (N := 29) (z := y1) g (by decide)
  have ha := ha.trans (setA_ne _ y1 (show (28 : Nat) ≠ 29 by decide)).symm
  have hb := hb.trans (setA_ne _ y1 (show (1 : Nat) ≠ 29 by decide)).symm
  refine ⟨1, 16, by omega, by omega, ?_⟩
  refine i_SB (p := 29) (q := 52) m (setA_at _ _ _).symm (by decide) (by decide) (by decide) (by decide) (by decide) (by decide) (by decide) (by decide) fun S40 z40 m => ?_
  have g := setA_keep (N := 52) (z := z40) g (by decide)
  have ha := ha.trans (setA_ne _ z40 (show (28 : Nat) ≠ 52 by decide)).symm
  have hb := hb.trans (setA_ne _ z40 (show (1 : Nat) ≠ 52 by decide)).symm
  intro S2 e2
  have m := m.ref' (n := 28) (k := 29) e2 ha (by rw [setA_ne _ _ (by decide)]; exact (setA_at _ _ _).symm) (by decide) (by decide) (by decide) (by decide)
  intro S3 e3
  have m := m.i' e3 ha (by decide) (by decide)
  intro S4 e4
  have m := m.ref' (n := 28) (k := 1) e4 ha hb (by decide) (by decide) (by decide) (by decide)
  exact k _ _ m g
theorem i_X10_30 {post : wS → Prop} {a : Nat} (m : MDE D S0 U [30, 52, 29, 28, 23, 27, 26, 25, 24, 22, 19, 18, 21, 20, 17, 16, 15, 14, 13, 12, 11, 10, 9, 8, 7, 6, 5, 4, 3, 2, 1, 0] [(0, 7), (28, 0), (28, 1), (29, 0), (0, 6), (22, 1), (23, 0), (22, 0), (22, 5), (22, 4), (22, 3), (22, 2), (0, 5), (17, 3), (19, 0), (17, 2), (18, 0), (17, 1), (17, 0), (17, 5), (17, 4), (0, 4), (13, 2), (13, 1), (13, 0), (0, 3), (12, 0), (0, 2), (11, 0), (0, 1), (10, 0), (0, 0), (1, 11), (1, 10), (1, 9), (1, 8), (1, 7), (1, 6), (1, 5), (1, 4)] adr) (ha : a = adr 30) (k : ∀ U' adr', MDE D S0 U' [31, 30, 52, 29, 28, 23, 27, 26, 25, 24, 22, 19, 18, 21, 20, 17, 16, 15, 14, 13, 12, 11, 10, 9, 8, 7, 6, 5, 4, 3, 2, 1, 0] [(30, 0), (31, 1), (0, 7), (28, 0), (28, 1), (29, 0), (0, 6), (22, 1), (23, 0), (22, 0), (22, 5), (22, 4), (22, 3), (22, 2), (0, 5), (17, 3), (19, 0), (17, 2), (18, 0), (17, 1), (17, 0), (17, 5), (17, 4), (0, 4), (13, 2), (13, 1), (13, 0), (0, 3), (12, 0), (0, 2), (11, 0), (0, 1), (10, 0), (0, 0), (1, 11), (1, 10), (1, 9), (1, 8), (1, 7), (1, 6), (1, 5), (1, 4)] adr' → (∀ n, n ∈ [30, 52, 29, 28, 23, 27, 26, 25, 24, 22, 19, 18, 21, 20, 17, 16, 15, 14, 13, 12, 11, 10, 9, 8, 7, 6, 5, 4, 3, 2, 1, 0] → adr' n = adr n) → post U') : wp_X10_init D post U a := by
  unfold wp_X10_init wp_X10_init_0
  have g : ∀ n, n ∈ [30, 52, 29, 28, 23, 27, 26, 25, 24, 22, 19, 18, 21, 20, 17, 16, 15, 14, 13, 12, 11, 10, 9, 8, 7, 6, 5, 4, 3, 2, 1, 0] → adr n = adr n := fun _ _ => rfl
  intro y1 hy1 S1 e1
  have m := m.new' (n := 31) hy1 e1 (by decide) (by decide) (by decide) (by decide)
  have g := setA_keep (N := 31) (z := y1) g (by decide)
  have ha := ha.trans (setA_ne _ y1 (show (30 : Nat) ≠ 31 by decide)).symm
  refine i_AL (p := 31) m (setA_at _ _ _).symm (by decide) (by decide) (by decide) fun S40 m => ?_
  intro S2 e2
  have m := m.ref' (n := 30) (k := 31) e2 ha (setA_at _ _ _).symm (by decide) (by decide) (by decide) (by decide)
  exact k _ _ m g
theorem i_X10_32 {post : wS → Prop} {a : Nat} (m : MDE D S0 U [32, 31, 30, 52, 29, 28, 23, 27, 26, 25, 24, 22, 19, 18, 21, 20, 17, 16, 15, 14, 13, 12, 11, 10, 9, 8, 7, 6, 5, 4, 3, 2, 1, 0] [(0, 8), (30, 0), (31, 1), (0, 7), (28, 0), (28, 1), (29, 0), (0, 6), (22, 1), (23, 0), (22, 0), (22, 5), (22, 4), (22, 3), (22, 2), (0, 5), (17, 3), (19, 0), (17, 2), (18, 0), (17, 1), (17, 0), (17, 5), (17, 4), (0, 4), (13, 2), (13, 1), (13, 0), (0, 3), (12, 0), (0, 2), (11, 0), (0, 1), (10, 0), (0, 0), (1, 11), (1, 10), (1, 9), (1, 8), (1, 7), (1, 6), (1, 5), (1, 4)] adr) (ha : a = adr 32) (k : ∀ U' adr', MDE D S0 U' [33, 32, 31, 30, 52, 29, 28, 23, 27, 26, 25, 24, 22, 19, 18, 21, 20, 17, 16, 15, 14, 13, 12, 11, 10, 9, 8, 7, 6, 5, 4, 3, 2, 1, 0] [(32, 0), (33, 1), (0, 8), (30, 0), (31, 1), (0, 7), (28, 0), (28, 1), (29, 0), (0, 6), (22, 1), (23, 0), (22, 0), (22, 5), (22, 4), (22, 3), (22, 2), (0, 5), (17, 3), (19, 0), (17, 2), (18, 0), (17, 1), (17, 0), (17, 5), (17, 4), (0, 4), (13, 2), (13, 1), (13, 0), (0, 3), (12, 0), (0, 2), (11, 0), (0, 1), (10, 0), (0, 0), (1, 11), (1, 10), (1, 9), (1, 8), (1, 7), (1, 6), (1, 5), (1, 4)] adr' → (∀ n, n ∈ [32, 31, 30, 52, 29, 28, 23, 27, 26, 25, 24, 22, 19, 18, 21, 20, 17, 16, 15, 14, 13, 12, 11, 10, 9, 8, 7, 6, 5, 4, 3, 2, 1, 0] → adr' n = adr n) → post U') : wp_X10_init D post U a := by
  unfold wp_X10_init wp_X10_init_0
  have g : ∀ n, n ∈ [32, 31, 30, 52, 29, 28, 23, 27, 26, 25, 24, 22, 19, 18, 21, 20, 17, 16, 15, 14, 13, 12, 11, 10, 9, 8, 7, 6, 5, 4, 3, 2, 1, 0] → adr n = adr n := fun _ _ => rfl
  intro y1 hy1 S1 e1
  have m := m.new' (n := 33) hy1 e1 (by decide) (by decide) (by decide) (by decide)
  have g := setA_keep (N := 33) (z := y1) g (by decide)
  have ha := ha.trans (setA_ne _ y1 (show (32 : Nat) ≠ 33 by decide)).symm
  refine i_AL (p := 33) m (setA_at _ _ _).symm (by decide) (by decide) (by decide) fun S40 m => ?_
  intro S2 e2
  have m := m.ref' (n := 32) (k := 33) e2 ha (setA_at _ _ _).symm (by decide) (by decide) (by decide) (by decide)
  exact k _ _ m g
theorem i_X1 {post : wS → Prop} {a b : Nat} (m : MDE D S0 U [34, 33, 32, 31, 30, 52, 29, 28, 23, 27, 26, 25, 24, 22, 19, 18, 21, 20, 17, 16, 15, 14, 13, 12, 11, 10, 9, 8, 7, 6, 5, 4, 3, 2, 1, 0] [(0, 9), (32, 0), (33, 1), (0, 8), (30, 0), (31, 1), (0, 7), (28, 0), (28, 1), (29, 0), (0, 6), (22, 1), (23, 0), (22, 0), (22, 5), (22, 4), (22, 3), (22, 2), (0, 5), (17, 3), (19, 0), (17, 2), (18, 0), (17, 1), (17, 0), (17, 5), (17, 4), (0, 4), (13, 2), (13, 1), (13, 0), (0, 3), (12, 0), (0, 2), (11, 0), (0, 1), (10, 0), (0, 0), (1, 11), (1, 10), (1, 9), (1, 8), (1, 7), (1, 6), (1, 5), (1, 4)] adr) (ha : a = adr 34) (hb : b = adr 17) (k : ∀ U' adr', MDE D S0 U' [37, 36, 35, 34, 33, 32, 31, 30, 52, 29, 28, 23, 27, 26, 25, 24, 22, 19, 18, 21, 20, 17, 16, 15, 14, 13, 12, 11, 10, 9, 8, 7, 6, 5, 4, 3, 2, 1, 0] [(34, 0), (34, 3), (34, 2), (34, 1), (0, 9), (32, 0), (33, 1), (0, 8), (30, 0), (31, 1), (0, 7), (28, 0), (28, 1), (29, 0), (0, 6), (22, 1), (23, 0), (22, 0), (22, 5), (22, 4), (22, 3), (22, 2), (0, 5), (17, 3), (19, 0), (17, 2), (18, 0), (17, 1), (17, 0), (17, 5), (17, 4), (0, 4), (13, 2), (13, 1), (13, 0), (0, 3), (12, 0), (0, 2), (11, 0), (0, 1), (10, 0), (0, 0), (1, 11), (1, 10), (1, 9), (1, 8), (1, 7), (1, 6), (1, 5), (1, 4)] adr' → (∀ n, n ∈ [34, 33, 32, 31, 30, 52, 29, 28, 23, 27, 26, 25, 24, 22, 19, 18, 21, 20, 17, 16, 15, 14, 13, 12, 11, 10, 9, 8, 7, 6, 5, 4, 3, 2, 1, 0] → adr' n = adr n) → post U') : wp_X1_init D post U a b := by
  unfold wp_X1_init wp_X1_init_0
  have g : ∀ n, n ∈ [34, 33, 32, 31, 30, 52, 29, 28, 23, 27, 26, 25, 24, 22, 19, 18, 21, 20, 17, 16, 15, 14, 13, 12, 11, 10, 9, 8, 7, 6, 5, 4, 3, 2, 1, 0] → adr n = adr n := fun _ _ => rfl
  refine ⟨by decide, by decide, fun y1 hy1 S1 e1 => ?_⟩
  have m := m.new' (n := 35) hy1 e1 (by decide) (by decide) (by decide) (by decide)
  have g := setA_keep (N := 35) (z := y1) g (by decide)
  have ha := ha.trans (setA_ne _ y1 (show (34 : Nat) ≠ 35 by decide)).symm
  have hb := hb.trans (setA_ne _ y1 (show (17 : Nat) ≠ 35 by decide)).symm
  intro S2 e2
  have m := m.ref' (n := 34) (k := 35) e2 ha (setA_at _ _ _).symm (by decide) (by decide) (by decide) (by decide)
  refine ⟨by decide, by decide, fun y3 hy3 S3 e3 => ?_⟩
  have m := m.new' (n := 36) hy3 e3 (by decide) (by decide) (by decide) (by decide)
  have g := setA_keep (N := 36) (z := y3) g (by decide)
  have ha := ha.trans (setA_ne _ y3 (show (34 : Nat) ≠ 36 by decide)).symm
  have hb := hb.trans (setA_ne _ y3 (show (17 : Nat) ≠ 36 by decide)).symm
  intro S4 e4
  have m := m.ref' (n := 34) (k := 36) e4 ha (setA_at _ _ _).symm (by decide) (by decide) (by decide) (by decide)
  refine ⟨by decide, by decide, fun y5 hy5 S5 e5 => ?_⟩
  have m := m.new' (n := 37) hy5 e5 (by decide) (by decide) (by decide) (by decide)
  have g := setA_keep (N := 37) (z := y5) g (by decide)
  have ha := ha.trans (setA_ne _ y5 (show (34 : Nat) ≠ 37 by decide)).symm
  have hb := hb.trans (setA_ne _ y5 (show (17 : Nat) ≠ 37 by decide)).symm
  intro S6 e6
  have m := m.ref' (n := 34) (k := 37) e6 ha (setA_at _ _ _).symm (by decide) (by decide) (by decide) (by decide)
  intro S7 e7
  have m := m.ref' (n := 34) (k := 17) e7 ha hb (by decide) (by decide) (by decide) (by decide)
  exact k _ _ m g
theorem i_X9 {post : wS → Prop} {a b c : Nat} (m : MDE D S0 U [38, 37, 36, 35, 34, 33, 32, 31, 30, 52, 29, 28, 23, 27, 26, 25, 24, 22, 19, 18, 21, 20, 17, 16, 15, 14, 13, 12, 11, 10, 9, 8, 7, 6, 5, 4, 3, 2, 1, 0] [(0, 10), (34, 0), (34, 3), (34, 2), (34, 1), (0, 9), (32, 0), (33, 1), (0, 8), (30, 0), (31, 1), (0, 7), (28, 0), (28, 1), (29, 0), (0, 6), (22, 1), (23, 0), (22, 0), (22, 5), (22, 4), (22, 3), (22, 2), (0, 5), (17, 3), (19, 0), (17, 2), (18, 0), (17, 1), (17, 0), (17, 5), (17, 4), (0, 4), (13, 2), (13, 1), (13, 0), (0, 3), (12, 0), (0, 2), (11, 0), (0, 1), (10, 0), (0, 0), (1, 11), (1, 10), (1, 9), (1, 8), (1, 7), (1, 6), (1, 5), (1, 4)] adr) (ha : a = adr 38) (hb : b = adr 1) (hc : c = adr 10) (k : ∀ U' adr', MDE D S0 U' [44, 43, 42, 41, 40, 39, 38, 37, 36, 35, 34, 33, 32, 31, 30, 52, 29, 28, 23, 27, 26, 25, 24, 22, 19, 18, 21, 20, 17, 16, 15, 14, 13, 12, 11, 10, 9, 8, 7, 6, 5, 4, 3, 2, 1, 0] [(38, 6), (44, 0), (38, 5), (43, 0), (38, 4), (42, 0), (38, 0), (38, 3), (38, 2), (38, 1), (0, 10), (34, 0), (34, 3), (34, 2), (34, 1), (0, 9), (32, 0), (33, 1), (0, 8), (30, 0), (31, 1), (0, 7), (28, 0), (28, 1), (29, 0), (0, 6), (22, 1), (23, 0), (22, 0), (22, 5), (22, 4), (22, 3), (22, 2), (0, 5), (17, 3), (19, 0), (17, 2), (18, 0), (17, 1), (17, 0), (17, 5), (17, 4), (0, 4), (13, 2), (13, 1), (13, 0), (0, 3), (12, 0), (0, 2), (11, 0), (0, 1), (10, 0), (0, 0), (1, 11), (1, 10), (1, 9), (1, 8), (1, 7), (1, 6), (1, 5), (1, 4)] adr' → (∀ n, n ∈ [38, 37, 36, 35, 34, 33, 32, 31, 30, 52, 29, 28, 23, 27, 26, 25, 24, 22, 19, 18, 21, 20, 17, 16, 15, 14, 13, 12, 11, 10, 9, 8, 7, 6, 5, 4, 3, 2, 1, 0] → adr' n = adr n) → post U') : wp_X9_init D post U a b c := by
  unfold wp_X9_init wp_X9_init_0
  have g : ∀ n, n ∈ [38, 37, 36, 35, 34, 33, 32, 31, 30, 52, 29, 28, 23, 27, 26, 25, 24, 22, 19, 18, 21, 20, 17, 16, 15, 14, 13, 12, 11, 10, 9, 8, 7, 6, 5, 4, 3, 2, 1, 0] → adr n = adr n := fun _ _ => rfl
  refine ⟨by decide, by decide, fun y1 hy1 S1 e1 => ?_⟩
  have m := m.new' (n := 39) hy1 e1 (by decide) (by decide) (by decide) (by decide)
  have g := setA_keep (N := 39) (z := y1) g (by decide)
  have ha := ha.trans (setA_ne _ y1 (show (38 : Nat) ≠ 39 by decide)).symm
  have hb := hb.trans (setA_ne _ y1 (show (1 : Nat) ≠ 39 by decide)).symm
  have hc := hc.trans (setA_ne _ y1 (show (10 : Nat) ≠ 39 by decide)).symm
  intro S2 e2
  have m := m.ref' (n := 38) (k := 39) e2 ha (setA_at _ _ _).symm (by decide) (by decide) (by decide) (by decide)
  refine ⟨by decide, by decide, fun y3 hy3 S3 e3 => ?_⟩
  have m := m.new' (n := 40) hy3 e3 (by decide) (by decide) (by decide) (by decide)
  have g := setA_keep (N := 40) (z := y3) g (by decide)
  have ha := ha.trans (setA_ne _ y3 (show (38 : Nat) ≠ 40 by decide)).symm
  have hb := hb.trans (setA_ne _ y3 (show (1 : Nat) ≠ 40 by decide)).symm
  have hc := hc.trans (setA_ne _ y3 (show (10 : Nat) ≠ 40 by decide)).symm
  intro S4 e4
  have m := m.ref' (n := 38) (k := 40) e4 ha (setA_at _ _ _).symm (by decide) (by decide) (by decide) (by decide)
  refine ⟨by decide, by decide, fun y5 hy5 S5 e5 => ?_⟩
  have m := m.new' (n := 41) hy5 e5 (by decide) (by decide) (by decide) (by decide)
  have g := setA_keep (N := 41) (z := y5) g (by decide)
  have ha := ha.trans (setA_ne _ y5 (show (38 : Nat) ≠ 41 by decide)).symm
  have hb := hb.trans (setA_ne _ y5 (show (1 : Nat) ≠ 41 by decide)).symm
  have hc := hc.trans (setA_ne _ y5 (show (10 : Nat) ≠ 41 by decide)).symm
  intro S6 e6
  have m := m.ref' (n := 38) (k := 41) e6 ha (setA_at _ _ _).symm (by decide) (by decide) (by decide) (by decide)
  intro S7 e7
  have m := m.i' e7 ha (by decide) (by decide)
  intro S8 e8
  have m := m.i' e8 ha (by decide) (by decide)
  intro S9 e9
  have m := m.i' e9 ha (by decide) (by decide)
  intro S10 e10
  have m := m.ref' (n := 38) (k := 10) e10 ha hc (by decide) (by decide) (by decide) (by decide)
  intro y12 hy12 S12 e12
  have m := m.new' (n := 42) hy12 e12 (by decide) (by decide) (by decide) (by decide)
  have g := setA_keep (N := 42) (z := y12) g (by decide)
  have ha := ha.trans (setA_ne _ y12 (show (38 : Nat) ≠ 42 by decide)).symm
  refine i_X7 m (setA_at _ _ _).symm (hb.trans (setA_ne _ y12 (show (1 : Nat) ≠ 42 by decide)).symm) (by decide) (by decide) (by decide) (by decide) (by decide) fun S13 m => ?_
  have hb := hb.trans (setA_ne _ y12 (show (1 : Nat) ≠ 42 by decide)).symm
  have hc := hc.trans (setA_ne _ y12 (show (10 : Nat) ≠ 42 by decide)).symm
  intro S14 e14
  have m := m.ref' (n := 38) (k := 42) e14 ha (setA_at _ _ _).symm (by decide) (by decide) (by decide) (by decide)
  intro y16 hy16 S16 e16
  have m := m.new' (n := 43) hy16 e16 (by decide) (by decide) (by decide) (by decide)
  have g := setA_keep (N := 43) (z := y16) g (by decide)
  have ha := ha.trans (setA_ne _ y16 (show (38 : Nat) ≠ 43 by decide)).symm
  refine i_X7 m (setA_at _ _ _).symm (hb.trans (setA_ne _ y16 (show (1 : Nat) ≠ 43 by decide)).symm) (by decide) (by decide) (by decide) (by decide) (by decide) fun S17 m => ?_
  have hb := hb.trans (setA_ne _ y16 (show (1 : Nat) ≠ 43 by decide)).symm
  have hc := hc.trans (setA_ne _ y16 (show (10 : Nat) ≠ 43 by decide)).symm
  intro S18 e18
  have m := m.ref' (n := 38) (k := 43) e18 ha (setA_at _ _ _).symm (by decide) (by decide) (by decide) (by decide)
  intro y20 hy20 S20 e20
  have m := m.new' (n := 44) hy20 e20 (by decide) (by decide) (by decide) (by decide)
  have g := setA_keep (N := 44) (z := y20) g (by decide)
  have ha := ha.trans (setA_ne _ y20 (show (38 : Nat) ≠ 44 by decide)).symm
  refine i_X7 m (setA_at _ _ _).symm (hb.trans (setA_ne _ y20 (show (1 : Nat) ≠ 44 by decide)).symm) (by decide) (by decide) (by decide) (by decide) (by decide) fun S21 m => ?_
  have hb := hb.trans (setA_ne _ y20 (show (1 : Nat) ≠ 44 by decide)).symm
  have hc := hc.trans (setA_ne _ y20 (show (10 : Nat) ≠ 44 by decide)).symm
  intro S22 e22
  have m := m.ref' (n := 38) (k := 44) e22 ha (setA_at _ _ _).symm (by decide) (by decide) (by decide) (by decide)
  exact k _ _ m g
theorem i_X2 {post : wS → Prop} {a b : Nat} (m : MDE D S0 U [45, 44, 43, 42, 41, 40, 39, 38, 37, 36, 35, 34, 33, 32, 31, 30, 52, 29, 28, 23, 27, 26, 25, 24, 22, 19, 18, 21, 20, 17, 16, 15, 14, 13, 12, 11, 10, 9, 8, 7, 6, 5, 4, 3, 2, 1, 0] [(0, 11), (38, 6), (44, 0), (38, 5), (43, 0), (38, 4), (42, 0), (38, 0), (38, 3), (38, 2), (38, 1), (0, 10), (34, 0), (34, 3), (34, 2), (34, 1), (0, 9), (32, 0), (33, 1), (0, 8), (30, 0), (31, 1), (0, 7), (28, 0), (28, 1), (29, 0), (0, 6), (22, 1), (23, 0), (22, 0), (22, 5), (22, 4), (22, 3), (22, 2), (0, 5), (17, 3), (19, 0), (17, 2), (18, 0), (17, 1), (17, 0), (17, 5), (17, 4), (0, 4), (13, 2), (13, 1), (13, 0), (0, 3), (12, 0), (0, 2), (11, 0), (0, 1), (10, 0), (0, 0), (1, 11), (1, 10), (1, 9), (1, 8), (1, 7), (1, 6), (1, 5), (1, 4)] adr) (ha : a = adr 45) (hb : b = adr 1) (k : ∀ U' adr', MDE D S0 U' [57, 56, 55, 48, 47, 46, 45, 44, 43, 42, 41, 40, 39, 38, 37, 36, 35, 34, 33, 32, 31, 30, 52, 29, 28, 23, 27, 26, 25, 24, 22, 19, 18, 21, 20, 17, 16, 15, 14, 13, 12, 11, 10, 9, 8, 7, 6, 5, 4, 3, 2, 1, 0] [(45, 0), (45, 6), (45, 5), (45, 4), (45, 3), (45, 2), (45, 1), (0, 11), (38, 6), (44, 0), (38, 5), (43, 0), (38, 4), (42, 0), (38, 0), (38, 3), (38, 2), (38, 1), (0, 10), (34, 0), (34, 3), (34, 2), (34, 1), (0, 9), (32, 0), (33, 1), (0, 8), (30, 0), (31, 1), (0, 7), (28, 0), (28, 1), (29, 0), (0, 6), (22, 1), (23, 0), (22, 0), (22, 5), (22, 4), (22, 3), (22, 2), (0, 5), (17, 3), (19, 0), (17, 2), (18, 0), (17, 1), (17, 0), (17, 5), (17, 4), (0, 4), (13, 2), (13, 1), (13, 0), (0, 3), (12, 0), (0, 2), (11, 0), (0, 1), (10, 0), (0, 0), (1, 11), (1, 10), (1, 9), (1, 8), (1, 7), (1, 6), (1, 5), (1, 4)] adr' → (∀ n, n ∈ [45, 44, 43, 42, 41, 40, 39, 38, 37, 36, 35, 34, 33, 32, 31, 30, 52, 29, 28, 23, 27, 26, 25, 24, 22, 19, 18, 21, 20, 17, 16, 15, 14, 13, 12, 11, 10, 9, 8, 7, 6, 5, 4, 3, 2, 1, 0] → adr' n = adr n) → post U') : wp_X2_init D post U a b := by
  unfold wp_X2_init wp_X2_init_0
  have g : ∀ n, n ∈ [45, 44, 43, 42, 41, 40, 39, 38, 37, 36, 35, 34, 33, 32, 31, 30, 52, 29, 28, 23, 27, 26, 25, 24, 22, 19, 18, 21, 20, 17, 16, 15, 14, 13, 12, 11, 10, 9, 8, 7, 6, 5, 4, 3, 2, 1, 0] → adr n = adr n := fun _ _ => rfl
  refine ⟨by decide, by decide, fun y1 hy1 S1 e1 => ?_⟩
  have m := m.new' (n := 46) hy1 e1 (by decide) (by decide) (by decide) (by decide)
  have g := setA_keep (N := 46) (z := y1) g (by decide)
  have ha := ha.trans (setA_ne _ y1 (show (45 : Nat) ≠ 46 by decide)).symm
  have hb := hb.trans (setA_ne _ y1 (show (1 : Nat) ≠ 46 by decide)).symm
  intro S2 e2
  have m := m.ref' (n := 45) (k := 46) e2 ha (setA_at _ _ _).symm (by decide) (by decide) (by decide) (by decide)
  refine ⟨by decide, by decide, fun y3 hy3 S3 e3 => ?_⟩
  have m := m.new' (n := 47) hy3 e3 (by decide) (by decide) (by decide) (by decide)
  have g := setA_keep (N := 47) (z := y3) g (by decide)
  have ha := ha.trans (setA_ne _ y3 (show (45 : Nat) ≠ 47 by decide)).symm
  have hb := hb.trans (setA_ne _ y3 (show (1 : Nat) ≠ 47 by decide)).symm
  intro S4 e4
  have m := m.ref' (n := 45) (k := 47) e4 ha (setA_at _ _ _).symm (by decide) (by decide) (by decide) (by decide)
  refine ⟨by decide, by decide, fun y5 hy5 S5 e5 => ?_⟩
  have m := m.new' (n := 48) hy5 e5 (by decide) (by decide) (by decide) (by decide)
  have g := setA_keep (N := 48) (z := y5) g (by decide)
  have ha := ha.trans (setA_ne _ y5 (show (45 : Nat) ≠ 48 by decide)).symm
  have hb := hb.trans (setA_ne _ y5 (show (1 : Nat) ≠ 48 by decide)).symm
  intro S6 e6
  have m := m.ref' (n := 45) (k := 48) e6 ha (setA_at _ _ _).symm (by decide) (by decide) (by decide) (by decide)
  refine ⟨by decide, by decide, fun y7 hy7 S7 e7 => ?_⟩
  have m := m.new' (n := 55) hy7 e7 (by decide) (by decide) (by decide) (by decide)
  have g := setA_keep (N := 55) (z := y7) g (by decide)
  have ha := ha.trans (setA_ne _ y7 (show (45 : Nat) ≠ 55 by decide)).symm
  have hb := hb.trans (setA_ne _ y7 (show (1 : Nat) ≠ 55 by decide)).symm
  intro S8 e8
  have m := m.ref' (n := 45) (k := 55) e8 ha (setA_at _ _ _).symm (by decide) (by decide) (by decide) (by decide)
  refine ⟨by decide, by decide, fun y9 hy9 S9 e9 => ?_⟩
  have m := m.new' (n := 56) hy9 e9 (by decide) (by decide) (by decide) (by decide)
  have g := setA_keep (N := 56) (z := y9) g (by decide)
  have ha := ha.trans (setA_ne _ y9 (show (45 : Nat) ≠ 56 by decide)).symm
  have hb := hb.trans (setA_ne _ y9 (show (1 : Nat) ≠ 56 by decide)).symm
  intro S10 e10
  have m := m.ref' (n := 45) (k := 56) e10 ha (setA_at _ _ _).symm (by decide) (by decide) (by decide) (by decide)
  refine ⟨by decide, by decide, fun y11 hy11 S11 e11 => ?_⟩
  have m := m.new' (n := 57) hy11 e11 (by decide) (by decide) (by decide) (by decide)
  have g := setA_keep (N := 57) (z := y11) g (by decide)
  have ha := ha.trans (setA_ne _ y11 (show (45 : Nat) ≠ 57 by decide)).symm
  have hb := hb.trans (setA_ne _ y11 (show (1 : Nat) ≠ 57 by decide)).symm
  intro S12 e12
  have m := m.ref' (n := 45) (k := 57) e12 ha (setA_at _ _ _).symm (by decide) (by decide) (by decide) (by decide)
  intro S13 e13
  have m := m.i' e13 ha (by decide) (by decide)
  intro S14 e14
  have m := m.ref' (n := 45) (k := 1) e14 ha hb (by decide) (by decide) (by decide) (by decide)
  exact k _ _ m g
end
