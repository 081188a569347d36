theorem anyL_snoc (p : Int → Bool) : ∀ (d : Nat) (k : Int), anyL p k (d + 1) = (anyL p k d || p (k + d))
  | 0, k => by simp [anyL]
  | d + 1, k => by
    rw [anyL, anyL_snoc p d (k + 1), anyL, Bool.or_assoc, show k + 1 + (d : Int) = k + ((d + 1 : Nat) : Int) by omega]
/-- the class's rows of steps -/
abbrev RW (D : wD) (S : wS) (o : Nat → Nat) : Prop := ∀ c : cM, (∀ k, k < 4 → sN (cS S o c) (D.2.2.1 (100 + k)) = 8) ∧ ∀ j : Int, 0 ≤ j → j < 8 → sI (cS S o c) (D.2.2.1 100) (iI j).toNatClampNeg = iI (dfD j) ∧ sI (cS S o c) (D.2.2.1 101) (iI j).toNatClampNeg = iI (drD j) ∧ sI (cS S o c) (D.2.2.1 102) (iI j).toNatClampNeg = iI (lfD j) ∧ sI (cS S o c) (D.2.2.1 103) (iI j).toNatClampNeg = iI (lrD j)
/-- the board's dimensions -/
abbrev DM (c : cM) (F R : Int) : Prop := c.1 1 0 = F ∧ c.1 1 1 = R ∧ c.1 1 2 = F * R
/-- what the board's rows hold of a square -/
abbrev SQ (c : cM) (F R k : Int) : Prop := (c.1 2 k = k % F ∧ c.1 3 k = k / F) ∧ (∀ d : Int, 0 ≤ d → d < 8 → c.2 4 (k * 8 + d) = zS (rayB F R (k % F) (k / F) (dfD d) (drD d))) ∧
  (c.2 5 k = zS (kstepB F R k) ∧ c.2 6 k = zS (nstepB F R k)) ∧ (c.2 7 k = zS (aimB F R k 1) ∧ c.2 8 k = zS (aimB F R k (-1))) ∧ c.2 9 k = zS (besB F R k)
theorem SQ.keep {c c' : cM} {F R k n : Int} (h : SQ c F R k) (hk : k < n) (h1 : ∀ g, g = 2 ∨ g = 3 → ∀ j : Int, j < n → c'.1 g j = c.1 g j) (h2 : ∀ j : Int, j < n * 8 → c'.2 4 j = c.2 4 j) (h3 : ∀ g, 5 ≤ g → g ≤ 9 → ∀ j : Int, j < n → c'.2 g j = c.2 g j) : SQ c' F R k := by
  obtain ⟨⟨a1, a2⟩, a3, ⟨a4, a5⟩, ⟨a6, a7⟩, a8⟩ := h
  refine ⟨⟨?_, ?_⟩, fun d h0 hd => ?_, ⟨?_, ?_⟩, ⟨?_, ?_⟩, ?_⟩
  · rw [h1 2 (Or.inl rfl) k hk, a1]
  · rw [h1 3 (Or.inr rfl) k hk, a2]
  · rw [h2 _ (by omega), a3 d h0 hd]
  · rw [h3 5 (by decide) (by decide) k hk, a4]
  · rw [h3 6 (by decide) (by decide) k hk, a5]
  · rw [h3 7 (by decide) (by decide) k hk, a6]
  · rw [h3 8 (by decide) (by decide) k hk, a7]
  · rw [h3 9 (by decide) (by decide) k hk, a8]
section
variable {D : wD} {S : wS} {o : Nat → Nat} {c : cM} {F R : Int}
theorem q_ray_6 {post : Int64 → wS → Prop} (h : CC D S o) (hd : DM c F R) (hm : 4 ≤ F ∧ F ≤ 8 ∧ 4 ≤ R ∧ R ≤ 8) {f r df dr : Int} (hf : 0 ≤ f ∧ f < 8) (hr : 0 ≤ r ∧ r < 8) (hdf : -1 ≤ df ∧ df ≤ 1) (hdr : -1 ≤ dr ∧ dr ≤ 1) (k : post (zS (rayB F R f r df dr)) (cS S o c)) :
    ∀ (n d : Nat) (j : Int), d < n → j + d = 8 → 1 ≤ j → wp_X0_ray_6 D post n (cS S o c) (o 1) (iI f) (iI r) (iI df) (iI dr) (zS (fun t => anyL (fun s => setB F R (f + s * df) (r + s * dr) t) 1 (j - 1).toNat)) (iI j) := by
  intro n
  induction n with
  | zero => intro d j hd; omega
  | succ n ih =>
    intro d j hd' hj h1
    unfold wp_X0_ray_6
    rw [show (8 : Int32) = iI 8 from rfl, iI_le (by decide) (by decide) (by omega) (by omega)]
    refine ⟨fun q => ?_, fun q => ?_⟩
    · have e : (j - 1).toNat = 7 := by omega
      rw [e]; exact k
    · have b1 : ∀ x : Int, -1 ≤ x ∧ x ≤ 1 → -7 ≤ j * x ∧ j * x ≤ 7 := fun x hx => by
        rcases (show x = -1 ∨ x = 0 ∨ x = 1 by omega) with e | e | e <;> rw [e] <;> omega
      have b2 := b1 df hdf; have b3 := b1 dr hdr
      rw [iI_mul, iI_add, iI_mul, iI_add, q_setOf h hd.1 hd.2.1 hm ⟨by omega, by omega⟩ ⟨by omega, by omega⟩]
      intro x4 e4 x5 e5
      rw [zS_or] at e4
      have e6 : x4 = zS (fun t => anyL (fun s => setB F R (f + s * df) (r + s * dr) t) 1 (j + 1 - 1).toNat) := by
        rw [e4]
        refine zS_congr fun t _ _ => ?_
        rw [show (j + 1 - 1).toNat = (j - 1).toNat + 1 by omega, anyL_snoc, show (1 + (((j - 1).toNat : Nat) : Int)) = j by omega]
      rw [e6, e5, show (1 : Int32) = iI 1 from rfl, iI_add]
      exact ih (d - 1) (j + 1) (by omega) (by omega) (by omega)
theorem q_ray {post : Int64 → wS → Prop} (h : CC D S o) (hd : DM c F R) (hm : 4 ≤ F ∧ F ≤ 8 ∧ 4 ≤ R ∧ R ≤ 8) {f r df dr : Int} (hf : 0 ≤ f ∧ f < 8) (hr : 0 ≤ r ∧ r < 8) (hdf : -1 ≤ df ∧ df ≤ 1) (hdr : -1 ≤ dr ∧ dr ≤ 1) (k : post (zS (rayB F R f r df dr)) (cS S o c)) :
    wp_X0_ray D post (cS S o c) (o 1) (iI f) (iI r) (iI df) (iI dr) := by
  unfold wp_X0_ray wp_X0_ray_0
  refine ⟨8, ?_⟩
  have := q_ray_6 h hd hm hf hr hdf hdr k 8 7 1 (by decide) (by decide) (by decide)
  rw [show (fun t => anyL (fun s => setB F R (f + s * df) (r + s * dr) t) 1 ((1 : Int) - 1).toNat) = (fun _ => false) from rfl, ← zS_f] at this
  exact this
theorem dir_r {d : Int} (h0 : 0 ≤ d) (h1 : d < 8) : (-1 ≤ dfD d ∧ dfD d ≤ 1) ∧ (-1 ≤ drD d ∧ drD d ≤ 1) ∧ (-2 ≤ lfD d ∧ lfD d ≤ 2) ∧ (-2 ≤ lrD d ∧ lrD d ≤ 2) := by
  rcases dir_cases h0 h1 with e | e | e | e | e | e | e | e <;> rw [e] <;> decide
/-- the rows while a square is being laid -/
abbrev MB (c0 c : cM) (F R n i : Int) : Prop := cSim [1, 2, 3, 4, 5, 6, 7, 8, 9] c0 c ∧ DM c F R ∧ c.2 1 3 = zS (fun t => edgeB F R t && decide (t < n + 1)) ∧ (∀ k : Int, 0 ≤ k → k < n → SQ c F R k) ∧ (c.1 2 n = n % F ∧ c.1 3 n = n / F) ∧ (∀ d : Int, 0 ≤ d → d < i → c.2 4 (n * 8 + d) = zS (rayB F R (n % F) (n / F) (dfD d) (drD d))) ∧
  c.2 5 n = zS (fun t => anyL (fun i => setB F R (n % F + dfD i) (n / F + drD i) t) 0 i.toNat) ∧ c.2 6 n = zS (fun t => anyL (fun i => setB F R (n % F + lfD i) (n / F + lrD i) t) 0 i.toNat)
theorem c_wrow (h : CC D S o) {g : Nat} (hg : cOk g = true) {a : Int} (h1 : 0 ≤ a) (h2 : a < cln g) (h3 : cln g < 100000) : o g ∈ sL (cS S o c) ∧ vp_in (iI a) (sN (cS S o c) (o g)) := by
  refine ⟨(c_l h (cOk_lt hg)).mpr trivial, ?_⟩
  rw [c_n h (cOk_lt hg)]
  exact iI_in h1 (by omega) h2
theorem q_laySquare_66 {post : wS → Prop} (h : CC D S o) (hw : RW D S o) (hm : 4 ≤ F ∧ F ≤ 8 ∧ 4 ≤ R ∧ R ≤ 8) {c0 : cM} {n : Int} (hn : 0 ≤ n ∧ n < F * R) (hf : 0 ≤ n % F ∧ n % F < 8) (hr : 0 ≤ n / F ∧ n / F < 8) (hn64 : n < 64)
    (k : ∀ c', cSim [1, 2, 3, 4, 5, 6, 7, 8, 9] c0 c' → DM c' F R → c'.2 1 3 = zS (fun t => edgeB F R t && decide (t < n + 1)) → (∀ k : Int, 0 ≤ k → k < n + 1 → SQ c' F R k) → post (cS S o c')) :
    ∀ (f d : Nat) (i : Int) (c : cM), d < f → i + d = 8 → 0 ≤ i → MB c0 c F R n i → wp_X0_laySquare_66 D post f (cS S o c) (o 1) (iI n) (iI (n % F)) (iI (n / F)) (iI i) := by
  intro f
  induction f with
  | zero => intro d i c hd; omega
  | succ f ih =>
    intro d i c hd hi h0 hM
    obtain ⟨m1, m2, m3, m4, m5, m6, m7, m8⟩ := id hM
    unfold wp_X0_laySquare_66
    rw [show (8 : Int32) = iI 8 from rfl, iI_le (by decide) (by decide) (by omega) (by omega)]
    have hw2 := hw c
    refine ⟨fun q => ⟨o 7, c_r h rfl, (c_m h (by decide)).mpr trivial, c_k h (by decide), ?_⟩, fun q => ⟨o 4, c_r h rfl, (c_m h (by decide)).mpr trivial, c_k h (by decide), ?_⟩⟩
    · have i8 : i = 8 := by omega
      subst i8
      rw [show (1 : Int32) = iI 1 from rfl, iI_sub, iI_add, iI_add, iI_sub]
      have st := fun (c' : cM) (hd : DM c' F R) (a b : Int) (ha : -1 ≤ a ∧ a ≤ 8) (hb : -1 ≤ b ∧ b ≤ 8) (p : Int64 → wS → Prop) => q_setOf (post := p) (D := D) h (c := c') hd.1 hd.2.1 hm (f := a) (r := b) ⟨by omega, by omega⟩ ⟨by omega, by omega⟩
      rw [st c m2 _ _ (by omega) (by omega), st c m2 _ _ (by omega) (by omega)]
      have w7 := c_wrow (D := D) (c := c) h (g := 7) (by decide) hn.1 (show n < ((cln 7 : Nat) : Int) from hn64) (by decide)
      refine ⟨w7.1, w7.2, ?_⟩
      intro S8 e8
      rw [zS_or, c_w h (by decide) hn.1 (by omega)] at e8
      rw [e8]
      refine ⟨o 8, c_r h rfl, (c_m h (by decide)).mpr trivial, c_k h (by decide), ?_⟩
      have d1 : DM (cJ c 7 n (zS (fun t => setB F R (n % F - 1) (n / F + 1) t || setB F R (n % F + 1) (n / F + 1) t))) F R := m2
      rw [st _ d1 _ _ (by omega) (by omega), st _ d1 _ _ (by omega) (by omega)]
      have w8 := c_wrow (D := D) (c := cJ c 7 n (zS (fun t => setB F R (n % F - 1) (n / F + 1) t || setB F R (n % F + 1) (n / F + 1) t))) h (g := 8) (by decide) hn.1 (show n < ((cln 8 : Nat) : Int) from hn64) (by decide)
      refine ⟨w8.1, w8.2, ?_⟩
      intro S15 e15
      rw [zS_or, c_w h (by decide) hn.1 (by omega)] at e15
      rw [e15]
      refine ⟨o 9, c_r h rfl, (c_m h (by decide)).mpr trivial, c_k h (by decide), ?_⟩
      have d2 : DM (cJ (cJ c 7 n (zS (fun t => setB F R (n % F - 1) (n / F + 1) t || setB F R (n % F + 1) (n / F + 1) t))) 8 n (zS (fun t => setB F R (n % F - 1) (n / F - 1) t || setB F R (n % F + 1) (n / F - 1) t))) F R := m2
      rw [st _ d2 _ _ (by omega) (by omega), st _ d2 _ _ (by omega) (by omega)]
      have w9 := c_wrow (D := D) (c := cJ (cJ c 7 n (zS (fun t => setB F R (n % F - 1) (n / F + 1) t || setB F R (n % F + 1) (n / F + 1) t))) 8 n (zS (fun t => setB F R (n % F - 1) (n / F - 1) t || setB F R (n % F + 1) (n / F - 1) t))) h (g := 9) (by decide) hn.1 (show n < ((cln 9 : Nat) : Int) from hn64) (by decide)
      refine ⟨w9.1, w9.2, ?_⟩
      intro S22 e22
      rw [zS_or, c_w h (by decide) hn.1 (by omega)] at e22
      rw [e22]
      have ne : ∀ g : Nat, g ≠ 7 → g ≠ 8 → g ≠ 9 → ∀ x y z : Int64, (cJ (cJ (cJ c 7 n x) 8 n y) 9 n z).2 g = c.2 g := fun g g7 g8 g9 x y z => by
        rw [cJ_2, upJ_r _ _ _ (by simpa using g9), cJ_2, upJ_r _ _ _ (by simpa using g8), cJ_2, upJ_r _ _ _ (by simpa using g7)]
      have nj : ∀ g : Nat, ∀ j : Int, j < n → ∀ x y z : Int64, (cJ (cJ (cJ c 7 n x) 8 n y) 9 n z).2 g j = c.2 g j := fun g j hj x y z => by
        rw [cJ_2, upJ_ne _ (Or.inr (by omega)), cJ_2, upJ_ne _ (Or.inr (by omega)), cJ_2, upJ_ne _ (Or.inr (by omega))]
      refine k _ (m1.trans (fun g hg => ⟨rfl, ne g (fun e => hg (by rw [e]; decide)) (fun e => hg (by rw [e]; decide)) (fun e => hg (by rw [e]; decide)) _ _ _⟩)) m2 ?_ ?_
      · rw [ne 1 (by decide) (by decide) (by decide)]; exact m3
      · intro g g0 g1
        by_cases z : g < n
        · exact SQ.keep (m4 g g0 z) z (fun _ _ _ _ => rfl) (fun j hj => by rw [ne 4 (by decide) (by decide) (by decide)]) (fun q _ _ j hj => nj q j hj _ _ _)
        · have e : g = n := by omega
          subst e
          refine ⟨m5, fun d d0 d1 => ?_, ⟨?_, ?_⟩, ⟨?_, ?_⟩, ?_⟩
          · rw [ne 4 (by decide) (by decide) (by decide)]; exact m6 d d0 d1
          · rw [ne 5 (by decide) (by decide) (by decide)]; exact m7
          · rw [ne 6 (by decide) (by decide) (by decide)]; exact m8
          · rw [cJ_2, upJ_ne _ (Or.inl (by decide)), cJ_2, upJ_ne _ (Or.inl (by decide)), cJ_2, upJ_at]; rfl
          · rw [cJ_2, upJ_ne _ (Or.inl (by decide)), cJ_2, upJ_at]; rfl
          · rw [cJ_2, upJ_at]; rfl
    · intro y24 e24
      rw [e24]
      refine ⟨by rw [hw2.1 0 (by decide)]; exact iI_in h0 (by omega) (by omega), ?_⟩
      intro y26 e26
      rw [e26]
      refine ⟨by rw [hw2.1 1 (by decide)]; exact iI_in h0 (by omega) (by omega), ?_⟩
      have dr := dir_r h0 (show i < 8 by omega)
      have ws := hw2.2 i h0 (by omega)
      rw [ws.1, ws.2.1]
      refine q_ray h m2 hm hf hr dr.1 dr.2.1 ?_
      rw [iI_mul, iI_add]
      have w4 := c_wrow (D := D) (c := c) h (g := 4) (by decide) (a := n * 8 + i) (by omega) (show n * 8 + i < ((cln 4 : Nat) : Int) by have : ((cln 4 : Nat) : Int) = 512 := rfl; omega) (by decide)
      refine ⟨w4.1, w4.2, ?_⟩
      intro S31 e31
      rw [c_w h (by decide) (by omega) (by omega)] at e31
      rw [e31]
      generalize hc1 : cJ c 4 (n * 8 + i) (zS (rayB F R (n % F) (n / F) (dfD i) (drD i))) = c1
      have c1i : c1.1 = c.1 := by rw [← hc1, cJ_1]
      have c1n : ∀ g, g ≠ 4 → c1.2 g = c.2 g := fun g hg => by rw [← hc1, cJ_2, upJ_r _ _ _ (by simpa using hg)]
      have d1 : DM c1 F R := by unfold DM; rw [c1i]; exact m2
      refine ⟨o 5, c_r h rfl, (c_m h (by decide)).mpr trivial, c_k h (by decide), ?_, ?_⟩
      · exact (c_wrow (D := D) (c := c1) h (g := 5) (by decide) hn.1 (show n < ((cln 5 : Nat) : Int) from hn64) (by decide)).2
      intro y34 e34
      rw [e34]
      have hw1 := hw c1
      refine ⟨by rw [hw1.1 0 (by decide)]; exact iI_in h0 (by omega) (by omega), ?_⟩
      intro y36 e36
      rw [e36]
      refine ⟨by rw [hw1.1 1 (by decide)]; exact iI_in h0 (by omega) (by omega), ?_⟩
      have ws1 := hw1.2 i h0 (by omega)
      rw [ws1.1, ws1.2.1, iI_add, iI_add, q_setOf h d1.1 d1.2.1 hm ⟨by omega, by omega⟩ ⟨by omega, by omega⟩]
      have w5 := c_wrow (D := D) (c := c1) h (g := 5) (by decide) hn.1 (show n < ((cln 5 : Nat) : Int) from hn64) (by decide)
      refine ⟨w5.1, w5.2, ?_⟩
      intro S41 e41
      rw [c_j h (by decide) hn.1 (by omega), c1n 5 (by decide), m7, zS_or, c_w h (by decide) hn.1 (by omega)] at e41
      rw [e41]
      generalize hc2 : cJ c1 5 n _ = c2
      have c2i : c2.1 = c.1 := by rw [← hc2, cJ_1, c1i]
      have c2n : ∀ g, g ≠ 5 → c2.2 g = c1.2 g := fun g hg => by rw [← hc2, cJ_2, upJ_r _ _ _ (by simpa using hg)]
      have d2 : DM c2 F R := by unfold DM; rw [c2i]; exact m2
      refine ⟨o 6, c_r h rfl, (c_m h (by decide)).mpr trivial, c_k h (by decide), ?_, ?_⟩
      · exact (c_wrow (D := D) (c := c2) h (g := 6) (by decide) hn.1 (show n < ((cln 6 : Nat) : Int) from hn64) (by decide)).2
      intro y44 e44
      rw [e44]
      have hw3 := hw c2
      refine ⟨by rw [hw3.1 2 (by decide)]; exact iI_in h0 (by omega) (by omega), ?_⟩
      intro y46 e46
      rw [e46]
      refine ⟨by rw [hw3.1 3 (by decide)]; exact iI_in h0 (by omega) (by omega), ?_⟩
      have ws3 := hw3.2 i h0 (by omega)
      rw [ws3.2.2.1, ws3.2.2.2, iI_add, iI_add, q_setOf h d2.1 d2.2.1 hm ⟨by omega, by omega⟩ ⟨by omega, by omega⟩]
      have w6 := c_wrow (D := D) (c := c2) h (g := 6) (by decide) hn.1 (show n < ((cln 6 : Nat) : Int) from hn64) (by decide)
      refine ⟨w6.1, w6.2, ?_⟩
      intro S51 e51
      rw [c_j h (by decide) hn.1 (by omega), c2n 6 (by decide), c1n 6 (by decide), m8, zS_or, c_w h (by decide) hn.1 (by omega)] at e51
      rw [e51]
      intro x52 e52
      rw [e52, show (1 : Int32) = iI 1 from rfl, iI_add]
      refine ih (d - 1) (i + 1) _ (by omega) (by omega) (by omega) ?_
      generalize hc3 : cJ c2 6 n _ = c3
      have c3n : ∀ g, g ≠ 6 → c3.2 g = c2.2 g := fun g hg => by rw [← hc3, cJ_2, upJ_r _ _ _ (by simpa using hg)]
      have c3i : c3.1 = c.1 := by rw [← hc3, cJ_1, c2i]
      have e4 : c3.2 4 = c1.2 4 := by rw [c3n 4 (by decide), c2n 4 (by decide)]
      have sn : (i + 1).toNat = i.toNat + 1 := by omega
      have lt4 : ∀ j : Int, j < n * 8 + i → c3.2 4 j = c.2 4 j := fun j hj => by rw [e4, ← hc1, cJ_2, upJ_ne _ (Or.inr (by omega))]
      refine ⟨m1.trans (fun g hg => ⟨by rw [c3i], ?_⟩), by unfold DM; rw [c3i]; exact m2, ?_, ?_, by rw [c3i]; exact m5, ?_, ?_, ?_⟩
      · rw [c3n g (fun e => hg (by rw [e]; decide)), c2n g (fun e => hg (by rw [e]; decide)), c1n g (fun e => hg (by rw [e]; decide))]
      · rw [c3n 1 (by decide), c2n 1 (by decide), c1n 1 (by decide)]; exact m3
      · intro g g0 g1
        refine SQ.keep (m4 g g0 g1) g1 (fun _ _ _ _ => by rw [c3i]) (fun j hj => lt4 j (by omega)) (fun q q5 q9 j hj => ?_)
        rcases (show q = 5 ∨ q = 6 ∨ (q ≠ 5 ∧ q ≠ 6) by omega) with e | e | e
        · rw [e, c3n 5 (by decide), ← hc2, cJ_2, upJ_ne _ (Or.inr (by omega)), c1n 5 (by decide)]
        · rw [e, ← hc3, cJ_2, upJ_ne _ (Or.inr (by omega)), c2n 6 (by decide), c1n 6 (by decide)]
        · rw [c3n q e.2, c2n q e.1, c1n q (by omega)]
      · intro d' d0 d1'
        by_cases z : d' = i
        · rw [z, e4, ← hc1, cJ_2, upJ_at]
        · rw [lt4 _ (by omega)]; exact m6 d' d0 (by omega)
      · rw [c3n 5 (by decide), ← hc2, cJ_2, upJ_at]
        refine zS_congr fun t _ _ => ?_
        rw [sn, anyL_snoc, show (0 + ((i.toNat : Nat) : Int)) = i by omega]
      · rw [← hc3, cJ_2, upJ_at]
        refine zS_congr fun t _ _ => ?_
        rw [sn, anyL_snoc, show (0 + ((i.toNat : Nat) : Int)) = i by omega]
end
