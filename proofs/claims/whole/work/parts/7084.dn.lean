def putS (c : cM) (r : Nat) (i : Int) (v : Int → Int) : cM := (c.1, fun n j => if n = r then (if j = i * 5 then plW v else if j = i * 5 + 1 then plK v 1 else if j = i * 5 + 2 then plK v 2 else if j = i * 5 + 3 then plK v 4 else if j = i * 5 + 4 then zI (restI v) else c.2 n j) else c.2 n j)
/-- the position that a row of the class's cells holds -/
abbrev RS (c : cM) (r : Nat) (i : Int) (w : Int → Int) : Prop := c.2 r (i * 5) = plW w ∧ c.2 r (i * 5 + 1) = plK w 1 ∧ c.2 r (i * 5 + 2) = plK w 2 ∧ c.2 r (i * 5 + 3) = plK w 4 ∧ c.2 r (i * 5 + 4) = zI (restI w)
theorem putS_at (c : cM) (r : Nat) (i : Int) (v : Int → Int) : RS (putS c r i v) r i v := by
  refine ⟨?_, ?_, ?_, ?_, ?_⟩ <;> unfold putS <;> simp only [if_pos, if_true]
  · rw [if_neg (by omega)]
  · rw [if_neg (by omega), if_neg (by omega)]
  · rw [if_neg (by omega), if_neg (by omega), if_neg (by omega)]
  · rw [if_neg (by omega), if_neg (by omega), if_neg (by omega), if_neg (by omega)]
theorem putS_ne (c : cM) (r : Nat) {i j : Int} (v : Int → Int) (h : j < i * 5 ∨ i * 5 + 5 ≤ j) : (putS c r i v).2 r j = c.2 r j := by
  unfold putS
  simp only [if_true]
  rw [if_neg (by omega), if_neg (by omega), if_neg (by omega), if_neg (by omega), if_neg (by omega)]
theorem putS_r (c : cM) {r n : Nat} (i : Int) (v : Int → Int) (h : n ≠ r) : (putS c r i v).2 n = c.2 n := by
  funext j; unfold putS; simp only [if_neg h]
theorem putS_i (c : cM) (r : Nat) (i : Int) (v : Int → Int) : (putS c r i v).1 = c.1 := rfl
theorem RS.putS {c : cM} {r : Nat} {i j : Int} {w : Int → Int} (v : Int → Int) (h : RS c r j w) (hj : j ≠ i) : RS (putS c r i v) r j w := by
  obtain ⟨h0, h1, h2, h3, h4⟩ := h
  refine ⟨?_, ?_, ?_, ?_, ?_⟩ <;> (rw [putS_ne c r v (by omega)]; assumption)
theorem putS_char {c d : cM} {r : Nat} {i : Int} {v : Int → Int} (h0 : d.1 = c.1) (h1 : RS d r i v) (h2 : ∀ n j, (n ≠ r ∨ j < i * 5 ∨ i * 5 + 5 ≤ j) → d.2 n j = c.2 n j) : d = Jvm.Pilot.COpeningsCabinetLaw_law_r5693_3db0e9.putS c r i v := by
  refine Prod.ext h0 (funext fun n => funext fun j => ?_)
  by_cases hn : n = r
  · subst hn
    by_cases z : j < i * 5 ∨ i * 5 + 5 ≤ j
    · rw [putS_ne c n v z, h2 n j (Or.inr z)]
    · have g := putS_at c n i v
      rcases (show j = i * 5 ∨ j = i * 5 + 1 ∨ j = i * 5 + 2 ∨ j = i * 5 + 3 ∨ j = i * 5 + 4 by omega) with e | e | e | e | e <;> rw [e]
      · rw [h1.1, g.1]
      · rw [h1.2.1, g.2.1]
      · rw [h1.2.2.1, g.2.2.1]
      · rw [h1.2.2.2.1, g.2.2.2.1]
      · rw [h1.2.2.2.2, g.2.2.2.2]
  · rw [putS_r c i v hn, h2 n j (Or.inl hn)]
section
variable {D : wD} {S : wS} {o : Nat → Nat} {c : cM} {p r : Nat} {v w : Int → Int} {post : wS → Prop}
theorem PAt.po (h : CC D S o) (hp : isP p) (hA : PAt c p v) : PO (cS S o c) (o p) v := by
  obtain ⟨h1, h2, h3, h4, h5, h6, h7⟩ := hA
  refine ⟨?_, ?_, ?_, ?_, ?_, ?_, ?_⟩
  · rw [c_j1 h hp.1 (show ((1 : Nat) : Int) = 1 from rfl), h1]
  · rw [c_j1 h hp.1 (show ((2 : Nat) : Int) = 2 from rfl), h2]
  · rw [c_j1 h hp.1 (show ((3 : Nat) : Int) = 3 from rfl), h3]
  · rw [c_j1 h hp.1 (show ((4 : Nat) : Int) = 4 from rfl), h4]
  · rw [c_i1 h hp.1 (show ((5 : Nat) : Int) = 5 from rfl), h5]
  · rw [c_i1 h hp.1 (show ((6 : Nat) : Int) = 6 from rfl), h6]
  · rw [c_i1 h hp.1 (show ((7 : Nat) : Int) = 7 from rfl), h7]
theorem RS.sv (h : CC D S o) (hr : cOk r = true) {i : Int} (hi : 0 ≤ i ∧ i < 1000000) (hA : RS c r i w) : SV (cS S o c) (o r) i w := by
  obtain ⟨h0, h1, h2, h3, h4⟩ := hA
  unfold SV gJ
  rw [c_j h hr (by omega) (by omega), c_j h hr (by omega) (by omega), c_j h hr (by omega) (by omega), c_j h hr (by omega) (by omega), c_j h hr (by omega) (by omega)]
  exact ⟨h0, h1, h2, h3, h4⟩
theorem q_save (h : CC D S o) (hp : isP p) (hr : cOk r = true) (hk : ckd r = 22) (hA : PAt c p v) (hv : rgV v) {i : Int} (hi : 0 ≤ i ∧ i * 5 + 5 ≤ (cln r : Int)) (hn : cln r < 1000000) (k : post (cS S o (putS c r i v))) : wp_X7_save D post (cS S o c) (o p) (o r) (iI i) := by
  have hne : p ≠ r := fun e => by rw [e] at hp; rw [hp.2.1] at hk; exact absurd hk (by decide)
  have nb : (p == r) = false := by simpa using hne
  have hlt := cOk_lt hr
  unfold wp_X7_save wp_X7_save_0 wp_X7_save_20
  intro x1 e1
  have e1 : x1 = iI (i * 5) := by rw [e1, show (5 : Int32) = iI 5 from rfl, iI_mul]
  rw [e1]
  have iv := fun {j : Int} (hj : 0 ≤ j ∧ j < 5) => sv_in hi hn hj
  have iv0 := iv (j := 0) (by decide)
  rw [Int.add_zero] at iv0
  rw [show (0 : Int32) = iI 0 from rfl, show (5 : Int32) = iI 5 from rfl, show (1 : Int32) = iI 1 from rfl, show (2 : Int32) = iI 2 from rfl, show (3 : Int32) = iI 3 from rfl, show (4 : Int32) = iI 4 from rfl]
  simp only [iI_add]
  rw [c_n h hlt, show Int32.ofNat (cln r) = iI ((cln r : Nat) : Int) from rfl]
  obtain ⟨h1, h2, h3, h4, h5⟩ := id hA
  refine ⟨fun q => absurd ((iI_lt (by omega) (by omega) (by decide) (by decide)).mp q) (by omega), fun _ => ⟨fun q => absurd ((iI_lt (by omega) (by omega) (by decide) (by decide)).mp q) (by omega), fun _ => ⟨fun _ => ⟨(c_l h hlt).mpr trivial, iv0, ?_⟩, fun q => absurd ((iI_le (by omega) (by omega) (by omega) (by omega)).mpr (by omega)) q⟩⟩⟩
  intro S6 e6
  rw [c_j1 h hp.1 (show ((1 : Nat) : Int) = 1 from rfl), h1, c_w h hr (by omega) (by omega)] at e6
  rw [e6, c_n h hlt]
  refine ⟨(c_l h hlt).mpr trivial, iv (by decide), ?_⟩
  intro S8 e8
  rw [c_j1 h hp.1 (show ((2 : Nat) : Int) = 2 from rfl), cJ_2, upJ_f _ _ _ _ nb, h2, c_w h hr (by omega) (by omega)] at e8
  rw [e8, c_n h hlt]
  refine ⟨(c_l h hlt).mpr trivial, iv (by decide), ?_⟩
  intro S10 e10
  rw [c_j1 h hp.1 (show ((3 : Nat) : Int) = 3 from rfl), cJ_2, upJ_f _ _ _ _ nb, cJ_2, upJ_f _ _ _ _ nb, h3, c_w h hr (by omega) (by omega)] at e10
  rw [e10, c_n h hlt]
  refine ⟨(c_l h hlt).mpr trivial, iv (by decide), ?_⟩
  intro S12 e12
  rw [c_j1 h hp.1 (show ((4 : Nat) : Int) = 4 from rfl), cJ_2, upJ_f _ _ _ _ nb, cJ_2, upJ_f _ _ _ _ nb, cJ_2, upJ_f _ _ _ _ nb, h4, c_w h hr (by omega) (by omega)] at e12
  rw [e12]
  have hP : PAt (cJ (cJ (cJ (cJ c r (i * 5) (plW v)) r (i * 5 + 1) (plK v 1)) r (i * 5 + 2) (plK v 2)) r (i * 5 + 3) (plK v 4)) p v := by
    unfold PAt
    simp only [cJ_1, cJ_2, upJ_f _ _ _ _ nb]
    exact hA
  rw [q_rest hv (PAt.po h hp hP), c_n h hlt]
  refine ⟨(c_l h hlt).mpr trivial, iv (by decide), ?_⟩
  intro S16 e16
  rw [c_w h hr (by omega) (by omega)] at e16
  rw [e16]
  rw [← putS_char (c := c) (r := r) (i := i) (v := v) (d := cJ (cJ (cJ (cJ (cJ c r (i * 5) (plW v)) r (i * 5 + 1) (plK v 1)) r (i * 5 + 2) (plK v 2)) r (i * 5 + 3) (plK v 4)) r (i * 5 + 4) (zI (restI v)))] at k
  · exact k
  · rfl
  · refine ⟨?_, ?_, ?_, ?_, ?_⟩ <;> simp only [cJ_2]
    · rw [upJ_ne _ (by omega), upJ_ne _ (by omega), upJ_ne _ (by omega), upJ_ne _ (by omega), upJ_at]
    · rw [upJ_ne _ (by omega), upJ_ne _ (by omega), upJ_ne _ (by omega), upJ_at]
    · rw [upJ_ne _ (by omega), upJ_ne _ (by omega), upJ_at]
    · rw [upJ_ne _ (by omega), upJ_at]
    · rw [upJ_at]
  · intro n j hj
    simp only [cJ_2]
    rw [upJ_ne _ (by omega), upJ_ne _ (by omega), upJ_ne _ (by omega), upJ_ne _ (by omega), upJ_ne _ (by omega)]
theorem rest_bits {v : Int → Int} (hv : rgV v) : (iI (restI v) &&& (1 : Int32)) = iI (v 64) ∧ (jiushr (iI (restI v)) (1 : Int32)) &&& (15 : Int32) = iI (v 65) ∧ (jiushr (iI (restI v)) (5 : Int32)) - (1 : Int32) = iI (v 66) := by
  have r := restI_r hv
  have q := hv.2
  refine ⟨?_, ?_, ?_⟩
  · rw [show (1 : Int32) = iI ((2 ^ 1 - 1 : Nat) : Int) from rfl, iI_and r.1 (by omega) (by decide)]
    congr 1; unfold restI; omega
  · rw [show (1 : Int32) = iI ((1 : Nat) : Int) from rfl, iI_ushr r.1 (by omega) (by decide), show (15 : Int32) = iI ((2 ^ 4 - 1 : Nat) : Int) from rfl, iI_and (by have := r.1; omega) (by have := r.2; omega) (by decide)]
    congr 1; unfold restI; omega
  · rw [show (5 : Int32) = iI ((5 : Nat) : Int) from rfl, iI_ushr r.1 (by omega) (by decide), show (1 : Int32) = iI 1 from rfl, iI_sub]
    congr 1; unfold restI; omega
theorem q_load (h : CC D S o) (hp : isP p) {y : Nat} (hy : ∀ c' : cM, (∀ n, n ≠ p → c'.2 n = c.2 n) → sJ (cS S o c') y = sJ (cS S o c) y) (hw : rgV w) {i : Int} (hS : SV (cS S o c) y i w) (hi : 0 ≤ i ∧ i * 5 + 5 ≤ (sN S y : Int)) (hn : sN S y < 1000000) (k : post (cS S o (putP c p w))) : wp_X7_load D post (cS S o c) (o p) y (iI i) := by
  obtain ⟨s0, s1, s2, s3, s4⟩ := hS
  unfold gJ at s0 s1 s2 s3 s4
  have rb := rest_bits hw
  have rr := restI_r hw
  unfold wp_X7_load wp_X7_load_0 wp_X7_load_20
  intro x1 e1
  have e1 : x1 = iI (i * 5) := by rw [e1, show (5 : Int32) = iI 5 from rfl, iI_mul]
  rw [e1]
  have iv := fun {j : Int} (hj : 0 ≤ j ∧ j < 5) => sv_in hi hn hj
  have iv0 := iv (j := 0) (by decide)
  rw [Int.add_zero] at iv0
  have a1 : iI (i * 5) + (1 : Int32) = iI (i * 5 + 1) := by rw [show (1 : Int32) = iI 1 from rfl, iI_add]
  have a2 : iI (i * 5) + (2 : Int32) = iI (i * 5 + 2) := by rw [show (2 : Int32) = iI 2 from rfl, iI_add]
  have a3 : iI (i * 5) + (3 : Int32) = iI (i * 5 + 3) := by rw [show (3 : Int32) = iI 3 from rfl, iI_add]
  have a4 : iI (i * 5) + (4 : Int32) = iI (i * 5 + 4) := by rw [show (4 : Int32) = iI 4 from rfl, iI_add]
  have a5 : iI (i * 5) + (5 : Int32) = iI (i * 5 + 5) := by rw [show (5 : Int32) = iI 5 from rfl, iI_add]
  rw [a1, a2, a3, a4, a5]
  rw [show (Int32.ofNat (sN (cS S o c) y)) = iI ((sN S y : Nat) : Int) from rfl]
  rw [show (0 : Int32) = iI 0 from rfl]
  refine ⟨fun q => absurd ((iI_lt (by omega) (by omega) (by decide) (by decide)).mp q) (by omega), fun _ => ⟨fun q => absurd ((iI_lt (by omega) (by omega) (by decide) (by decide)).mp q) (by omega), fun _ => ⟨fun _ => ⟨iv0, ?_⟩, fun q => absurd ((iI_le (by omega) (by omega) (by omega) (by omega)).mpr (by omega)) q⟩⟩⟩
  have hJ : ∀ (c' : cM) (n : Nat), (∀ n, n ≠ p → c'.2 n = c.2 n) → sJ (cS S o c') y n = sJ (cS S o c) y n := fun c' n hh => congrFun (hy c' hh) n
  have n1 : ∀ n, n ≠ p → ∀ (z : cM) (j : Int) (x : Int64), (∀ n, n ≠ p → z.2 n = c.2 n) → (cJ z p j x).2 n = c.2 n := fun n hh z j x hz => by
    rw [cJ_2, upJ_r _ _ _ (by simpa using hh)]; exact hz n hh
  intro S6 e6
  rw [s0, c_w1 h hp.1 (show ((1 : Nat) : Int) = 1 from rfl)] at e6
  rw [e6]
  refine ⟨iv (by decide), ?_⟩
  intro S8 e8
  have z1 : ∀ n, n ≠ p → (cJ c p 1 (plW w)).2 n = c.2 n := fun n hh => n1 n hh _ _ _ (fun _ _ => rfl)
  rw [hJ _ _ z1, s1, c_w1 h hp.1 (show ((2 : Nat) : Int) = 2 from rfl)] at e8
  rw [e8]
  refine ⟨iv (by decide), ?_⟩
  intro S10 e10
  have z2 : ∀ n, n ≠ p → (cJ (cJ c p 1 (plW w)) p 2 (plK w 1)).2 n = c.2 n := fun n hh => n1 n hh _ _ _ z1
  rw [hJ _ _ z2, s2, c_w1 h hp.1 (show ((3 : Nat) : Int) = 3 from rfl)] at e10
  rw [e10]
  refine ⟨iv (by decide), ?_⟩
  intro S12 e12
  have z3 : ∀ n, n ≠ p → (cJ (cJ (cJ c p 1 (plW w)) p 2 (plK w 1)) p 3 (plK w 2)).2 n = c.2 n := fun n hh => n1 n hh _ _ _ z2
  rw [hJ _ _ z3, s3, c_w1 h hp.1 (show ((4 : Nat) : Int) = 4 from rfl)] at e12
  rw [e12]
  refine ⟨iv (by decide), ?_⟩
  intro x14 e14
  have z4 : ∀ n, n ≠ p → (cJ (cJ (cJ (cJ c p 1 (plW w)) p 2 (plK w 1)) p 3 (plK w 2)) p 4 (plK w 4)).2 n = c.2 n := fun n hh => n1 n hh _ _ _ z3
  rw [hJ _ _ z4, s4, zI_32] at e14
  rw [e14, rb.1]
  have key : ∀ t : Int, t = w 64 → wp_X7_load_76 D post (cS S o (cJ (cJ (cJ (cJ c p 1 (plW w)) p 2 (plK w 1)) p 3 (plK w 2)) p 4 (plK w 4))) (o p) (iI (restI w)) (o p) (iI t) := by
    intro t ht
    unfold wp_X7_load_76
    have q := hw.2.1
    refine ⟨?_, ?_, ?_⟩
    · rcases (show t = 0 ∨ t = 1 by omega) with e | e <;> rw [e]
      · exact nr0
      · exact nr1
    · rcases (show t = 0 ∨ t = 1 by omega) with e | e <;> rw [e] <;> decide
    intro S1 e1
    rw [c_u1 h hp.1 (show ((5 : Nat) : Int) = 5 from rfl)] at e1
    rw [e1]
    intro S3 e3
    rw [rb.2.1, c_u1 h hp.1 (show ((6 : Nat) : Int) = 6 from rfl)] at e3
    rw [e3]
    intro S4 e4
    rw [rb.2.2, c_u1 h hp.1 (show ((7 : Nat) : Int) = 7 from rfl), ht, put7] at e4
    rw [e4]
    exact k
  rw [iI_eq (by have := hw.2; omega) (by have := hw.2; omega) (by decide) (by decide)]
  exact ⟨fun q => key 0 q.symm, fun q => key 1 (by have := hw.2; omega)⟩
end
