/-! PHASE 3: a paper is written into the output; the reader's next letter -/
section
variable {D : wD} {S : wS} {o : Nat → Nat} {c : cM} {F R : Int} {v : Int → Int} {xp : String → wS → Prop}
theorem ap_of (h : CC D S o) {k y : Nat} (hk : k < 52) (hc : cOk k = false) {L : List Int} (hS : SB (cS S o c) (o k) y L) : AP o (o k) y := by
  intro n hn z
  simp only [List.mem_cons, List.not_mem_nil, or_false] at z
  rcases z with e | e
  · exact o_ne h hk hc n hn e
  · have k1 := (h.1 n (cOk_lt hn)).2.1
    have k2 : sK S y = 20 := hS.2.1.2.2.1
    rw [e, k2] at k1
    have key : ∀ n ∈ cLs, ckd n ≠ 20 := by decide
    exact key n (by simpa [cOk] using hn) k1.symm
theorem q_writePaperC {post : Int32 → wS → Prop} (h : CC D S o) (hB : BG c F R) (hv : okV F R v) (hA : PAt c 11 v) {y : Nat} {L : List Int} (hS : SB (cS S o c) (o 50) y L) (hk : KS D (cS S o c) (o 50) y) {M : Nat} (hM : 180 ≤ M ∧ M < 20000) {bc bs : Nat} (hr' : RBD (sN S y) bc bs M) (h16 : 16 ≤ sN S y)
    (k : ∀ U' y', BL D (cS S o c) U' (o 50) y y' (paperP F R v) → 16 ≤ sN U' y' → sN U' y' ≤ M → post (iI (paperP F R v).length) U') : wp_X11_writePaper D post bc bs (cS S o c) (o 0) := by
  unfold wp_X11_writePaper wp_X11_writePaper_0
  refine ⟨o 28, c_r h rfl, (c_m h (by decide)).mpr trivial, c_k h (by decide), o 11, c_r h rfl, (c_m h (by decide)).mpr trivial, c_k h (by decide), o 50, c_r h rfl, (c_m h (by decide)).mpr trivial, c_k h (by decide), bc, bs, Nat.le_refl _, Nat.le_refl _, ?_⟩
  have hK := ap_of h (by decide) (by decide) hS
  refine q_write h hK hB (by decide) hv hA hk hM hS hr' h16 fun U' y' hb h1 h2 => ?_
  have hc := bl_c h hK hb
  have e : sR U' (o 0) 14 = some (o 50) ∧ wM D U' (o 50) ∧ sK U' (o 50) = 1 := by rw [hc.2]; exact ⟨c_r hc.1 rfl, (c_m hc.1 (by decide)).mpr trivial, c_k hc.1 (by decide)⟩
  refine ⟨o 50, e.1, e.2.1, e.2.2, ?_⟩
  exact q_lenB hb.2.2 (k U' y' hb h1 h2)
theorem getD_out {L : List Int} {n : Nat} (h : L.length ≤ n) : L.getD n 0 = 0 := by simp [List.getD_eq_getElem?_getD, List.getElem?_eq_none h]
def tx (L : List Int) (a : Int) : Int := L.getD a.toNat 0
theorem tx_r {L : List Int} (h : ∀ x ∈ L, 0 ≤ x ∧ x < 128) (a : Int) : 0 ≤ tx L a ∧ tx L a < 128 := by
  unfold tx
  by_cases q : a.toNat < L.length
  · exact getD_b h q
  · rw [getD_out (by omega)]; decide
theorem q_next {post : Int32 → wS → Prop} (h : CC D S o) {y : Nat} {L : List Int} (hT : SB (cS S o c) (o 49) y L) (hc : sN S y < 1000000) {a : Int} (ha : c.1 28 2 = a) (h0 : 0 ≤ a ∧ a < 1000000) (k : post (iI (tx L a)) (cS S o (cI c 28 2 (a + 1)))) : wp_X6_next D post (cS S o c) (o 28) (o 49) := by
  have hl : L.length < 1000000 := by have := hT.2.1.2.2.2; exact Nat.lt_of_le_of_lt this hc
  have e2 : sI (cS S o c) (o 28) 2 = iI a := by rw [c_i0 h (by decide), show c.1 28 ((2 : Nat) : Int) = a from ha]
  have n29 : ∀ x : Int, 0 ≤ x ∧ x < 128 → post (iI x) (cS S o (cI c 28 2 (a + 1))) → wp_X6_next_29 D post (cS S o c) (o 28) (iI x) := fun x hx kk => by
    unfold wp_X6_next_29
    intro S1 e1
    rw [e2, show (1 : Int32) = iI 1 from rfl, iI_add, c_u1 h (by decide) (show ((2 : Nat) : Int) = 2 from rfl)] at e1
    rw [e1]
    exact ⟨(ji2c_b hx).2, kk⟩
  unfold wp_X6_next wp_X6_next_0
  rw [e2, show (0 : Int32) = iI 0 from rfl, iI_lt (by omega) (by omega) (by decide) (by decide)]
  refine ⟨fun q => absurd q (by omega), fun _ => ?_⟩
  refine q_lenB hT ?_
  rw [iI_le (by omega) (by omega) (by omega) (by omega)]
  refine ⟨fun q => n29 0 (by decide) ?_, fun q => ?_⟩
  · have : tx L a = 0 := by unfold tx; rw [getD_out (by omega)]
    rw [this] at k
    exact k
  · rw [e2]
    exact q_charB hT hc ⟨h0.1, by omega⟩ (n29 _ (tx_r hT.2.2.2.2.1 a) k)
end
