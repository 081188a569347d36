def uqL : List Int := [3, 5, 4, 2, 1, 4, 5, 3]
/-- the usual first position, file by file -/
def uL : Nat → Int → Int
  | 0 => emptyV
  | f + 1 => upV (upV (upV (upV (uL f) f (uqL.getD f 0)) (8 + f) 6) (48 + f) 12) (56 + f) (uqL.getD f 0 + 6)
def usualV : Int → Int := upV (uL 8) 65 15
section
variable {D : wD} {S : wS} {o : Nat → Nat} {c : cM} {p : Nat}
theorem q_usual_9 {post : wS → Prop} (h : CC D S o) (hp : isP p) (h0 : ∀ c, ST D (cS S o c) (D.2.2.1 0) usualL) (h1 : ∀ c, ST D (cS S o c) (D.2.2.1 1) pcsL) (k : post (cS S o (putP c p usualV))) :
    ∀ (n d f : Nat), d < n → f + d = 8 → wp_X7_setUpUsual_9 D post n (cS S o (putP c p (uL f))) (o p) (D.2.2.1 0) (iI f) := by
  intro n
  induction n with
  | zero => intro d f hd; omega
  | succ n ih =>
    intro d f hd hf
    unfold wp_X7_setUpUsual_9
    refine q_lenS (h0 _) ?_
    rw [show (usualL.length : Int) = 8 from rfl, iI_le (by decide) (by decide) (by omega) (by omega)]
    refine ⟨fun q => ?_, fun q => ?_⟩
    · intro S4 e4
      rw [show (15 : Int32) = iI 15 from rfl, c_u1 h hp.1 (show ((6 : Nat) : Int) = 6 from rfl), putP_i c _ _ (Or.inr (Or.inl ⟨rfl, rfl⟩)), show f = 8 by omega] at e4
      rw [e4]
      exact k
    · intro y5 e5
      rw [e5]
      refine q_charS (h0 _) ⟨by omega, by show (f : Int) < 8; omega⟩ ?_
      rw [show ((f : Int)).toNat = f by omega]
      have hb := getD_b (h0 c).2.2.2.2 (show f < usualL.length by show f < 8; omega)
      refine q_indexS (h1 _) (by decide) hb ?_
      have key : ∀ f : Nat, f < 8 → firstL (fun i => decide (pcsL.getD i.toNat 0 = usualL.getD f 0)) 0 pcsL.length = uqL.getD f 0 ∧ 0 ≤ uqL.getD f 0 ∧ uqL.getD f 0 ≤ 5 := by decide
      have key := key f (by omega)
      rw [key.1]
      refine q_placeP h hp (by omega) (by omega) ?_
      rw [show (8 : Int32) = iI 8 from rfl, show (48 : Int32) = iI 48 from rfl, show (56 : Int32) = iI 56 from rfl, show (6 : Int32) = iI 6 from rfl, show (12 : Int32) = iI 12 from rfl, iI_add, iI_add, iI_add, iI_add]
      refine q_placeP h hp (by omega) (by omega) ?_
      refine q_placeP h hp (by omega) (by omega) ?_
      refine q_placeP h hp (by omega) (by omega) ?_
      intro x18 e18
      rw [e18, show (1 : Int32) = iI 1 from rfl, iI_add]
      exact ih (d - 1) (f + 1) (by omega) (by omega)
theorem q_setUpUsual {post : wS → Prop} (h : CC D S o) (hp : isP p) (h0 : ∀ c, ST D (cS S o c) (D.2.2.1 0) usualL) (h1 : ∀ c, ST D (cS S o c) (D.2.2.1 1) pcsL) (k : post (cS S o (putP c p usualV))) :
    wp_X7_setUpUsual D post (cS S o c) (o p) := by
  unfold wp_X7_setUpUsual wp_X7_setUpUsual_0
  refine q_clearP h hp ?_
  intro y3 e3
  rw [e3]
  exact ⟨9, q_usual_9 h hp h0 h1 k 9 8 0 (by decide) (by decide)⟩
end
