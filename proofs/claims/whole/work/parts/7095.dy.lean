/-- the room behind k more bytes -/
def capK (cap len : Nat) : Nat → Nat
  | 0 => cap
  | k + 1 => capK (capN cap len) (len + 1) k
theorem capN_r {cap len : Nat} (h : len ≤ cap) : cap ≤ capN cap len ∧ len + 1 ≤ capN cap len ∧ (len = cap → capN cap len = 2 * cap + 2) ∧ (len < cap → capN cap len = cap) := by
  unfold capN; split <;> omega
theorem capK_r : ∀ (k cap len : Nat), len ≤ cap → cap ≤ capK cap len k ∧ len + k ≤ capK cap len k ∧ (cap ≤ 2 * (len + k) + 2 → capK cap len k ≤ 2 * (len + k) + 2) ∧ (2 * (len + k) + 2 ≤ cap → capK cap len k = cap)
  | 0, cap, len, h => by unfold capK; omega
  | k + 1, cap, len, h => by
    have e := capN_r h
    have ih := capK_r k (capN cap len) (len + 1) e.2.1
    unfold capK
    by_cases q : len = cap
    · have := e.2.2.1 q; omega
    · have := e.2.2.2 (by omega); omega
section
variable {D : wD} {S : wS} {o : Nat → Nat} {c : cM} {post : Int32 → wS → Prop} {xp : String → wS → Prop}
theorem type_b (z : Int64) {d : Nat} (hd : d < 8) : Int64.toInt32 ((jlushr z (iI (8 * d))) &&& (255 : Int64)) = iI (byt z (8 * d)) := by
  rw [shr_same z hd]; exact byt_i z _
theorem ex_r0 {U : wS} {K : List Nat} (h : CC D S o) (hE : EX D (cS S o c) U K) (h0 : o 0 ∉ K) {f k : Nat} (hk : sfr 0 f = some k) : sR U (o 0) f = some (o k) ∧ wM D U (o k) ∧ sK U (o k) = ckd k := by
  have q := sfr_cOk 0 f k hk
  have m0 := (c_m (D := D) (c := c) h (n := 0) (by decide)).mpr trivial
  have mk := (c_m (D := D) (c := c) h q.2.2).mpr trivial
  exact ⟨by rw [hE.r m0 h0, c_r h hk], hE.M mk, by rw [hE.k mk, c_k h q.2.2]⟩
theorem q_type_101 {y0 : Nat} (h : CC D S o) (h0 : o 0 ∉ [o 49, y0]) (z : Int64) : ∀ (n d bc bs : Nat) (U : wS) (y : Nat) (L : List Int), d < n → d ≤ 8 → EX D (cS S o c) U [o 49, y0] → (y = y0 ∨ ¬ wM D (cS S o c) y) → SB U (o 49) y L → L.length + (tyL z d).length ≤ 500 → sN U y ≤ 1002 →
    capK (sN U y) L.length (tyL z d).length - sN U y ≤ bc → 2 * (capK (sN U y) L.length (tyL z d).length - sN U y) ≤ bs → (∀ x ∈ tyL z d, 0 ≤ x ∧ x < 128) →
    (∀ U' y', EX D (cS S o c) U' [o 49, y0] → (y' = y0 ∨ ¬ wM D (cS S o c) y') → SB U' (o 49) y' (L ++ tyL z d) → sN U' y' = capK (sN U y) L.length (tyL z d).length → post (iI (L.length + (tyL z d).length)) U') →
    wp_X11_type_101 D post xp n bc bs U (o 0) z (iI (8 * d - 8)) := by
  intro n
  induction n with
  | zero => intro d bc bs U y L hd; omega
  | succ n ih =>
    intro d bc bs U y L hd h8 hE hy hS hl hc hb1 hb2 hx k
    have r13 := ex_r0 h hE h0 (f := 13) (k := 49) rfl
    unfold wp_X11_type_101
    rw [show (0 : Int32) = iI 0 from rfl, iI_lt (by omega) (by omega) (by decide) (by decide)]
    cases d with
    | zero =>
      refine ⟨fun _ => ⟨o 49, r13.1, r13.2.1, r13.2.2, ?_⟩, fun q => absurd (by decide) q⟩
      refine q_lenB hS ?_
      have k := k U y hE hy (by unfold tyL; rw [List.append_nil]; exact hS) rfl
      unfold tyL at k
      rw [show (L.length : Int) + (([] : List Int).length : Int) = L.length by simp] at k
      exact k
    | succ d =>
      refine ⟨fun q => absurd q (by omega), fun _ => ?_⟩
      intro x5 e5
      have e8 : 8 * ((d + 1 : Nat) : Int) - 8 = 8 * d := by omega
      have r := byt_r z (8 * d)
      rw [e8, type_b z (by omega)] at e5
      rw [e8]
      have st : ∀ (bc bs : Nat) (U : wS) (y : Nat) (L : List Int), EX D (cS S o c) U [o 49, y0] → (y = y0 ∨ ¬ wM D (cS S o c) y) → SB U (o 49) y L → L.length + (tyL z d).length ≤ 500 → sN U y ≤ 1002 →
          capK (sN U y) L.length (tyL z d).length - sN U y ≤ bc → 2 * (capK (sN U y) L.length (tyL z d).length - sN U y) ≤ bs →
          (∀ U' y', EX D (cS S o c) U' [o 49, y0] → (y' = y0 ∨ ¬ wM D (cS S o c) y') → SB U' (o 49) y' (L ++ tyL z d) → sN U' y' = capK (sN U y) L.length (tyL z d).length → post (iI (L.length + (tyL z d).length)) U') →
          wp_X11_type_133 D post xp (wp_X11_type_101 D post xp n) bc bs U (o 0) z (iI (8 * d)) := by
        intro bc bs U y L a1 a2 a3 a4 a5 a6 a7 a8
        unfold wp_X11_type_133
        intro x1 e1
        rw [e1, show (-8 : Int32) = iI (-8) from rfl, iI_add]
        have := ih d bc bs U y L (by omega) (by omega) a1 a2 a3 a4 a5 a6 a7 (fun x hh => hx x (by unfold tyL; exact List.mem_append_right _ hh)) a8
        rw [show (8 * (d : Int) - 8) = 8 * d + -8 by omega] at this
        exact this
      by_cases hb : byt z (8 * d) = 0
      · have et : tyL z (d + 1) = tyL z d := by rw [tyL, if_pos hb, List.nil_append]
        have e5 : x5 = iI 0 := by rw [e5, hb]; decide
        rw [et] at k hb1 hb2 hl
        rw [e5]
        exact ⟨fun _ => st bc bs U y L hE hy hS hl hc hb1 hb2 k, fun q => absurd rfl q⟩
      · have et : tyL z (d + 1) = byt z (8 * d) :: tyL z d := by rw [tyL, if_neg hb]; rfl
        have hbx := hx (byt z (8 * d)) (by rw [et]; exact List.mem_cons_self)
        have e5 : x5 = iI (byt z (8 * d)) := by
          have t := ji2c_b hbx
          have e : ∀ n : Nat, n < 128 → ji2c (iI (n : Int)) = iI (n : Int) := by decide +kernel
          have := e (byt z (8 * d)).toNat (by omega)
          rw [Int.toNat_of_nonneg hbx.1] at this
          rw [e5, this]
        rw [et, List.length_cons] at k hb1 hb2 hl
        rw [e5, iI_eq (by omega) (by omega) (by decide) (by decide)]
        refine ⟨fun q => absurd q hb, fun _ => ⟨o 49, r13.1, r13.2.1, r13.2.2, ?_⟩⟩
        have hLc : L.length ≤ sN U y := hS.2.1.2.2.2
        have cn := capN_r hLc
        have ck := capK_r (tyL z d).length (capN (sN U y) L.length) (L.length + 1) cn.2.1
        rw [capK] at hb1 hb2
        refine ⟨capN (sN U y) L.length - sN U y, 2 * (capN (sN U y) L.length - sN U y), by omega, by omega, ?_⟩
        refine q_appendB hS (by omega) hbx (fun q => ?_) ?_
        · have := cn.2.2.1 q; omega
        · intro U' y' he hS' hy' hn'
          have hE' : EX D (cS S o c) U' [o 49, y0] := hE.trans he (fun _ _ w => w) (fun a ha w => by
            rcases hy with e | e
            · rw [← e]; exact w
            · simp at w ⊢
              rcases w with w | w
              · exact Or.inl w
              · rw [w] at ha; exact absurd ha e)
          have hy2 : y' = y0 ∨ ¬ wM D (cS S o c) y' := by
            rcases hy' with e | e
            · rw [e]; exact hy
            · exact Or.inr fun w => e (hE.M w)
          have el : (L ++ [byt z (8 * d)]).length = L.length + 1 := by simp
          refine st _ _ U' y' (L ++ [byt z (8 * d)]) hE' hy2 hS' (by rw [el]; omega) ?_ ?_ ?_ ?_
          · rw [hn']
            by_cases q : L.length = sN U y
            · rw [cn.2.2.1 q]; omega
            · rw [cn.2.2.2 (by omega)]; exact hc
          · rw [hn', el]; omega
          · rw [hn', el]; omega
          · intro U2 y2 a1 a2 a3 a4
            rw [List.append_assoc] at a3
            rw [hn', el] at a4
            have k := k U2 y2 a1 a2 a3 a4
            rw [el]
            rw [show (((L.length + 1 : Nat) : Int) + ((tyL z d).length : Int)) = (L.length : Int) + (((tyL z d).length + 1 : Nat) : Int) by omega]
            exact k
end
