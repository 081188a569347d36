section
variable {D : wD} {S : wS} {o : Nat → Nat} {c : cM} {post : Int32 → wS → Prop} {xp : String → wS → Prop}
theorem tyL_ok (z : Int64) : ∀ d : Nat, tyOK z d = true → ∀ x ∈ tyL z d, 0 ≤ x ∧ x < 128
  | 0, _ => fun x hx => absurd hx List.not_mem_nil
  | d + 1, h => fun x hx => by
    unfold tyOK at h
    rw [Bool.and_eq_true, Bool.or_eq_true, decide_eq_true_eq, inB_iff] at h
    unfold tyL at hx
    rcases List.mem_append.mp hx with q | q
    · split at q
      · exact absurd q List.not_mem_nil
      · rename_i hb
        rw [List.mem_singleton.mp q]
        have := h.1.resolve_left hb
        omega
    · exact tyL_ok z d h.2 x q
theorem q_type_6 (h : CC D S o) (z : Int64) {y : Nat} {L : List Int} (hS : SB (cS S o c) (o 49) y L) (hl : L.length ≤ 500) (hc : sN S y ≤ 1002) {bc bs : Nat} (hb : 1 ≤ bc ∧ 6 ≤ bs)
    (hK : tyOK z 8 = true → L.length + tyN z 8 ≤ 500 → capK (sN S y) L.length (tyL z 8).length - sN S y ≤ bc ∧ 2 * (capK (sN S y) L.length (tyL z 8).length - sN S y) ≤ bs)
    (k0 : tyOK z 8 = false → xp "java/lang/IllegalArgumentException" (cS S o c)) (k1 : tyOK z 8 = true → 500 < L.length + tyN z 8 → xp "java/lang/IllegalStateException" (cS S o c))
    (k2 : tyOK z 8 = true → ¬ 500 < L.length + tyN z 8 → ∀ U' y', EX D (cS S o c) U' [o 49, y] → (y' = y ∨ ¬ wM D (cS S o c) y') → SB U' (o 49) y' (L ++ tyL z 8) → sN U' y' = capK (sN S y) L.length (tyL z 8).length → post (iI (L.length + tyN z 8)) U') :
    ∀ (n d : Nat) (s : Int) (b : Bool), d < n → d ≤ 8 → s + tyN z d = tyN z 8 → 0 ≤ s ∧ s ≤ 8 → (b = true) → tyOK z 8 = (b && tyOK z d) → wp_X11_type_6 D post xp n bc bs (cS S o c) (o 0) z (iI s) (iI (8 * d - 8)) := by
  intro n
  induction n with
  | zero => intro d s b hd; omega
  | succ n ih =>
    intro d s b hd h8 hs hs2 hbt hok
    rw [hbt, Bool.true_and] at hok
    unfold wp_X11_type_6
    rw [show (0 : Int32) = iI 0 from rfl, iI_lt (by omega) (by omega) (by decide) (by decide)]
    cases d with
    | zero =>
      have ok : tyOK z 8 = true := hok
      refine ⟨fun _ => ⟨o 49, c_r h rfl, (c_m h (by decide)).mpr trivial, c_k h (by decide), ?_⟩, fun q => absurd (by decide) q⟩
      refine q_lenB hS ?_
      have tn : s = tyN z 8 := by have : tyN z 0 = 0 := rfl; omega
      have tl := tyL_len z 8
      rw [show (500 : Int32) = iI 500 from rfl, iI_add, iI_le (by omega) (by omega) (by decide) (by decide)]
      refine ⟨fun q => ?_, fun q => ⟨hb.1, hb.2, k1 ok (by omega)⟩⟩
      have hK := hK ok (by omega)
      have h0 : o 0 ∉ [o 49, y] := by
        intro w
        simp at w
        rcases w with w | w
        · exact absurd (h.2.1 0 (by decide) 49 (by decide) w) (by decide)
        · have k1 := (h.1 0 (by decide)).2.1
          have k2 : sK S y = 20 := hS.2.1.2.2.1
          rw [w, k2] at k1; exact absurd k1 (by decide)
      refine ⟨9, ?_⟩
      have := q_type_101 (D := D) (S := S) (o := o) (c := c) (post := post) (xp := xp) h h0 z 9 8 bc bs (cS S o c) y L (by decide) (by decide) EX.rf (Or.inl rfl) hS (by omega) hc hK.1 hK.2 (tyL_ok z 8 ok) (fun U' y' a1 a2 a3 a4 => by
        have := k2 ok (by omega) U' y' a1 a2 a3 a4
        rw [tl]; exact this)
      exact this
    | succ d =>
      refine ⟨fun q => absurd q (by omega), fun _ => ?_⟩
      intro x7 e7
      have e8 : 8 * ((d + 1 : Nat) : Int) - 8 = 8 * d := by omega
      have r := byt_r z (8 * d)
      rw [e8, type_b z (by omega)] at e7
      rw [e8, e7]
      rw [show tyOK z (d + 1) = ((decide (byt z (8 * d) = 0) || inB (byt z (8 * d)) 32 126) && tyOK z d) from rfl] at hok
      rw [show tyN z (d + 1) = (if byt z (8 * d) = 0 then 0 else 1) + tyN z d from rfl] at hs
      have tr := tyN_r z d
      have st : (byt z (8 * d) = 0 ∨ inB (byt z (8 * d)) 32 126 = true) → ∀ t : Int, t = s + (if byt z (8 * d) = 0 then 0 else 1) → ∀ x1 x2 : Int32, x1 = iI t → x2 = iI (8 * d) + (-8) → wp_X11_type_6 D post xp n bc bs (cS S o c) (o 0) z x1 x2 := by
        intro hg t ht x1 x2 f1 f2
        rw [f1, f2, show (-8 : Int32) = iI (-8) from rfl, iI_add, show (8 * (d : Int) + -8) = 8 * d - 8 by omega]
        refine ih d t true (by omega) (by omega) (by rw [ht]; omega) ?_ rfl ?_
        · rw [ht]; split <;> (rename_i hz; first | rw [if_pos hz] at hs | rw [if_neg hz] at hs) <;> have := tyN_r z 8 <;> omega
        · rw [Bool.true_and, hok]
          have : (decide (byt z (8 * d) = 0) || inB (byt z (8 * d)) 32 126) = true := by
            rcases hg with hg | hg
            · rw [decide_eq_true hg]; rfl
            · rw [hg, Bool.or_true]
          rw [this, Bool.true_and]
      have s52 : (byt z (8 * d) = 0 ∨ inB (byt z (8 * d)) 32 126 = true) → wp_X11_type_52 D post xp (wp_X11_type_6 D post xp n) bc bs (cS S o c) (o 0) z (iI s) (iI (8 * d)) (iI (byt z (8 * d))) := by
        intro hg
        unfold wp_X11_type_52 wp_X11_type_63
        rw [show (0 : Int32) = iI 0 from rfl, iI_eq (by omega) (by omega) (by decide) (by decide), show (1 : Int32) = iI 1 from rfl, iI_add, iI_add]
        refine ⟨fun q x1 f1 x2 f2 => st hg (s + 1) (by rw [if_neg q]) x1 x2 f1 f2, fun q x1 f1 x2 f2 => st hg (s + 0) (by rw [if_pos q]) x1 x2 f1 f2⟩
      have bad : ¬ byt z (8 * d) = 0 → inB (byt z (8 * d)) 32 126 = false → wp_X11_type_41 D post xp bc bs (cS S o c) := by
        intro q1 q2
        unfold wp_X11_type_41
        refine ⟨hb.1, hb.2, k0 ?_⟩
        rw [hok, decide_eq_false q1, q2]; rfl
      rw [iI_eq (by omega) (by omega) (by decide) (by decide), show (32 : Int32) = iI 32 from rfl, show (126 : Int32) = iI 126 from rfl, iI_lt (by omega) (by omega) (by decide) (by decide), iI_le (by omega) (by omega) (by decide) (by decide)]
      refine ⟨fun q => s52 (Or.inl q), fun q => ⟨fun q2 => bad q ?_, fun q2 => ⟨fun q3 => s52 (Or.inr (inB_iff.mpr ⟨by omega, q3⟩)), fun q3 => bad q ?_⟩⟩⟩
      · unfold inB; rw [decide_eq_false (by omega)]; rfl
      · unfold inB; rw [decide_eq_false (show ¬ byt z (8 * d) ≤ 126 from q3), Bool.and_false]
theorem q_typeC (h : CC D S o) (z : Int64) {y : Nat} {L : List Int} (hS : SB (cS S o c) (o 49) y L) (hl : L.length ≤ 500) (hc : sN S y ≤ 1002) {bc bs : Nat} (hb : 1 ≤ bc ∧ 6 ≤ bs)
    (hK : tyOK z 8 = true → L.length + tyN z 8 ≤ 500 → capK (sN S y) L.length (tyL z 8).length - sN S y ≤ bc ∧ 2 * (capK (sN S y) L.length (tyL z 8).length - sN S y) ≤ bs)
    (k0 : tyOK z 8 = false → xp "java/lang/IllegalArgumentException" (cS S o c)) (k1 : tyOK z 8 = true → 500 < L.length + tyN z 8 → xp "java/lang/IllegalStateException" (cS S o c))
    (k2 : tyOK z 8 = true → ¬ 500 < L.length + tyN z 8 → ∀ U' y', EX D (cS S o c) U' [o 49, y] → (y' = y ∨ ¬ wM D (cS S o c) y') → SB U' (o 49) y' (L ++ tyL z 8) → sN U' y' = capK (sN S y) L.length (tyL z 8).length → post (iI (L.length + tyN z 8)) U') :
    wp_X11_type D post xp bc bs (cS S o c) (o 0) z := by
  unfold wp_X11_type wp_X11_type_0
  refine ⟨9, ?_⟩
  exact q_type_6 h z hS hl hc hb hK k0 k1 k2 9 8 0 true (by decide) (by decide) (by omega) (by decide) rfl (by simp)
end
