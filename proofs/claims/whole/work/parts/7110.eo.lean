section
variable {D : wD} {S : wS} {o : Nat → Nat} {c : cM} {F R : Int} {v : Int → Int}
theorem sanA_len6 {L : List Mv} {t : Mv} (ok : okMv F R v t) : (sanA F v L t).length ≤ 6 := by
  have hb : t.2.2 ≠ 0 → kindO (v t.1) = 6 := fun q => by
    have e := ok.2.2.2.2.2
    by_cases z : becB F R v t.1 t.2.1 = true
    · unfold becB at z; simp only [Bool.and_eq_true, decide_eq_true_eq] at z; exact z.1
    · rw [if_neg z] at e; exact absurd e q
  unfold sanA headA takeA tailA
  split
  · split <;> simp
  · by_cases k : kindO (v t.1) = 6
    · rw [if_pos k]
      split <;> split <;> simp
    · have e0 : t.2.2 = 0 := by
        by_cases q : t.2.2 = 0
        · exact q
        · exact absurd (hb q) k
      have := fromC_len F t.1 (disL F v L t.1 t.2.1 0 false false false L.length)
      rw [if_neg k, if_pos e0]
      split <;> simp <;> omega
theorem sanA_p (hB : BG c F R) {L : List Mv} {t : Mv} (ok : okMv F R v t) : ∀ x ∈ sanA F v L t, 0 < x ∧ x < 128 := by
  have f1 := fileC_r hB (a := t.1); have f2 := fileC_r hB (a := t.2.1)
  have r1 := rankC_r hB ok.1; have r2 := rankC_r hB ok.2.1
  have l1 := letB_r (kindO (v t.1)); have l2 := letB_r t.2.2
  intro x hx
  unfold sanA headA takeA tailA fromC at hx
  split at hx
  · split at hx <;> simp at hx <;> omega
  · simp only [List.mem_append] at hx
    rcases hx with hx | hx
    · split at hx
      · split at hx <;> simp at hx; omega
      · simp only [List.mem_cons, List.mem_append] at hx
        rcases hx with hx | hx | hx
        · omega
        · split at hx <;> simp at hx; omega
        · split at hx <;> simp at hx; omega
    · rcases hx with hx | hx | hx
      · split at hx <;> simp at hx; omega
      · simp at hx; omega
      · split at hx <;> simp at hx; omega
theorem sanW_ok (hB : BG c F R) {L : List Mv} {t : Mv} (ok : okMv F R v t) : (sanW F R v L t).length ≤ 7 ∧ ∀ x ∈ sanW F R v L t, 0 < x ∧ x < 128 := by
  have l6 := sanA_len6 (L := L) ok
  have ap := sanA_p hB (L := L) ok
  have ev := endC_v F R (mkT F R v t)
  unfold sanW
  refine ⟨?_, fun x hx => ?_⟩
  · split <;> simp <;> omega
  · rcases List.mem_append.mp hx with q | q
    · exact ap x q
    · split at q
      · exact absurd q List.not_mem_nil
      · rw [List.mem_singleton.mp q]; omega
theorem q_wordOf {post : Int64 → wS → Prop} (h : CC D S o) (hB : BG c F R) (hP : ∀ c, ST D (cS S o c) (D.2.2.1 1) pcsL) (hv : PV F R v) (hL : LK c F R v) (hf : few F R v) {i : Int} (hi : 0 ≤ i ∧ i < (movesL F R v).length)
    (k : ∀ c', cSim [10, 19] c c' → post (zI (pkA 0 (sanW F R v (movesL F R v) ((movesL F R v).getD i.toNat (0, 0, 0))))) (cS S o c')) : wp_X4_wordOf D post (cS S o c) (o 17) (iI i) := by
  have hm := hB.m
  unfold wp_X4_wordOf wp_X4_wordOf_0 wp_X4_wordOf_30
  refine q_plainWord h hB hP hv hL hf hi ?_
  refine q_markOf h hB hv hL hf hi fun c' hs => ?_
  have k := k c' hs
  have ok := movesL_mem (F := F) (R := R) (v := v) (by omega) (getD_mem (L := movesL F R v) (k := i) hi)
  generalize (movesL F R v).getD i.toNat (0, 0, 0) = t at ok k ⊢
  have ev := endC_v F R (mkT F R v t)
  have l6 := sanA_len6 (L := movesL F R v) ok
  have ap := sanA_p hB (L := movesL F R v) ok
  have pr := pkA_r (sanA F v (movesL F R v) t) 0 0 (by decide) (by decide) (fun y hy => by have := ap y hy; omega)
  have pb : (256 ^ (0 + (sanA F v (movesL F R v) t).length) : Nat) ≤ 256 ^ 6 := Nat.pow_le_pow_right (by decide) (by omega)
  have e6 : (256 ^ 6 : Nat) = 281474976710656 := by decide
  unfold sanW at k
  rw [show (0 : Int32) = iI 0 from rfl, iI_eq (by omega) (by omega) (by decide) (by decide)]
  refine ⟨fun q => ?_, fun q => ?_⟩
  · rw [if_neg q, pkA_app] at k
    rw [zI_of (by omega) (by omega), sh8 pr.1 (by omega) (by omega)]
    exact k
  · rw [if_pos q, List.append_nil] at k
    exact k
theorem q_writeM_27 {post : Int32 → wS → Prop} {xp : String → wS → Prop} {y0 : Nat} (h : CC D S o) (h0 : o 0 ∉ [o 50, y0]) (z : Int64) : ∀ (n d bc bs : Nat) (U : wS) (y : Nat) (L : List Int), d < n → d ≤ 8 → EX D (cS S o c) U [o 50, y0] → (y = y0 ∨ ¬ wM D (cS S o c) y) → SB U (o 50) y L → L.length + (tyL z d).length ≤ 500 → sN U y ≤ 1002 →
    capK (sN U y) L.length (tyL z d).length - sN U y ≤ bc → 2 * (capK (sN U y) L.length (tyL z d).length - sN U y) ≤ bs → (∀ x ∈ tyL z d, 0 ≤ x ∧ x < 128) →
    (∀ U' y', EX D (cS S o c) U' [o 50, y0] → (y' = y0 ∨ ¬ wM D (cS S o c) y') → SB U' (o 50) y' (L ++ tyL z d) → sN U' y' = capK (sN U y) L.length (tyL z d).length → post (iI (L.length + (tyL z d).length)) U') →
    wp_X11_writeMove_27 D post xp n bc bs U (o 0) z (iI (8 * d - 8)) := by
  intro n
  induction n with
  | zero => intro d bc bs U y L hd; omega
  | succ n ih =>
    intro d bc bs U y L hd h8 hE hy hS hl hc hb1 hb2 hx k
    have r13 := ex_r0 h hE h0 (f := 14) (k := 50) rfl
    unfold wp_X11_writeMove_27
    rw [show (0 : Int32) = iI 0 from rfl, iI_lt (by omega) (by omega) (by decide) (by decide)]
    cases d with
    | zero =>
      refine ⟨fun _ => ⟨o 50, r13.1, r13.2.1, r13.2.2, ?_⟩, fun q => absurd (by decide) q⟩
      refine q_lenB hS ?_
      have k := k U y hE hy (by unfold tyL; rw [List.append_nil]; exact hS) rfl
      unfold tyL at k
      rw [show (L.length : Int) + (([] : List Int).length : Int) = L.length by simp] at k
      exact k
    | succ d =>
      refine ⟨fun q => absurd q (by omega), fun _ => ?_⟩
      intro x5 e5
      have e8 : 8 * ((d + 1 : Nat) : Int) - 8 = 8 * d := by omega
      have r := byt_r z (8 * d)
      rw [e8, type_b z (by omega)] at e5
      rw [e8]
      have st : ∀ (bc bs : Nat) (U : wS) (y : Nat) (L : List Int), EX D (cS S o c) U [o 50, y0] → (y = y0 ∨ ¬ wM D (cS S o c) y) → SB U (o 50) y L → L.length + (tyL z d).length ≤ 500 → sN U y ≤ 1002 →
          capK (sN U y) L.length (tyL z d).length - sN U y ≤ bc → 2 * (capK (sN U y) L.length (tyL z d).length - sN U y) ≤ bs →
          (∀ U' y', EX D (cS S o c) U' [o 50, y0] → (y' = y0 ∨ ¬ wM D (cS S o c) y') → SB U' (o 50) y' (L ++ tyL z d) → sN U' y' = capK (sN U y) L.length (tyL z d).length → post (iI (L.length + (tyL z d).length)) U') →
          wp_X11_writeMove_59 D post xp (wp_X11_writeMove_27 D post xp n) bc bs U (o 0) z (iI (8 * d)) := by
        intro bc bs U y L a1 a2 a3 a4 a5 a6 a7 a8
        unfold wp_X11_writeMove_59
        intro x1 e1
        rw [e1, show (-8 : Int32) = iI (-8) from rfl, iI_add]
        have := ih d bc bs U y L (by omega) (by omega) a1 a2 a3 a4 a5 a6 a7 (fun x hh => hx x (by unfold tyL; exact List.mem_append_right _ hh)) a8
        rw [show (8 * (d : Int) - 8) = 8 * d + -8 by omega] at this
        exact this
      by_cases hb : byt z (8 * d) = 0
      · have et : tyL z (d + 1) = tyL z d := by rw [tyL, if_pos hb, List.nil_append]
        have e5 : x5 = iI 0 := by rw [e5, hb]; decide
        rw [et] at k hb1 hb2 hl
        rw [e5]
        exact ⟨fun _ => st bc bs U y L hE hy hS hl hc hb1 hb2 k, fun q => absurd rfl q⟩
      · have et : tyL z (d + 1) = byt z (8 * d) :: tyL z d := by rw [tyL, if_neg hb]; rfl
        have hbx := hx (byt z (8 * d)) (by rw [et]; exact List.mem_cons_self)
        have e5 : x5 = iI (byt z (8 * d)) := by
          have t := ji2c_b hbx
          have e : ∀ n : Nat, n < 128 → ji2c (iI (n : Int)) = iI (n : Int) := by decide +kernel
          have := e (byt z (8 * d)).toNat (by omega)
          rw [Int.toNat_of_nonneg hbx.1] at this
          rw [e5, this]
        rw [et, List.length_cons] at k hb1 hb2 hl
        rw [e5, iI_eq (by omega) (by omega) (by decide) (by decide)]
        refine ⟨fun q => absurd q hb, fun _ => ⟨o 50, r13.1, r13.2.1, r13.2.2, ?_⟩⟩
        have hLc : L.length ≤ sN U y := hS.2.1.2.2.2
        have cn := capN_r hLc
        have ck := capK_r (tyL z d).length (capN (sN U y) L.length) (L.length + 1) cn.2.1
        rw [capK] at hb1 hb2
        refine ⟨capN (sN U y) L.length - sN U y, 2 * (capN (sN U y) L.length - sN U y), by omega, by omega, ?_⟩
        refine q_appendB hS (by omega) hbx (fun q => ?_) ?_
        · have := cn.2.2.1 q; omega
        · intro U' y' he hS' hy' hn'
          have hE' : EX D (cS S o c) U' [o 50, y0] := hE.trans he (fun _ _ w => w) (fun a ha w => by
            rcases hy with e | e
            · rw [← e]; exact w
            · simp at w ⊢
              rcases w with w | w
              · exact Or.inl w
              · rw [w] at ha; exact absurd ha e)
          have hy2 : y' = y0 ∨ ¬ wM D (cS S o c) y' := by
            rcases hy' with e | e
            · rw [e]; exact hy
            · exact Or.inr fun w => e (hE.M w)
          have el : (L ++ [byt z (8 * d)]).length = L.length + 1 := by simp
          refine st _ _ U' y' (L ++ [byt z (8 * d)]) hE' hy2 hS' (by rw [el]; omega) ?_ ?_ ?_ ?_
          · rw [hn']
            by_cases q : L.length = sN U y
            · rw [cn.2.2.1 q]; omega
            · rw [cn.2.2.2 (by omega)]; exact hc
          · rw [hn', el]; omega
          · rw [hn', el]; omega
          · intro U2 y2 a1 a2 a3 a4
            rw [List.append_assoc] at a3
            rw [hn', el] at a4
            have k := k U2 y2 a1 a2 a3 a4
            rw [el]
            rw [show (((L.length + 1 : Nat) : Int) + ((tyL z d).length : Int)) = (L.length : Int) + (((tyL z d).length + 1 : Nat) : Int) by omega]
            exact k

end
