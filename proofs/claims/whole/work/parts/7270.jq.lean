section
variable {D : wD} {S U : wS} {o : Nat → Nat} {c c' : cM} {x : Nat} {A : Nat → Nat} {m m' : xM} {F R F' R' : Int} {v v' : Int → Int} {n n' : Int} {w w' : Int → Int → Int} {mv mv' : Int → Mv} {L W : List Int} {yb : Nat → Nat} {yl : Int → Nat} {d : Int → SDt} {ye lw : List Nat} {q q' : Int} {b Ln : Nat} {xs : Nat → Int32} {a3 a4 : Nat} {P Q : wS → Prop} {ε : Bool}
/-- CALL: clearText -/
theorem call_clearText (hD : wDok D b Ln xs) (hR : RELo D S o x A lw q ε) {bc bs : Nat} (hP : ∀ S', RELo D S' o x A lw (q + 1) ε → P S') : wp_X11_clearText D (fun r S2 => wp_X12_clearText D (DIRo P Q r) S2 x) bc bs S (o 0) := by
  refine REL.elim hR fun c m F R v n w mv L W yb yl d ye hf lk ev => ?_
  have e1 := hf.1.1.2
  obtain ⟨⟨t1, t2, t3⟩, ⟨t4, t5, t6, t7⟩, t8⟩ := hf.2.2.2.1.2.1
  have s49 := t8 49 (.inr (.inl rfl))
  have t1' := t1
  rw [e1] at t1'
  rw [e1]
  refine q_clearTextC hf.1.1.1 t1' (by omega) (fun U' he hs => ?_)
  rw [← e1] at he
  have he2 : EX D S U' [o 49, yb 49] := he.mono fun a _ ha => by rw [List.mem_singleton.mp ha]; simp
  have hf1 := hf.txt (r := 49) (y' := yb 49) (L' := []) (W' := W) (.inr (.inl rfl)) hD.2.2.1.1 hD.2.2.2.2 he2 (.inl rfl) hs (by rw [he.n (Or.inl t1.2.1.2.1)]; exact s49) ⟨fun _ => rfl, fun z => absurd rfl z⟩ ⟨fun z => absurd z (by decide), fun _ => rfl⟩ ⟨by simp, t5, by simp, t7⟩
  rw [hf1.1.2.1.2]
  refine q_clearText hf1.1.2.1.1 ?_
  have s0 : KTx m (up (up m 50 0 0) 50 13 0) := ⟨fun r hr => by rw [up_r _ _ _ (by simp; omega), up_r _ _ _ (by simp; omega)], fun j hj => by rw [up_ne _ (Or.inr (by omega)), up_ne _ (Or.inr (by omega))]⟩
  have r12 : (up (up m 50 0 0) 50 13 0) 12 = m 12 := by rw [up_r _ _ _ rfl, up_r _ _ _ rfl]
  have r14 : (up (up m 50 0 0) 50 13 0) 14 = m 14 := by rw [up_r _ _ _ rfl, up_r _ _ _ rfl]
  have xr := hf.2.2.2.2.txt s0 (fun k k0 k1 => by rw [r12]; exact hf.2.2.2.2.2.2.2.1 k k0 k1) (fun k k0 k1 => by rw [r14]; exact hf.2.2.2.2.2.2.2.2.2.2.2.2.1 k k0 k1)
  have lk1 := lk.txt (L' := []) (W' := W) s0 ⟨up_at _ _ _ _, fun k k0 k1 => absurd k1 (by simp; omega)⟩ ⟨by rw [up_ne _ (Or.inr (by decide)), up_ne _ (Or.inr (by decide))]; exact lk.2.2.2.1.1, fun k k0 k1 => by rw [r14]; exact lk.2.2.2.1.2 k k0 k1⟩
  exact ⟨fun _ => hP _ (REL.mk ((hf1.ref hD.2.2.1.1 hD.2.2.2.2 xr).succ (by omega)) lk1), fun z => absurd (by rw [lk.2.2.1.1]) z⟩
theorem getD_app1 {L M : List Int} {k : Nat} {e : Int} (h : k < L.length) : (L ++ M).getD k e = L.getD k e := by
  rw [List.getD_eq_getElem?_getD, List.getElem?_append_left h, ← List.getD_eq_getElem?_getD]
theorem getD_app2 {L M : List Int} {k : Nat} {e : Int} (h : L.length ≤ k) : (L ++ M).getD k e = M.getD (k - L.length) e := by
  rw [List.getD_eq_getElem?_getD, List.getElem?_append_right h, ← List.getD_eq_getElem?_getD]
theorem tyL_in (z : Int64) : ∀ d : Nat, tyOK z d = true → ∀ y ∈ tyL z d, 32 ≤ y ∧ y ≤ 126
  | 0, _, y, hy => absurd hy List.not_mem_nil
  | d + 1, h, y, hy => by
    unfold tyOK at h
    unfold tyL at hy
    rw [Bool.and_eq_true, Bool.or_eq_true] at h
    rcases List.mem_append.mp hy with k | k
    · by_cases c : byt z (8 * d) = 0
      · rw [if_pos c] at k; exact absurd k List.not_mem_nil
      · rw [if_neg c] at k
        rw [List.mem_singleton.mp k]
        rcases h.1 with g | g
        · exact absurd (of_decide_eq_true g) c
        · exact inB_iff.mp g
    · exact tyL_in z d h.2 y k
theorem tyM_spec (z : Int64) : ∀ (d : Nat) (m : xM), (∀ r j, r ≠ 12 → ¬ (r = 50 ∧ j = 13) → tyM m z d r j = m r j) ∧ (∀ k : Int, k < m 50 13 ∨ m 50 13 + (tyL z d).length ≤ k → tyM m z d 12 k = m 12 k) ∧ ∀ k : Nat, k < (tyL z d).length → tyM m z d 12 (m 50 13 + k) = (tyL z d).getD k 0
  | 0, m => ⟨fun _ _ _ _ => rfl, fun _ _ => rfl, fun k hk => absurd hk (by simp [tyL])⟩
  | d + 1, m => by
    unfold tyM tyL
    by_cases c : byt z (8 * d) = 0
    · rw [if_pos c, if_pos c]
      exact tyM_spec z d m
    · rw [if_neg c, if_neg c]
      obtain ⟨h1, h2, h3⟩ := tyM_spec z d (up (up m 12 (m 50 13) (byt z (8 * d))) 50 13 (m 50 13 + 1))
      rw [up_at] at h2 h3
      refine ⟨fun r j hr hj => ?_, fun k hk => ?_, fun k hk => ?_⟩
      · rw [h1 r j hr hj]
        by_cases c50 : r = 50
        · subst c50
          rw [up_ne _ (Or.inr (fun e => hj ⟨rfl, e⟩)), up_r _ _ _ rfl]
        · rw [up_r _ _ _ (by simpa using c50), up_r _ _ _ (by simpa using hr)]
      · simp only [List.singleton_append, List.length_cons] at hk
        rw [h2 k (by omega), up_r _ _ _ rfl, up_ne _ (Or.inr (by omega))]
      · cases k with
        | zero =>
          rw [show (m 50 13 + ((0 : Nat) : Int)) = m 50 13 by simp, h2 _ (by omega), up_r _ _ _ rfl, up_at]
          rfl
        | succ k =>
          simp only [List.singleton_append, List.length_cons] at hk
          rw [show m 50 13 + ((k + 1 : Nat) : Int) = m 50 13 + 1 + (k : Int) by omega, h3 k (by omega)]
          rfl
/-- CALL: type -/
theorem call_type (hD : wDok D b Ln xs) (hR : RELo D S o x A [a3, a4] q ε) {z : Int64} {r : wS → Int64} {hv : wS → Prop} (hvv : ∀ S', CST D S' → hv S' ∧ r S' = z) {bc bs : Nat} (hb : 1010 ≤ bc ∧ 12000 ≤ bs) (hP : ∀ S', RELo D S' o x A [a3, a4] (q + 1) ε → P S') :
    wp_L_type D (fun r1 S2 => hv S2 ∧ wp_X12_type D (fun r3 S4 => CMPo D x a3 P Q r1 r3 S4) S2 x (r S2)) bc bs S (o 0) z a3 := by
  refine REL.elim hR fun c m F R v n w mv L W yb yl d ye hf lk ev => ?_
  unfold wp_L_type wp_L_type_0
  refine ⟨1010, 12000, hb.1, hb.2, ?_⟩
  have e1 := hf.1.1.2
  obtain ⟨⟨t1, t2, t3⟩, ⟨t4, t5, t6, t7⟩, t8⟩ := hf.2.2.2.1.2.1
  have s49 := t8 49 (.inr (.inl rfl))
  have h13 := lk.2.2.1.1
  have hl : 0 ≤ m 50 13 ∧ m 50 13 ≤ 500 := by omega
  have tl := tyL_len z 8
  have tn := tyN_r z 8
  have t1' := t1
  rw [e1] at t1'
  have sz : sN (cS S o c) (yb 49) = sN S (yb 49) := rfl
  have cap : ∀ k : Nat, L.length + k ≤ 500 → capK (sN S (yb 49)) L.length k ≤ 1002 ∧ sN S (yb 49) ≤ capK (sN S (yb 49)) L.length k := fun k hk => by
    have l0 : L.length ≤ sN S (yb 49) := t1.2.1.2.2.2
    have := capK_r k (sN S (yb 49)) L.length l0
    refine ⟨?_, this.1⟩
    by_cases g : 2 * (L.length + k) + 2 ≤ sN S (yb 49)
    · rw [this.2.2.2 g]; exact s49.2
    · have := this.2.2.1 (by omega); omega
  rw [e1]
  refine q_typeC hf.1.1.1 z t1' t4 s49.2 (by omega) (fun y y2 => ?_) (fun y => .inl ⟨rfl, ?_⟩) (fun y y2 => .inr ⟨rfl, ?_⟩) (fun y y2 U' y' he hy hs hn => ?_)
  · have := cap (tyL z 8).length (by omega); omega
  · rw [← e1]
    obtain ⟨h1, h2⟩ := hvv _ hf.2.1.1
    refine ⟨h1, ?_⟩
    rw [h2, hf.1.2.1.2]
    exact q_type hf.1.2.1.1 hl (fun _ => err_ok hD hf lk (.inl rfl) ((SIM.rf m).up0 1) rfl hP) (fun k => by rw [y] at k; exact nomatch k) (fun k => by rw [y] at k; exact nomatch k)
  · rw [← e1]
    obtain ⟨h1, h2⟩ := hvv _ hf.2.1.1
    refine ⟨h1, ?_⟩
    rw [h2, hf.1.2.1.2]
    exact q_type hf.1.2.1.1 hl (fun k => by rw [y] at k; exact nomatch k) (fun _ _ => err_ok hD hf lk (.inr (.inl rfl)) ((SIM.rf m).up0 2) rfl hP) (fun _ k => absurd (by rw [h13]; exact y2) k)
  · rw [← e1] at he hy
    have c2 := cap (tyL z 8).length (by omega)
    have hf1 := hf.txt (r := 49) (y' := y') (L' := L ++ tyL z 8) (W' := W) (.inr (.inl rfl)) hD.2.2.1.1 hD.2.2.2.2 he hy hs (by rw [hn]; have := s49.1; omega) ⟨fun _ => rfl, fun z => absurd rfl z⟩ ⟨fun z => absurd z (by decide), fun _ => rfl⟩ ⟨by rw [List.length_append]; omega, t5, fun k hk => by
      rcases List.mem_append.mp hk with g | g
      · exact t6 k g
      · exact tyL_in z 8 y k g, t7⟩
    refine store_ok hD hf1 (fun S5 h5 e5 => ?_)
    obtain ⟨h1, h2⟩ := hvv _ h5.2.1.1
    refine ⟨h1, ?_⟩
    rw [h2, h5.1.2.1.2]
    refine q_type h5.1.2.1.1 hl (fun k => by rw [y] at k; exact nomatch k) (fun _ k => absurd (by rw [h13] at k; exact k) y2) (fun _ _ => ?_)
    obtain ⟨g1, g2, g3⟩ := tyM_spec z 8 (up m 50 0 0)
    have u13 : (up m 50 0 0) 50 13 = m 50 13 := up_ne _ (Or.inr (by decide))
    rw [u13] at g2 g3
    have s0 : KTx m (tyM (up m 50 0 0) z 8) := ⟨fun r hr => funext fun j => by rw [g1 r j (by omega) (by omega), up_ne _ (Or.inl (by omega))], fun j hj => by rw [g1 50 j (by decide) (by omega), up_ne _ (Or.inr (by omega))]⟩
    have r14 : (tyM (up m 50 0 0) z 8) 14 = m 14 := funext fun j => by rw [g1 14 j (by decide) (fun h => absurd h.1 (by decide)), up_r _ _ _ rfl]
    have u12 : (up m 50 0 0) 12 = m 12 := up_r _ _ _ rfl
    have in12 : ∀ k : Int, m 50 13 ≤ k → k < m 50 13 + (tyL z 8).length → (tyM (up m 50 0 0) z 8) 12 k = (tyL z 8).getD (k - m 50 13).toNat 0 := fun k k0 k1 => by
      have := g3 (k - m 50 13).toNat (by omega)
      rw [show m 50 13 + (((k - m 50 13).toNat : Nat) : Int) = k by omega] at this
      exact this
    have xr := hf.2.2.2.2.txt s0 (fun k k0 k1 => by
      by_cases g : k < m 50 13 ∨ m 50 13 + (tyL z 8).length ≤ k
      · rw [g2 k g, u12]; exact hf.2.2.2.2.2.2.2.1 k k0 k1
      · rw [in12 k (by omega) (by omega), getD_el (show (k - m 50 13).toNat < (tyL z 8).length by omega)]
        have := tyL_in z 8 y _ (List.getElem_mem (show (k - m 50 13).toNat < (tyL z 8).length by omega))
        omega) (fun k k0 k1 => by rw [r14]; exact hf.2.2.2.2.2.2.2.2.2.2.2.2.1 k k0 k1)
    have lk1 := lk.txt (L' := L ++ tyL z 8) (W' := W) s0 ⟨by rw [tyM_len, u13, List.length_append]; omega, fun k k0 k1 => by
      rw [List.length_append] at k1
      unfold tx
      by_cases g : k < m 50 13
      · rw [g2 k (.inl g), u12, lk.2.2.1.2 k k0 (by omega)]
        unfold tx
        rw [getD_app1 (by omega)]
      · rw [in12 k (by omega) (by omega), getD_app2 (by omega)]
        congr 1
        omega⟩ ⟨by rw [g1 50 15 (by decide) (by decide), up_ne _ (Or.inr (by decide))]; exact lk.2.2.2.1.1, fun k k0 k1 => by rw [r14]; exact lk.2.2.2.1.2 k k0 k1⟩
    refine cmp_ok (by rw [x_e0, g1 50 0 (by decide) (by decide), up_at]; rfl) (hP _ (REL.mk ((h5.ref hD.2.2.1.1 hD.2.2.2.2 xr).succ (by omega)) lk1)) (fun _ => ⟨(ans_ref h5 _).2, ?_⟩)
    rw [(ans_ref h5 _).1, e5, h13]
end
