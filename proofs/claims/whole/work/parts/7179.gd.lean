/-! PHASE 3: the reader's state, tokens, brackets -/
section
variable {D : wD} {S U : wS} {o : Nat → Nat} {c : cM} {y b : Nat} {L : List Int}
def tokB (L : List Int) (a e : Int) : Int := if tx L a = 32 then 0 else if tx L a = 40 then 1 else if tx L a = 41 then 2 else if tx L a = 123 then 3 else if tx L a = 125 then -1 else if numB (tx L) a e = true then 4 else if resB (tx L) a e = true then 5 else 6
theorem q_tokenAt {post : Int32 → wS → Prop} (hT : SB U b y L) (hc : sN U y < 1000000) (h26 : ST D U (D.2.2.1 26) [49, 45, 48]) (h27 : ST D U (D.2.2.1 27) [48, 45, 49]) (h28 : ST D U (D.2.2.1 28) [49, 47, 50, 45, 49, 47, 50]) (h29 : ST D U (D.2.2.1 29) [42]) {a e : Int} (ha : 0 ≤ a ∧ a < L.length) (he : bordB (tx L a) = false → a ≤ e ∧ e ≤ L.length)
    (k : post (iI (tokB L a e)) U) : wp_X5_tokenAt D post U b (iI a) (iI e) := by
  have hl : L.length < 1000000 := Nat.lt_of_le_of_lt hT.2.1.2.2.2 hc
  unfold wp_X5_tokenAt wp_X5_tokenAt_0 wp_X5_tokenAt_104
  rw [show (0 : Int32) = iI 0 from rfl, iI_lt (by omega) (by omega) (by decide) (by decide)]
  refine ⟨fun q => absurd q (by omega), fun _ => ?_⟩
  refine q_lenB hT ?_
  rw [iI_lt (by omega) (by omega) (by omega) (by omega)]
  refine ⟨fun _ => ?_, fun q => absurd ha.2 q⟩
  refine q_charB hT hc ha ?_
  have r1 := tx_r hT.2.2.2.2.1 a
  rw [tx_in, show (32 : Int32) = iI 32 from rfl, show (40 : Int32) = iI 40 from rfl, show (41 : Int32) = iI 41 from rfl, show (123 : Int32) = iI 123 from rfl, show (125 : Int32) = iI 125 from rfl, iI_eq (by omega) (by omega) (by decide) (by decide), iI_eq (by omega) (by omega) (by decide) (by decide), iI_eq (by omega) (by omega) (by decide) (by decide), iI_eq (by omega) (by omega) (by decide) (by decide), iI_eq (by omega) (by omega) (by decide) (by decide)]
  unfold tokB at k
  refine ⟨fun q => ?_, fun q => ?_, fun q => ?_, fun q => ?_, fun q => ?_, fun q1 q2 q3 q4 q5 => ?_⟩
  · rw [if_pos q] at k; exact k
  · rw [if_neg (by omega), if_pos q] at k; exact k
  · rw [if_neg (by omega), if_neg (by omega), if_pos q] at k; exact k
  · rw [if_neg (by omega), if_neg (by omega), if_neg (by omega), if_pos q] at k; exact k
  · rw [if_neg (by omega), if_neg (by omega), if_neg (by omega), if_neg (by omega), if_pos q] at k; exact k
  · rw [if_neg q1, if_neg q2, if_neg q3, if_neg q4, if_neg q5] at k
    have he := he (by unfold bordB brkB; rw [decide_eq_false q1, decide_eq_false q2, decide_eq_false q3, decide_eq_false q4, decide_eq_false q5]; rfl)
    refine q_isNumberC hT hc ha.1 he ?_
    rw [bI_z]
    refine ⟨fun q => ?_, fun q => ?_⟩
    · rw [q, if_neg (by decide)] at k
      refine q_isResultC hT hc h26 h27 h28 h29 ha.1 he ?_
      rw [bI_z]
      refine ⟨fun q => ?_, fun q => ?_⟩
      · rw [q, if_neg (by decide)] at k; exact k
      · rw [(Bool.not_eq_false _).mp q, if_pos rfl] at k; exact k
    · rw [(Bool.not_eq_false _).mp q, if_pos rfl] at k; exact k
/-- the reader's cells hold a state -/
abbrev RDC (c : cM) (s : RD) : Prop := (c.1 22 6 = s.1 ∧ (0 ≤ s.1 ∧ s.1 ≤ 4)) ∧ (∀ d : Int, 0 ≤ d → d ≤ s.1 → RS c 24 d (s.2.1 d) ∧ rgV (s.2.1 d)) ∧
  (∀ d : Int, 0 ≤ d → d ≤ s.1 → c.1 26 d = s.2.2.2.1 d ∧ (0 ≤ s.2.2.2.1 d ∧ s.2.2.2.1 d ≤ 500) ∧ (s.2.2.2.1 d ≠ 0 → RS c 25 d (s.2.2.1 d) ∧ rgV (s.2.2.1 d))) ∧
  ((s.2.2.2.2.1.length : Int) = s.2.2.2.1 0 ∧ ∀ k : Nat, k < s.2.2.2.2.1.length → c.1 27 (k : Int) = mcode (s.2.2.2.2.1.getD k (0, 0, 0))) ∧
  c.1 22 8 = s.2.2.2.2.2.1 ∧ c.1 22 9 = bI s.2.2.2.2.2.2.1 ∧ c.1 22 10 = bI s.2.2.2.2.2.2.2
theorem q_closes {post : Int32 → wS → Prop} (h : CC D S o) {s : RD} (hR : RDC c s) (k0 : (s.1 = 0 ∨ s.2.2.2.1 s.1 = 0) → post (iI 0) (cS S o c)) (k1 : s.1 ≠ 0 → s.2.2.2.1 s.1 ≠ 0 → RDC (cI c 22 6 (s.1 - 1)) (s.1 - 1, s.2) → post (iI 1) (cS S o (cI c 22 6 (s.1 - 1)))) : wp_X5_closes D post (cS S o c) (o 22) := by
  obtain ⟨⟨h6, hd⟩, hn, hl, hli, h8, h9, h10⟩ := id hR
  have hle := hl s.1 hd.1 (Int.le_refl _)
  have e6 : sI (cS S o c) (o 22) 6 = iI s.1 := by rw [c_i0 h (by decide), show c.1 22 ((6 : Nat) : Int) = s.1 from h6]
  unfold wp_X5_closes wp_X5_closes_0 wp_X5_closes_27
  rw [e6, show (0 : Int32) = iI 0 from rfl, show (5 : Int32) = iI 5 from rfl, show (1 : Int32) = iI 1 from rfl, iI_le (by omega) (by omega) (by decide) (by decide), iI_le (by decide) (by decide) (by omega) (by omega)]
  refine ⟨fun q => ⟨rfl, k0 (Or.inl (by omega))⟩, fun q1 => ⟨fun q => absurd q (by omega), fun _ => ⟨o 26, c_r h rfl, (c_m h (by decide)).mpr trivial, c_k h (by decide), iI_in (by omega) (by omega) (by rw [c_n h (by decide)]; show s.1 < ((5 : Nat) : Int); omega), ?_⟩⟩⟩
  rw [c_i h (by decide) (by omega) (by omega), hle.1, iI_eq (by omega) (by omega) (by decide) (by decide)]
  refine ⟨fun q S6 e => ⟨rfl, ?_⟩, fun q => ⟨rfl, k0 (Or.inr q)⟩⟩
  rw [iI_sub, c_u1 h (by decide) (show ((6 : Nat) : Int) = 6 from rfl)] at e
  rw [e]
  refine k1 (by omega) q ?_
  have f1 : ∀ (r : Nat) (j : Int), (r ≠ 22 ∨ j ≠ 6) → (cI c 22 6 (s.1 - 1)).1 r j = c.1 r j := fun r j hj => by rw [cI_1, up_ne _ hj]
  refine ⟨⟨by rw [cI_1, up_at], by show 0 ≤ s.1 - 1; omega, by show s.1 - 1 ≤ 4; omega⟩, fun d d0 d1 => hn d d0 (by have d1 : d ≤ s.1 - 1 := d1; omega), fun d d0 d1 => ?_, ⟨hli.1, fun k hk => ?_⟩, ?_, ?_, ?_⟩
  · have := hl d d0 (by have d1 : d ≤ s.1 - 1 := d1; omega)
    rw [f1 _ _ (Or.inl (by decide))]; exact this
  · rw [f1 _ _ (Or.inl (by decide))]; exact hli.2 k hk
  · rw [f1 _ _ (Or.inr (by decide))]; exact h8
  · rw [f1 _ _ (Or.inr (by decide))]; exact h9
  · rw [f1 _ _ (Or.inr (by decide))]; exact h10
end
