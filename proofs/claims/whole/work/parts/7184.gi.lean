/-! PHASE 3: numbers and results taken; the line that was read -/
section
variable {D : wD} {S U : wS} {o : Nat → Nat} {c : cM}
theorem tak_num {F R made : Int} {t : Int → Int} {a e : Int} {s : RD} (hn : numB t a e = true) : wordS F R made t a e s = takB 4 s := by
  unfold wordS takB
  by_cases f2 : s.2.2.2.2.2.2.2 = true
  · rw [if_pos f2, if_neg (by decide), if_pos (Or.inr f2)]
  · by_cases f1 : s.2.2.2.2.2.2.1 = true
    · rw [if_neg f2, if_pos hn, if_pos f1, if_neg (by decide), if_pos (Or.inl f1)]
    · rw [if_neg f2, if_pos hn, if_neg f1, if_neg (by decide), if_neg (fun w => w.elim f1 f2)]
      simp only [show ¬ ((4 : Int) = 1) by decide, show ¬ ((4 : Int) = 2) by decide, show ¬ ((4 : Int) = 3) by decide, if_false, if_true]
      rw [(Bool.not_eq_true _).mp f2]
theorem tak_res {F R made : Int} {t : Int → Int} {a e : Int} {s : RD} (hn : numB t a e = false) (hr : resB t a e = true) : wordS F R made t a e s = takB 5 s := by
  have hn' : ¬ numB t a e = true := by rw [hn]; decide
  unfold wordS takB
  by_cases f2 : s.2.2.2.2.2.2.2 = true
  · rw [if_pos f2, if_neg (by decide), if_pos (Or.inr f2)]
  · by_cases f1 : s.2.2.2.2.2.2.1 = true
    · rw [if_neg f2, if_neg hn', if_pos hr, if_neg (fun w => by rw [f1] at w; exact absurd w.2 (by decide)), if_neg (by decide), if_pos (Or.inl f1)]
    · have f1' := (Bool.not_eq_true _).mp f1
      rw [if_neg f2, if_neg hn', if_pos hr, if_neg (show ¬ ((5 : Int) = 0) by decide), if_neg (show ¬ (s.2.2.2.2.2.2.1 = true ∨ s.2.2.2.2.2.2.2 = true) from fun w => w.elim f1 f2)]
      simp only [show ¬ ((5 : Int) = 1) by decide, show ¬ ((5 : Int) = 2) by decide, show ¬ ((5 : Int) = 3) by decide, show ¬ ((5 : Int) = 4) by decide, if_false, if_true]
      by_cases z : s.1 = 0
      · rw [if_pos ⟨z, f1'⟩, if_pos z, f1']
      · rw [if_neg (fun w => z w.1), if_neg z]
theorem q_lineLength {post : Int32 → wS → Prop} (h : CC D S o) {s : RD} (hR : RDC c s) (k : post (iI s.2.2.2.2.1.length) (cS S o c)) : wp_X5_lineLength D post (cS S o c) (o 22) := by
  obtain ⟨⟨h6, hd⟩, hn, hl, hli, h8, h9, h10⟩ := id hR
  have h0 := hl 0 (by decide) hd.1
  unfold wp_X5_lineLength wp_X5_lineLength_0
  refine ⟨o 26, c_r h rfl, (c_m h (by decide)).mpr trivial, c_k h (by decide), iI_in (a := 0) (by omega) (by omega) (by rw [c_n h (by decide)]; decide), ?_⟩
  rw [show (0 : Int32) = iI 0 from rfl, c_i h (by decide) (by decide) (by decide), h0.1, ← hli.1]
  exact k
theorem q_lineMove {post : Int32 → wS → Prop} (h : CC D S o) {s : RD} (hR : RDC c s) {j : Nat} (hj : j < s.2.2.2.2.1.length) (h80 : s.2.2.2.2.1.length ≤ 80) (k : post (iI (mcode (s.2.2.2.2.1.getD j (0, 0, 0)))) (cS S o c)) : wp_X5_lineMove D post (cS S o c) (o 22) (iI j) := by
  obtain ⟨⟨h6, hd⟩, hn, hl, hli, h8, h9, h10⟩ := id hR
  unfold wp_X5_lineMove wp_X5_lineMove_0 wp_X5_lineMove_23
  have n27 : sN (cS S o c) (o 27) = 80 := c_n h (by decide)
  rw [show (0 : Int32) = iI 0 from rfl, iI_lt (by omega) (by omega) (by decide) (by decide)]
  refine ⟨fun q => absurd q (by omega), fun _ => ⟨o 27, c_r h rfl, (c_m h (by decide)).mpr trivial, c_k h (by decide), ?_⟩⟩
  rw [n27, show Int32.ofNat 80 = iI 80 from rfl, iI_le (by decide) (by decide) (by omega) (by omega)]
  refine ⟨fun q => absurd q (by omega), fun _ => ⟨o 27, c_r h rfl, (c_m h (by decide)).mpr trivial, c_k h (by decide), ?_, ?_⟩⟩
  · rw [n27]; exact iI_in (by omega) (by omega) (by omega)
  · rw [c_i h (by decide) (by omega) (by omega), hli.2 j hj]
    exact k
end
