abbrev shD (m : xM) (s : Int) (d : SDt) : Prop := shR m s d.1.length d.2.1 d.2.2.1 d.2.2.2.1 d.2.2.2.2.2.1
/-- a shelf's games go by the rules, and their marks are right -/
abbrev gdD (F R : Int) (d : SDt) : Prop := frR d.1.length d.2.1 d.2.2.1 d.2.2.2.2.1 ∧ RUL F R d.1.length d.2.1 d.2.2.1 d.2.2.2.1
section
variable {F R : Int} {m m1 : xM} {d e : SDt}
theorem mgC_i (m : xM) (g j : Int) {f : Nat} (hf : 33 ≤ f ∧ f ≤ 38) : mgC m g f j = if j = m 30 0 then (if f = 37 ∨ f = 38 then 0 else m f (40 + g)) else m f j := by
  unfold mgC
  rcases (show f = 33 ∨ f = 34 ∨ f = 35 ∨ f = 36 ∨ f = 37 ∨ f = 38 by omega) with rfl | rfl | rfl | rfl | rfl | rfl <;>
  (by_cases c : j = m 30 0
   · rw [if_pos c, c]; unfold up cpy; simp
   · rw [if_neg c]; unfold up cpy; simp [c])
theorem mgC_same {g q : Int} (hq : 0 ≤ q) (h : q ≠ m 30 0) : slSame m (mgC m g) q := by
  refine ⟨fun f h1 h2 => by rw [mgC_i _ _ _ ⟨h1, h2⟩, if_neg h], fun k h1 h2 => ?_, fun j h1 h2 => ?_⟩
  · rw [mgC_vec m g q k hq ⟨h1, h2⟩, if_neg h]
  · rw [mgC_32, if_neg (by omega)]
theorem allL_cong {p q : Int → Bool} : ∀ (d : Nat) (j : Int), (∀ i : Int, j ≤ i → i < j + d → p i = q i) → allL p j d = allL q j d
  | 0, j, _ => rfl
  | d + 1, j, h => by
    unfold allL
    rw [h j (by omega) (by omega), allL_cong d (j + 1) (fun i h1 h2 => h i (by omega) (by omega))]
theorem RUL.mok {l : Nat} {n : Int → Int} {w : Int → Int → Int → Int} {mv : Int → Int → Mv} (h : RUL F R l n w mv) (h64 : F * R ≤ 64) {g k : Int} (hg : 0 ≤ g ∧ g < l) (hk : 0 ≤ k ∧ k < n g) : mOK (mv g k) := (h g hg.1 hg.2 k hk.1 hk.2).2.1.m h64
theorem alike_eq (h0 : shD m 0 d) (h1 : shD m 1 e) (r0 : gdD F R d) (r1 : gdD F R e) (h64 : F * R ≤ 64) {q g : Int} (hq : 0 ≤ q ∧ q < d.1.length) (hg : 0 ≤ g ∧ g < e.1.length) :
    alikeB m q (40 + g) = likeB (d.2.1 q) (e.2.1 g) (d.2.2.1 q) (e.2.2.1 g) (d.2.2.2.1 q) (e.2.2.2.1 g) := by
  have a := (shR.iff.mp h0).2 q hq.1 hq.2
  have b := (shR.iff.mp h1).2 g hg.1 hg.2
  rw [show slotB 0 q = q by unfold slotB; omega] at a
  rw [show slotB 1 g = 40 + g by unfold slotB; omega] at b
  unfold alikeB likeB
  rw [a.1.1, b.1.1]
  have va := a.2.1 0 (by omega) a.1.2.1
  have vb := b.2.1 0 (by omega) b.1.2.1
  rw [Int.mul_zero, Int.add_zero] at va vb
  rw [va, vb]
  by_cases c : d.2.1 q = e.2.1 g
  · congr 1
    refine allL_cong _ _ fun k k0 k1 => ?_
    rw [a.2.2.1 k k0 (by omega), b.2.2.1 k k0 (by omega), decide_eq_decide]
    constructor
    · intro z; exact codeT_inj (r0.2.mok h64 hq ⟨k0, by omega⟩) (r1.2.mok h64 hg ⟨k0, by omega⟩) z
    · intro z; rw [z]
  · rw [decide_eq_false c, Bool.false_and, Bool.false_and, Bool.false_and]
theorem mg_B (h0 : shD m 0 d) (h1 : shD m 1 e) (r0 : gdD F R d) (r1 : gdD F R e) (h64 : F * R ≤ 64) {g : Int} (hg : 0 ≤ g ∧ g < e.1.length) : mgB m g = mcB d e g := by
  unfold mgB mcB thereB
  rw [h0.1, Int.toNat_natCast, anyL_cong _ _ fun q q0 q1 => alike_eq h0 h1 r0 r1 h64 ⟨q0, by omega⟩ hg]
  congr 1
  rw [decide_eq_decide]; omega
theorem mg_S (h0 : shD m 0 d) (h1 : shD m 1 e) (r0 : gdD F R d) (r1 : gdD F R e) (h64 : F * R ≤ 64) (h40 : e.1.length ≤ 40) {g : Int} (hg : 0 ≤ g ∧ g < e.1.length) : shD (mgS m g) 0 (mcS d e g) ∧ shD (mgS m g) 1 e ∧ gdD F R (mcS d e g) := by
  unfold mgS mcS
  rw [mg_B h0 h1 r0 r1 h64 hg]
  cases hb : mcB d e g
  · exact ⟨h0, h1, r0⟩
  · rw [if_pos rfl, if_pos rfl]
    unfold mcB at hb
    rw [Bool.and_eq_true, decide_eq_true_eq] at hb
    have b := (shR.iff.mp h1).2 g hg.1 hg.2
    have s1 : slotB 1 g = 40 + g := by unfold slotB; omega
    rw [s1] at b
    have l1 : (mcC d e g).1.length = d.1.length + 1 := by unfold mcC; simp
    refine ⟨?_, ?_, ?_⟩
    · show shR _ _ (mcC d e g).1.length _ _ _ _
      rw [l1]
      refine shR.snoc h0 (by rw [mgC_30, if_pos rfl, h0.1]) (fun q q0 q1 => mgC_same (by unfold slotB; omega) (by rw [h0.1]; unfold slotB; omega)) ?_
      rw [show slotB 0 (d.1.length : Int) = m 30 0 by rw [h0.1]; unfold slotB; omega]
      refine ⟨⟨?_, b.1.2.1, b.1.2.2⟩, fun k k0 k1 => ?_, fun k k0 k1 => ?_, ?_, ?_, ?_, ?_, ?_⟩
      · rw [mgC_i _ _ _ (by omega), if_pos rfl]; exact b.1.1
      · rw [mgC_vec m g _ k (by rw [h0.1]; omega) ⟨k0, by omega⟩, if_pos rfl]; exact b.2.1 k k0 k1
      · rw [mgC_32, if_pos (by omega), ← b.2.2.1 k k0 k1]
        congr 1; omega
      · rw [mgC_i _ _ _ (by omega), if_pos rfl]; exact b.2.2.2.1
      · rw [mgC_i _ _ _ (by omega), if_pos rfl]; exact b.2.2.2.2.1
      · rw [mgC_i _ _ _ (by omega), if_pos rfl]; exact b.2.2.2.2.2.1
      · rw [mgC_i _ _ _ (by omega), if_pos rfl]; rfl
      · rw [mgC_i _ _ _ (by omega), if_pos rfl]; rfl
    · exact h1.stay (by rw [mgC_30, if_neg (by omega)]) fun q q0 q1 => mgC_same (by unfold slotB; omega) (by rw [h0.1]; unfold slotB; omega)
    · show frR (mcC d e g).1.length _ _ _ ∧ RUL F R (mcC d e g).1.length _ _ _
      rw [l1]
      exact ⟨r0.1.snoc, r0.2.snoc fun k k0 k1 => r1.2 g hg.1 hg.2 k k0 k1⟩
/-- the shelves behind 'merge' -/
theorem mg_L (h64 : F * R ≤ 64) (h40 : e.1.length ≤ 40) (r1 : gdD F R e) : ∀ (k : Nat) (g : Int) (m : xM) (d : SDt), 0 ≤ g → g + k ≤ e.1.length → shD m 0 d → shD m 1 e → gdD F R d →
    mgN m g k = mcN d e g k ∧ shD (mgL m g k) 0 (mcL d e g k) ∧ shD (mgL m g k) 1 e ∧ gdD F R (mcL d e g k)
  | 0, g, m, d, _, _, h0, h1, r0 => ⟨rfl, h0, h1, r0⟩
  | k + 1, g, m, d, g0, g1, h0, h1, r0 => by
    obtain ⟨a, b, c⟩ := mg_S h0 h1 r0 r1 h64 h40 (g := g) ⟨g0, by omega⟩
    have ih := mg_L h64 h40 r1 k (g + 1) _ _ (by omega) (by omega) a b c
    unfold mgN mcN mgL mcL
    rw [mg_B h0 h1 r0 r1 h64 ⟨g0, by omega⟩, ih.1]
    exact ⟨rfl, ih.2⟩
/-- the state behind an answer -/
theorem shR.answer {l : Nat} {n : Int → Int} {w : Int → Int → Int → Int} {mv : Int → Int → Mv} {inf : Int → Nat → Int} {r : Int} (h : shR m 0 l n w mv inf) (hl : 0 < l ∧ l ≤ 40) {g : Int} (hg : 0 ≤ g ∧ g < l) (eg : askB m = g) (hr : r = 0 ∨ r = 1) :
    newBox m r (askB m) = boxC r (inf g 7) ∧ shR (ansM m r) 0 l n w mv (infU (infU inf g 7 (boxC r (inf g 7))) g 8 (m 50 39 + 1 + (2 ^ (boxC r (inf g 7)).toNat : Nat))) := by
  have e := (shR.iff.mp h).2 g hg.1 hg.2
  have s0 : slotB 0 g = g := by unfold slotB; omega
  rw [s0] at e
  have eb : newBox m r (askB m) = boxC r (inf g 7) := by
    unfold newBox boxC
    rw [eg, e.2.2.2.2.2.2.1]
    rcases hr with rfl | rfl
    · simp
    · simp
      split <;> split <;> omega
  refine ⟨eb, ?_⟩
  refine ⟨?_, fun q q0 q1 => ?_⟩
  · unfold ansM; rw [up_f _ _ _ _ rfl, up_f _ _ _ _ rfl, up_f _ _ _ _ rfl, up_f _ _ _ _ rfl]; exact h.1
  · have eq := h.2 q q0 q1
    have sq : slotB 0 q = q := by unfold slotB; omega
    have row : ∀ f : Nat, 30 ≤ f → f ≤ 36 → ansM m r f = m f := fun f h1 h2 => by
      unfold ansM
      rw [up_r _ _ _ (by simp; omega), up_r _ _ _ (by simp; omega), up_r _ _ _ (by simp; omega), up_r _ _ _ (by simp; omega)]
    refine ⟨?_, fun k k0 k1 => ?_, fun k k0 k1 => ?_, ?_, ?_, ?_, ?_, ?_⟩
    · rw [row 33 (by omega) (by omega)]; exact eq.1
    · rw [sv_vec, vec_row (row 31 (by omega) (by omega))]; exact eq.2.1 k k0 k1
    · rw [row 32 (by omega) (by omega)]; exact eq.2.2.1 k k0 k1
    · rw [row 34 (by omega) (by omega)]; unfold infU; simp; exact eq.2.2.2.1
    · rw [row 35 (by omega) (by omega)]; unfold infU; simp; exact eq.2.2.2.2.1
    · rw [row 36 (by omega) (by omega)]; unfold infU; simp; exact eq.2.2.2.2.2.1
    · rw [sq] at eq ⊢
      unfold ansM
      rw [up_f _ _ _ _ rfl, eb, eg]
      by_cases c : q = g
      · rw [c, up_at]; unfold infU; simp
      · rw [up_ne _ (Or.inr c), up_f _ _ _ _ rfl, up_f _ _ _ _ rfl]; unfold infU; simp [c]; exact eq.2.2.2.2.2.2.1
    · rw [sq] at eq ⊢
      unfold ansM
      rw [eb, eg]
      by_cases c : q = g
      · rw [c, up_at]; unfold infU; simp
      · rw [up_ne _ (Or.inr c), up_f _ _ _ _ rfl, up_f _ _ _ _ rfl, up_f _ _ _ _ rfl]; unfold infU; simp [c]; exact eq.2.2.2.2.2.2.2
end
