section
variable {D : wD} {S : wS} {o : Nat → Nat} {c : cM} {F R : Int} {v : Int → Int} {post : Int32 → wS → Prop} {xp : String → wS → Prop} {yl : Int → Nat} {els : Int → List Nat} {n : Int → Int → Int} {w : Int → Int → Int → Int → Int} {mv : Int → Int → Int → Mv} {fr : Int → Int → Int → Bool} {inf : Int → Int → Nat → Int} {ys : Int → Int → Nat × Nat × Nat}
/-- how many games of a shelf pass through a position, and the sum of their strengths -/
def passN (n : Int → Int) (w : Int → Int → Int → Int) (inf : Int → Nat → Int) (v : Int → Int) (r : Int) (l : Nat) : Int := sumL (fun g => if (decide (r = -1) || decide (inf g 4 = r)) && thruC n w v g then 1 else 0) 0 l
def passS (n : Int → Int) (w : Int → Int → Int → Int) (inf : Int → Nat → Int) (v : Int → Int) (l : Nat) : Int := sumL (fun g => if thruC n w v g then inf g 6 else 0) 0 l
theorem sumL_rr {f : Int → Int} {c : Int} : ∀ (d : Nat) (k : Int), (∀ j, k ≤ j → j < k + d → 0 ≤ f j ∧ f j ≤ c) → 0 ≤ sumL f k d ∧ sumL f k d ≤ c * d
  | 0, k, _ => by simp [sumL]
  | d + 1, k, h => by
    have h0 := h k (by omega) (by omega)
    have ih := sumL_rr (f := f) (c := c) d (k + 1) (fun j h1 h2 => h j (by omega) (by omega))
    unfold sumL
    rw [show c * ((d + 1 : Nat) : Int) = c * (d : Int) + c by rw [Int.natCast_add, Int.mul_add]; simp]
    omega
theorem passN_r (n : Int → Int) (w : Int → Int → Int → Int) (inf : Int → Nat → Int) (v : Int → Int) (r : Int) (l : Nat) : 0 ≤ passN n w inf v r l ∧ passN n w inf v r l ≤ l := by
  have := sumL_rr (f := fun g => if (decide (r = -1) || decide (inf g 4 = r)) && thruC n w v g then (1 : Int) else 0) (c := 1) l 0 (fun j _ _ => by split <;> decide)
  unfold passN
  omega
theorem q_meanStrengthC (h : CC D S o) (hA : PAt c 11 v) (hv : rgV v) (hS : SHL D S o c yl els n w mv fr inf ys) (hf : ∀ s g : Int, (s = 0 ∨ s = 1) → 0 ≤ g → g < (els s).length → 0 ≤ inf s g 6 ∧ inf s g 6 ≤ 3500) {s t : Int} (hs : i32 s) (ht : t = 0 ∨ t = 1) (k0 : inB s 0 1 = false → xp "java/lang/IndexOutOfBoundsException" (cS S o c))
    (k1 : inB s 0 1 = true → passN (n s) (w s) (inf s) v (-1) (els s).length = 0 → xp "java/util/NoSuchElementException" (cS S o c))
    (k2 : inB s 0 1 = true → passN (n s) (w s) (inf s) v (-1) (els s).length ≠ 0 → post (iI ((if t = 0 then passS (n s) (w s) (inf s) v (els s).length else passN (n s) (w s) (inf s) v (-1) (els s).length) / (Nat.gcd (passS (n s) (w s) (inf s) v (els s).length).toNat (passN (n s) (w s) (inf s) v (-1) (els s).length).toNat : Nat))) (cS S o c)) :
    wp_X11_meanStrength D post xp (cS S o c) (o 0) (iI s) (iI t) := by
  unfold wp_X11_meanStrength wp_X11_meanStrength_0
  refine q_shelfOf h hs k0 fun q => ?_
  have k1 := k1 q; have k2 := k2 q
  have q' := in01.mp q
  have sk := shk (D := D) (c := c) h q'
  have h40 := (hS s q').2.1.1
  have pr := passN_r (n s) (w s) (inf s) v (-1) (els s).length
  have ps : 0 ≤ passS (n s) (w s) (inf s) v (els s).length ∧ passS (n s) (w s) (inf s) v (els s).length ≤ 3500 * (els s).length := by
    unfold passS
    refine sumL_rr _ 0 (fun j j0 j1 => ?_)
    have := hf s j q' j0 (by omega)
    split <;> omega
  refine ⟨o 11, c_r h rfl, (c_m h (by decide)).mpr trivial, c_k h (by decide), o (sbO s), rfl, sk.1, sk.2, ?_⟩
  refine q_passingS (shb h q') (hS s q') (PAt.po h isP11 hA) hv (r := -1) (by decide) ?_
  rw [show sumL (fun g => if (decide ((-1 : Int) = -1) || decide (inf s g 4 = -1)) && thruC (n s) (w s) v g then (1 : Int) else 0) 0 (els s).length = passN (n s) (w s) (inf s) v (-1) (els s).length from rfl]
  generalize passN (n s) (w s) (inf s) v (-1) (els s).length = N at pr k1 k2 ⊢
  rw [show (0 : Int32) = iI 0 from rfl, iI_eq (by omega) (by omega) (by decide) (by decide)]
  refine ⟨fun z => ⟨o 11, c_r h rfl, (c_m h (by decide)).mpr trivial, c_k h (by decide), ?_⟩, k1⟩
  have k2 := k2 z
  refine q_strengthS (shb h q') (hS s q') (PAt.po h isP11 hA) hv ?_
  rw [show sumL (fun g => if thruC (n s) (w s) v g then inf s g 6 else 0) 0 (els s).length = passS (n s) (w s) (inf s) v (els s).length from rfl]
  generalize passS (n s) (w s) (inf s) v (els s).length = P at ps k2 ⊢
  refine q_gcdC (by omega) (by omega) ?_
  have gp : 0 < Nat.gcd P.toNat N.toNat := Nat.gcd_pos_of_pos_right _ (by omega)
  have gl : Nat.gcd P.toNat N.toNat ≤ N.toNat := Nat.gcd_le_right _ (by omega)
  generalize Nat.gcd P.toNat N.toNat = G at gp gl k2 ⊢
  rw [iI_eq (by omega) (by omega) (by decide) (by decide)]
  refine ⟨fun _ => ?_, fun y => absurd y (by omega)⟩
  have at70 : ∀ x : Int, 0 ≤ x → x < 2147483648 → post (iI (x / (G : Int))) (cS S o c) → wp_X11_meanStrength_70 D post xp (cS S o c) (iI (G : Int)) (iI x) := by
    intro x x0 x1 kk
    unfold wp_X11_meanStrength_70
    rw [show (0 : Int32) = iI 0 from rfl, iI_eq (by omega) (by omega) (by decide) (by decide), iI_div x0 x1 (by omega) (by omega)]
    exact ⟨by omega, kk⟩
  rw [iI_eq (by omega) (by omega) (by decide) (by decide)]
  refine ⟨fun y => at70 P (by omega) (by omega) ?_, fun y => at70 N (by omega) (by omega) ?_⟩
  · rw [if_pos y] at k2; exact k2
  · rw [if_neg y] at k2; exact k2
end
