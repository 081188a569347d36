section
variable {D : wD} {U : wS} {a yl b : Nat} {els : List Nat} {n : Int → Int} {w : Int → Int → Int → Int} {mv : Int → Int → Mv} {fr : Int → Int → Bool} {inf : Int → Nat → Int} {ys : Int → Nat × Nat × Nat} {post : Int32 → wS → Prop}
/-- the game that is due: least due number, then least box, then the first -/
def dueC (inf : Int → Nat → Int) (best g : Int) : Nat → Int
  | 0 => best
  | d + 1 => if best = -1 ∨ inf g 8 < inf best 8 ∨ (inf g 8 = inf best 8 ∧ inf g 7 < inf best 7) then dueC inf g (g + 1) d else dueC inf best (g + 1) d
theorem q_due_6 (hb : SHB D U b a) (hS : SHC D U a yl els n w mv fr inf ys) : ∀ (f d : Nat) (j e : Int) (g2 : Option Nat), d < f → j + d = els.length → 0 ≤ j → ((e = -1 ∧ g2 = none) ∨ (0 ≤ e ∧ e < j ∧ g2 = some (els.getD e.toNat 0))) →
    post (iI (dueC inf e j d)) U → wp_X10_numberDue_6 D post f U b (iI e) g2 (iI j) := by
  have h40 := hS.2.1
  intro f
  induction f with
  | zero => intro d j e g2 hd; omega
  | succ f ih =>
    intro d j e g2 hd hj h0 he k
    unfold wp_X10_numberDue_6
    refine ⟨a, hb.1, hb.2.1, hb.2.2, ?_⟩
    refine q_sizeA hS.1 ?_
    rw [iI_le (by omega) (by omega) (by omega) (by omega)]
    refine ⟨fun q => ?_, fun q => ?_⟩
    · rw [show d = 0 by omega] at k
      exact k
    · obtain ⟨d', rfl⟩ : ∃ d', d = d' + 1 := ⟨d - 1, by omega⟩
      unfold dueC at k
      have hjj : 0 ≤ j ∧ j < els.length := ⟨h0, by omega⟩
      have gj := (hS.2.2 j h0 hjj.2).2.2
      refine q_gameAt hb hS hjj ?_
      refine ⟨fun q => absurd q (by simp), fun y7 hz => ?_⟩
      injection hz with hz
      rw [← hz]
      have k72 : (e = -1 ∨ inf j 8 < inf e 8 ∨ (inf j 8 = inf e 8 ∧ inf j 7 < inf e 7)) → ∀ g3, wp_X10_numberDue_72 D post (wp_X10_numberDue_6 D post f) U b (iI e) g3 (iI j) (els.getD j.toNat 0) := by
        intro hq g3
        rw [if_pos hq] at k
        unfold wp_X10_numberDue_72 wp_X10_numberDue_77
        refine ⟨fun z => absurd z (by decide), fun _ => ?_⟩
        unfold wp_X10_numberDue_89
        intro x1 e1
        rw [e1, show (1 : Int32) = iI 1 from rfl, iI_add]
        exact ih d' (j + 1) j _ (by omega) (by omega) (by omega) (Or.inr ⟨h0, by omega, rfl⟩) k
      refine ⟨(hS.g8 hjj).1, (hS.g8 hjj).2, fun q => ?_, fun y9 hy => ?_⟩
      · rcases he with he | he
        · exact k72 (Or.inl he.1) none
        · rw [he.2.2] at q; exact absurd q (by simp)
      · rcases he with he | he
        · rw [he.2] at hy; exact absurd hy (by simp)
        · rw [he.2.2] at hy
          injection hy with hy
          rw [← hy]
          have hee : 0 ≤ e ∧ e < els.length := ⟨he.1, by omega⟩
          have ge := (hS.2.2 e he.1 hee.2).2.2
          have j8 := gj 8 (by decide) (by decide); have j7 := gj 7 (by decide) (by decide)
          have e8 := ge 8 (by decide) (by decide); have e7 := ge 7 (by decide) (by decide)
          have k76 : ¬ (e = -1 ∨ inf j 8 < inf e 8 ∨ (inf j 8 = inf e 8 ∧ inf j 7 < inf e 7)) → wp_X10_numberDue_76 D post (wp_X10_numberDue_6 D post f) U b (iI e) (some (els.getD e.toNat 0)) (iI j) (els.getD j.toNat 0) := by
            intro hq
            rw [if_neg hq] at k
            unfold wp_X10_numberDue_76 wp_X10_numberDue_77
            refine ⟨fun _ => ?_, fun z => absurd rfl z⟩
            unfold wp_X10_numberDue_89
            intro x1 e1
            rw [e1, show (1 : Int32) = iI 1 from rfl, iI_add]
            exact ih d' (j + 1) e _ (by omega) (by omega) (by omega) (Or.inr ⟨he.1, by omega, rfl⟩) k
          refine ⟨(hS.g8 hee).1, (hS.g8 hee).2, ?_⟩
          rw [j8.1, e8.1, j7.1, e7.1, iI_lt j8.2.1 j8.2.2 e8.2.1 e8.2.2, iI_eq j8.2.1 j8.2.2 e8.2.1 e8.2.2, iI_le e7.2.1 e7.2.2 j7.2.1 j7.2.2]
          refine ⟨fun q1 => k72 (Or.inr (Or.inl q1)) _, fun q1 => ⟨fun q2 => k76 ?_, fun q2 => ⟨fun q3 => k76 ?_, fun q3 => k72 (Or.inr (Or.inr ⟨q2, by omega⟩)) _⟩⟩⟩
          · omega
          · omega
theorem dueC_r (inf : Int → Nat → Int) : ∀ (d : Nat) (e j : Int), (e = -1 ∨ (0 ≤ e ∧ e < j)) → 0 ≤ j → (dueC inf e j d = -1 ∧ e = -1 ∧ d = 0) ∨ (0 ≤ dueC inf e j d ∧ dueC inf e j d < j + d)
  | 0, e, j, he, hj => by unfold dueC; omega
  | d + 1, e, j, he, hj => by
    unfold dueC
    split
    · have := dueC_r inf d j (j + 1) (Or.inr ⟨hj, by omega⟩) (by omega); omega
    · have := dueC_r inf d e (j + 1) (by omega) (by omega); omega
theorem q_numberDue (hb : SHB D U b a) (hS : SHC D U a yl els n w mv fr inf ys) (k : post (iI (dueC inf (-1) 0 els.length)) U) : wp_X10_numberDue D post U b := by
  have h40 := hS.2.1
  exact ⟨41, q_due_6 hb hS 41 els.length 0 (-1) none (by omega) (by omega) (by decide) (Or.inl ⟨rfl, rfl⟩) k⟩
end
section
variable {D : wD} {S : wS} {o : Nat → Nat} {c : cM} {post : Int32 → wS → Prop} {xp : String → wS → Prop} {yl : Int → Nat} {els : Int → List Nat} {n : Int → Int → Int} {w : Int → Int → Int → Int → Int} {mv : Int → Int → Int → Mv} {fr : Int → Int → Int → Bool} {inf : Int → Int → Nat → Int} {ys : Int → Int → Nat × Nat × Nat}
theorem q_numberAsked (h : CC D S o) (hS : SHL D S o c yl els n w mv fr inf ys) (k0 : (els 0).length = 0 → xp "java/util/NoSuchElementException" (cS S o c)) (k1 : (els 0).length ≠ 0 → post (iI (dueC (inf 0) (-1) 0 (els 0).length)) (cS S o c)) : wp_X11_numberAsked D post xp (cS S o c) (o 0) := by
  have h40 := (hS 0 (Or.inl rfl)).2.1
  unfold wp_X11_numberAsked wp_X11_numberAsked_0
  refine ⟨o 30, c_r h rfl, (c_m h (by decide)).mpr trivial, c_k h (by decide), ?_⟩
  refine q_numberDue (shb h (Or.inl rfl)) (hS 0 (Or.inl rfl)) ?_
  have r := dueC_r (inf 0) (els 0).length (-1) 0 (Or.inl rfl) (by decide)
  rw [show (-1 : Int32) = iI (-1) from rfl, iI_eq (by omega) (by omega) (by decide) (by decide)]
  exact ⟨fun q => k1 (by omega), fun q => k0 (by omega)⟩
theorem q_askedCl (h : CC D S o) (hS : SHL D S o c yl els n w mv fr inf ys) (k0 : (els 0).length = 0 → xp "java/util/NoSuchElementException" (cS S o c)) (k1 : (els 0).length ≠ 0 → post (iI (dueC (inf 0) (-1) 0 (els 0).length)) (cS S o c)) : wp_X11_asked D post xp (cS S o c) (o 0) := by
  unfold wp_X11_asked wp_X11_asked_0
  exact q_numberAsked h hS k0 k1
end
