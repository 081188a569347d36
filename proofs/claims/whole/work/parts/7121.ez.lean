section
variable {D : wD} {S : wS} {o : Nat → Nat} {c : cM} {post : Int32 → wS → Prop} {xp : String → wS → Prop} {yl : Int → Nat} {els : Int → List Nat} {n : Int → Int → Int} {w : Int → Int → Int → Int → Int} {mv : Int → Int → Int → Mv} {fr : Int → Int → Int → Bool} {inf : Int → Int → Nat → Int} {ys : Int → Int → Nat × Nat × Nat}
/-- the box of a game that was asked -/
def boxC (t x : Int) : Int := if t = 0 then 0 else if 4 < x + 1 then 4 else x + 1
theorem shl1 : ∀ n : Nat, n < 5 → (1 : Int32) <<< (iI (n : Int) &&& 31) = iI ((2 ^ n : Nat) : Int) := by decide
theorem q_answerC (h : CC D S o) (hS : SHL D S o c yl els n w mv fr inf ys) (hnd : (els 0).Nodup) (hl : offK (cLs.map o) (els 0) (ys 0)) (hbx : ∀ g : Int, 0 ≤ g → g < (els 0).length → 0 ≤ inf 0 g 7 ∧ inf 0 g 7 ≤ 4) (hd : 0 ≤ c.1 0 17 ∧ c.1 0 17 < 1000000) {t : Int} (ht : t = 0 ∨ t = 1)
    (k0 : (els 0).length = 0 → xp "java/util/NoSuchElementException" (cS S o c))
    (k1 : (els 0).length ≠ 0 → ∀ g, g = dueC (inf 0) (-1) 0 (els 0).length → (0 ≤ g ∧ g < (els 0).length) → ∀ x, x = boxC t (inf 0 g 7) → ∀ U', EX D (cS S o (cI c 0 17 (c.1 0 17 + 1))) U' [(els 0).getD g.toNat 0] →
      SHC D U' (o 31) (yl 0) (els 0) (n 0) (w 0) (mv 0) (fr 0) (infU (infU (inf 0) g 7 x) g 8 (c.1 0 17 + 1 + (2 ^ x.toNat : Nat))) (ys 0) → post (iI x) U') : wp_X11_answer D post xp (cS S o c) (o 0) (iI t) := by
  have hs0 := hS 0 (Or.inl rfl)
  unfold wp_X11_answer wp_X11_answer_0
  refine ⟨o 30, c_r h rfl, (c_m h (by decide)).mpr trivial, c_k h (by decide), ?_⟩
  refine q_numberAsked h hS k0 fun hne => ?_
  have dr := dueC_r (inf 0) (els 0).length (-1) 0 (Or.inl rfl) (by decide)
  have k1 := k1 hne _ rfl (by omega)
  have hg : 0 ≤ dueC (inf 0) (-1) 0 (els 0).length ∧ dueC (inf 0) (-1) 0 (els 0).length < (els 0).length := by omega
  generalize dueC (inf 0) (-1) 0 (els 0).length = g at k1 hg ⊢
  have k1 := k1 _ rfl
  refine q_gameAt (shb h (Or.inl rfl)) hs0 hg ?_
  refine ⟨fun q => absurd q (by simp), fun y6 hy => ?_⟩
  injection hy with hy
  rw [← hy]
  have g8 := hs0.g8 hg
  refine ⟨g8.1, g8.2, ?_⟩
  intro S8 e8
  have e17 : sI (cS S o c) (o 0) 17 = iI (c.1 0 17) := c_i1 h (by decide) (show ((17 : Nat) : Int) = 17 from rfl)
  rw [e17, show (1 : Int32) = iI 1 from rfl, iI_add, c_u1 h (by decide) (show ((17 : Nat) : Int) = 17 from rfl)] at e8
  rw [e8]
  have hs1 : SHC D (cS S o (cI c 0 17 (c.1 0 17 + 1))) (o 31) (yl 0) (els 0) (n 0) (w 0) (mv 0) (fr 0) (inf 0) (ys 0) := by
    have no : o 31 ∉ cLs.map o := fun z => by
      obtain ⟨m, hm, e⟩ := List.mem_map.mp z
      exact o_ne h (k := 31) (by decide) (by decide) m (by simpa [cOk] using hm) e
    refine hs0.ex (c_ex c _) no ?_ hl
    intro z
    obtain ⟨m, hm, e⟩ := List.mem_map.mp z
    have hm' : cOk m = true := by simpa [cOk] using hm
    have q1 := (h.1 m (cOk_lt hm')).2.1
    have q2 : sK S (yl 0) = 24 := hs0.1.2.1.2.2.1
    rw [e, q2] at q1
    have key : ∀ m ∈ cLs, ckd m ≠ 24 := by decide
    exact key m hm q1.symm
  have gi := (hs1.2.2 g hg.1 hg.2).2.2 7 (by decide) (by decide)
  have hb := hbx g hg.1 hg.2
  have ne0 : o 0 ≠ (els 0).getD g.toNat 0 := fun z => by
    have := (h.1 0 (by decide)).2.1
    have g8k : sK S ((els 0).getD g.toNat 0) = 8 := g8.2
    rw [z, g8k] at this; exact absurd this (by decide)
  have bx : 0 ≤ boxC t (inf 0 g 7) ∧ boxC t (inf 0 g 7) ≤ 4 := by unfold boxC; split <;> (try split) <;> omega
  have at47 : ∀ x : Int, x = boxC t (inf 0 g 7) → wp_X11_answer_47 D post xp (cS S o (cI c 0 17 (c.1 0 17 + 1))) (o 0) ((els 0).getD g.toNat 0) ((els 0).getD g.toNat 0) (iI x) := by
    intro x hx
    unfold wp_X11_answer_47
    intro S1 e1 S2 e2
    have i17 : sI S1 (o 0) 17 = iI (c.1 0 17 + 1) := by
      rw [e1, uI_a _ _ _ ne0, c_i1 h (by decide) (show ((17 : Nat) : Int) = 17 from rfl), cI_1, up_at]
    have i7 : sI S1 ((els 0).getD g.toNat 0) 7 = iI x := by rw [e1, uI_self]
    have xs : (1 : Int32) <<< (iI x &&& 31) = iI ((2 ^ x.toNat : Nat) : Int) := by
      have := shl1 x.toNat (by omega)
      rw [Int.toNat_of_nonneg (by omega)] at this
      exact this
    have p16 : (2 ^ x.toNat : Nat) ≤ 16 := Nat.pow_le_pow_right (n := 2) (j := 4) (by decide) (by omega)
    rw [i17, i7, xs, iI_add] at e2
    have i72 : sI S2 ((els 0).getD g.toNat 0) 7 = iI x := by rw [e2, uI_j _ _ _ (by decide), i7]
    rw [i72]
    have hE : EX D (cS S o (cI c 0 17 (c.1 0 17 + 1))) S2 [(els 0).getD g.toNat 0] := by
      rw [e2, e1]
      exact (EX.rf.uI (fun _ => List.mem_singleton.mpr rfl) _ _).uI (fun _ => List.mem_singleton.mpr rfl) _ _
    rw [hx] at e1 e2 ⊢
    refine k1 S2 hE ?_
    have s1 := hs1.field hnd hg (f := 7) (by decide) (x := boxC t (inf 0 g 7)) ⟨by omega, by omega⟩
    rw [← e1] at s1
    rw [hx] at p16
    have pr : i32 (c.1 0 17 + 1 + (2 ^ (boxC t (inf 0 g 7)).toNat : Nat)) := by
      generalize (2 ^ (boxC t (inf 0 g 7)).toNat : Nat) = P at p16 ⊢
      exact ⟨by omega, by omega⟩
    have s2 := s1.field hnd hg (f := 8) (by decide) (x := c.1 0 17 + 1 + (2 ^ (boxC t (inf 0 g 7)).toNat : Nat)) pr
    rw [← e2] at s2
    exact s2
  have t0 : (iI t = 0) = (t = 0) := by rw [show (0 : Int32) = iI 0 from rfl, iI_eq (by omega) (by omega) (by decide) (by decide)]
  rw [t0]
  refine ⟨fun z => at47 0 (by unfold boxC; rw [if_pos z]), fun z => ?_⟩
  rw [gi.1, show iI (inf 0 g 7) + (1 : Int32) = iI (inf 0 g 7 + 1) from iI_add _ 1]
  by_cases y : 4 < inf 0 g 7 + 1
  · have e4 : (if (4 : Int32) < iI (inf 0 g 7 + 1) then (4 : Int32) else iI (inf 0 g 7 + 1)) = iI 4 := if_pos ((iI_lt (a := 4) (by decide) (by decide) (by omega) (by omega)).mpr y)
    rw [e4]
    exact at47 4 (by unfold boxC; rw [if_neg z, if_pos y])
  · have e4 : (if (4 : Int32) < iI (inf 0 g 7 + 1) then (4 : Int32) else iI (inf 0 g 7 + 1)) = iI (inf 0 g 7 + 1) := if_neg (fun q => y ((iI_lt (a := 4) (by decide) (by decide) (by omega) (by omega)).mp q))
    rw [e4]
    exact at47 (inf 0 g 7 + 1) (by unfold boxC; rw [if_neg z, if_neg y])
end
