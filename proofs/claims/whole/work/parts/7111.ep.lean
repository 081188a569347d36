section
variable {D : wD} {S : wS} {o : Nat → Nat} {c : cM} {F R : Int} {v : Int → Int} {post : Int32 → wS → Prop} {xp : String → wS → Prop}
/-- relations of string builders don't look at the class's cells -/
theorem SB.over {a y : Nat} {L : List Int} (h : CC D S o) (c c' : cM) (ha : ∀ n, cOk n = true → o n ≠ a) (hS : SB (cS S o c) a y L) : SB (cS S o c') a y L := by
  have he := c_ex (D := D) (S := S) (o := o) c c'
  refine hS.ex he (fun z => ?_) (fun z => ?_)
  · obtain ⟨n, hn, e⟩ := List.mem_map.mp z
    exact ha n (by simpa [cOk] using hn) e
  · obtain ⟨n, hn, e⟩ := List.mem_map.mp z
    have hn' : cOk n = true := by simpa [cOk] using hn
    have k1 := (h.1 n (cOk_lt hn')).2.1
    have k2 : sK S y = 20 := hS.2.1.2.2.1
    rw [e, k2] at k1
    have key : ∀ n ∈ cLs, ckd n ≠ 20 := by decide
    exact key n hn k1.symm
theorem o_ne (h : CC D S o) {k : Nat} (hk : k < 52) (hc : cOk k = false) : ∀ n, cOk n = true → o n ≠ o k := fun n hn e => by
  have := h.2.1 n (cOk_lt hn) k hk e
  rw [this, hc] at hn; exact absurd hn (by decide)
theorem q_writeMoveC (h : CC D S o) (hP : ∀ c, ST D (cS S o c) (D.2.2.1 1) pcsL) (hN : NOW c F R v) (hf : properB F R v = true → few F R v) {y : Nat} {L : List Int} (hS : SB (cS S o c) (o 50) y L) (hc : sN S y ≤ 1002) {i : Int} (hi : i32 i) {bc bs : Nat} (hb : 2 ≤ bc ∧ 12 ≤ bs)
    (hK : ∀ n : Nat, n ≤ 7 → capK (sN S y) 0 n - sN S y ≤ bc - 2 ∧ 2 * (capK (sN S y) 0 n - sN S y) ≤ bs - 12)
    (k0 : properB F R v = false → xp "java/lang/IllegalStateException" (cS S o c)) (k1 : properB F R v = true → inB i 0 ((movesL F R v).length - 1) = false → xp "java/lang/IndexOutOfBoundsException" (cS S o (lkM c F R v)))
    (k2 : properB F R v = true → inB i 0 ((movesL F R v).length - 1) = true → ∀ W, W = sanW F R v (movesL F R v) ((movesL F R v).getD i.toNat (0, 0, 0)) → ∀ c' U' y', cSim [10, 17, 18, 19, 20] c c' → EX D (cS S o c') U' [o 50, y] → (y' = y ∨ ¬ wM D (cS S o c') y') → SB U' (o 50) y' W → sN U' y' = capK (sN S y) 0 W.length → post (iI W.length) U') :
    wp_X11_writeMove D post xp bc bs (cS S o c) (o 0) (iI i) := by
  obtain ⟨hB, hv, hcl, hbr, he, hA, hL⟩ := id hN
  have hm := hB.m
  unfold wp_X11_writeMove wp_X11_writeMove_0
  refine ⟨hb.1, hb.2, ?_⟩
  refine q_codeOfC h hB hv hcl hbr he hA hL hf hi k0 k1 fun q z => ?_
  have hf := hf q
  have k2 := k2 q z
  have hi2 := inB_iff.mp z
  have sim := lkM_sim c F R v
  refine ⟨o 17, c_r h rfl, (c_m h (by decide)).mpr trivial, c_k h (by decide), ?_⟩
  refine q_wordOf h (lkM_B hB) hP (hN.pv q) (lkM_LK c F R v) hf ⟨hi2.1, by omega⟩ fun c' hs => ?_
  have ok := move_at (v := v) (F := F) (R := R) (by omega) z
  have k2 := k2 _ rfl c'
  have sw := sanW_ok hB (L := movesL F R v) ok.1
  generalize sanW F R v (movesL F R v) ((movesL F R v).getD i.toNat (0, 0, 0)) = W at k2 sw ⊢
  have sim' : cSim [10, 17, 18, 19, 20] c c' := (sim.mono (by decide)).trans (hs.mono (by decide))
  refine ⟨o 50, c_r h rfl, (c_m h (by decide)).mpr trivial, c_k h (by decide), 0, 0, Nat.zero_le _, Nat.zero_le _, ?_⟩
  have hS' : SB (cS S o c') (o 50) y L := hS.over h c c' (o_ne h (by decide) (by decide))
  refine q_clearB hS' (by show sN S y < 1000000; omega) fun U1 hE1 hS1 => ?_
  have nU : sN U1 y = sN S y := hE1.n (Or.inl hS'.2.1.2.1)
  have h0 : o 0 ∉ [o 50, y] := by
    intro w
    simp at w
    rcases w with w | w
    · exact absurd (h.2.1 0 (by decide) 50 (by decide) w) (by decide)
    · have k1 := (h.1 0 (by decide)).2.1
      have k2 : sK S y = 20 := hS.2.1.2.2.1
      rw [w, k2] at k1; exact absurd k1 (by decide)
  refine ⟨9, ?_⟩
  have tl := tyL_pk sw.1 sw.2
  have hE1' : EX D (cS S o c') U1 [o 50, y] := hE1.mono (fun a _ ha => by simp at ha; simp [ha])
  have kk := hK W.length sw.1
  have := q_writeM_27 (D := D) (S := S) (o := o) (c := c') (post := post) (xp := xp) (y0 := y) h h0 (zI (pkA 0 W)) 9 8 (bc - 2 - 0) (bs - 12 - 0) U1 y [] (by decide) (by decide) hE1' (Or.inl rfl) hS1 (by rw [tl]; simp; omega) (by rw [nU]; exact hc) (by rw [tl, nU]; exact kk.1) (by rw [tl, nU]; exact kk.2) (by rw [tl]; exact fun x hx => by have := sw.2 x hx; omega)
    (fun U' y' a1 a2 a3 a4 => by
      rw [tl, nU] at a4
      rw [tl] at a3 ⊢
      have := k2 U' y' sim' a1 a2 (by rw [List.nil_append] at a3; exact a3) a4
      rw [show ((([] : List Int).length : Int) + (W.length : Int)) = W.length by simp]
      exact this)
  exact this
end
