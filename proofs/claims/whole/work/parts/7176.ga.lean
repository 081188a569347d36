/-! PHASE 3: merge, the call -/
section
variable {D : wD} {U0 U : wS} {o : Nat → Nat} {c : cM} {xp : String → wS → Prop}
abbrev sdO (els : Int → List Nat) (n : Int → Int → Int) (w : Int → Int → Int → Int → Int) (mv : Int → Int → Int → Mv) (fr : Int → Int → Int → Bool) (inf : Int → Int → Nat → Int) (ys : Int → Int → Nat × Nat × Nat) (s : Int) : SDt := (els s, n s, w s, mv s, fr s, inf s, ys s)
theorem q_mergeC {S : wS} {post : Int32 → wS → Prop} {yl : Int → Nat} {els : Int → List Nat} {n : Int → Int → Int} {w : Int → Int → Int → Int → Int} {mv : Int → Int → Int → Mv} {fr : Int → Int → Int → Bool} {inf : Int → Int → Nat → Int} {ys : Int → Int → Nat × Nat × Nat}
    (h : CC D S o) (hS : SHL D S o c yl els n w mv fr inf ys) {K : List Nat} (hap : ∀ n, cOk n = true → o n ∉ K) (hK : o 33 ∉ K ∧ yl 1 ∉ K ∧ o 31 ∈ K ∧ (0 < (els 1).length → yl 0 ∈ K)) (hMK : MK K (sdO els n w mv fr inf ys 1)) (ho : OW (sdO els n w mv fr inf ys 1)) (hd : DJ (sdO els n w mv fr inf ys 0) (sdO els n w mv fr inf ys 1) 0) (hl : ∀ g : Int, 0 ≤ g → g < (els 1).length → (ys 1 g).2.2 ∈ sL (cS S o c)) {bc bs : Nat} (hb : 40 ≤ bc ∧ 4000 ≤ bs)
    (k : ∀ U' yl', EX D (cS S o c) U' (o 33 :: yl 1 :: K) → SHD D U' (o 31) yl' (mcL (sdO els n w mv fr inf ys 0) (sdO els n w mv fr inf ys 1) 0 (els 1).length) → (yl' = yl 0 ∨ ¬ wM D (cS S o c) yl') → AL D U' (o 33) (yl 1) [] → post (iI (mcN (sdO els n w mv fr inf ys 0) (sdO els n w mv fr inf ys 1) 0 (els 1).length)) U') :
    wp_X11_merge D post bc bs (cS S o c) (o 0) := by
  have hS0 := hS 0 (Or.inl rfl)
  have hS1 := hS 1 (Or.inr rfl)
  have s0 := shb (D := D) (c := c) h (Or.inl (rfl : (0 : Int) = 0))
  have s1 := shb (D := D) (c := c) h (Or.inr (rfl : (1 : Int) = 1))
  have b0 := shk (D := D) (c := c) h (Or.inl (rfl : (0 : Int) = 0))
  have b1 := shk (D := D) (c := c) h (Or.inr (rfl : (1 : Int) = 1))
  have l1 := hS1.2.1
  have c32 : o 30 ∉ K ∧ o 32 ∉ K ∧ o 0 ∉ K := ⟨hap 30 (by decide), hap 32 (by decide), hap 0 (by decide)⟩
  unfold wp_X11_merge wp_X11_merge_0
  refine ⟨(els 1).length + 1, ?_⟩
  have hgw : ∀ g : Int, 0 ≤ g → g < (els 1).length → GW D (cS S o c) (sdO els n w mv fr inf ys 1) g := fun g g0 g1 => by
    have gg := hS1.2.2 g g0 g1
    have z := gg.2.1.1
    exact ⟨gg.1, ⟨z.1, hl g g0 g1, z.2.2.1, z.2.2.2⟩, gg.2.2⟩
  refine q_mg_4 (D := D) (U0 := cS S o c) (post := post) (x := o 0) (b0 := o 30) (b1 := o 32) (a0 := o 31) (a1 := o 33) (y1 := yl 1) (e := sdO els n w mv fr inf ys 1) (K := K)
    ⟨(c_m h (by decide)).mpr trivial, c_r h rfl, c_r h rfl⟩ ⟨b0.1, b0.2, s0⟩ ⟨b1.1, b1.2, s1⟩ ⟨c32.2.2, c32.1, c32.2.1, hK.1, hK.2.1⟩ hMK hK.2.2.1 hS1.1 l1 hgw ho (yl0 := yl 0) hK.2.2.2 ((els 1).length + 1) (els 1).length 0 0 (sdO els n w mv fr inf ys 0) bc bs (yl 0) (cS S o c) (by omega) (by simp) (by decide) (by decide) EX.rf hS0 (Or.inl rfl) hd (fun g g0 g1 => hgw g g0 g1) (by omega) fun U' yl' hE hD hy => ?_
  have h1 := ex_c h hE hap
  have A1 : AL D U' (o 33) (yl 1) (els 1) := hS1.1.ex hE hK.1 hK.2.1
  have e33 : o 33 ≠ o 31 := fun z => absurd (h.2.1 33 (by decide) 31 (by decide) z) (by decide)
  have y1ne : 0 < (els 1).length → yl' ≠ yl 1 := fun hp z => by
    rcases hy with q | q
    · exact hK.2.1 (by rw [← z, q]; exact hK.2.2.2 hp)
    · exact q (z ▸ hS1.1.2.1.2.1)
  rw [h1.2]
  refine q_clearS h1.1 (Or.inr (rfl : (1 : Int) = 1)) (yl := yl 1) (els := els 1) (K := if (els 1).length = 0 then [o 33] else [o 33, yl 1]) (by rw [← h1.2]; exact A1) (by
      have e : sN U' (yl 1) = sN (cS S o c) (yl 1) := hE.n hS1.1.2.1.2.1
      have := l1.2
      omega) (by show o 33 ∈ _; split <;> simp) (fun z => by rw [if_neg z]; simp) fun U'' hE2 hA2 => ?_
  rw [← h1.2] at hE2
  have nk : ∀ b, sK U' b ≠ 4 → (sK U' b ≠ 24 ∨ (0 < (els 1).length → b ≠ yl 1)) → b ∉ (if (els 1).length = 0 then [o 33] else [o 33, yl 1]) := fun b k4 k24 z => by
    split at z
    · simp at z; exact k4 (by rw [z]; exact A1.1.2)
    next hq =>
      simp at z
      rcases z with q | q
      · exact k4 (by rw [q]; exact A1.1.2)
      · rcases k24 with r | r
        · exact r (by rw [q]; exact A1.2.1.2.2.1)
        · exact r (by omega) q
  have a31 : o 31 ∉ (if (els 1).length = 0 then [o 33] else [o 33, yl 1]) := fun z => by
    split at z
    · simp at z; exact e33 z.symm
    · simp at z
      rcases z with q | q
      · exact e33 q.symm
      · have k1 := hD.1.1.2
        rw [q, A1.2.1.2.2.1] at k1; exact absurd k1 (by decide)
  have hD2 := hD.ex hE2 a31 (nk _ (by rw [hD.1.2.1.2.2.1]; decide) (Or.inr y1ne)) (fun g g0 g1 => by
    have gg := hD.2.2 g g0 g1
    have g8 := hD.g8 (g := g) ⟨g0, g1⟩
    exact ⟨nk _ (by rw [g8.2]; decide) (Or.inl (by rw [g8.2]; decide)), nk _ (by rw [gg.1.1.2.2.1]; decide) (Or.inl (by rw [gg.1.1.2.2.1]; decide)), nk _ (by rw [gg.1.2.1.2.2.1]; decide) (Or.inl (by rw [gg.1.2.1.2.2.1]; decide)), nk _ (by rw [gg.2.1.1.2.2.1]; decide) (Or.inl (by rw [gg.2.1.1.2.2.1]; decide))⟩)
  rw [Int.zero_add]
  refine k U'' yl' (hE.trans hE2 (fun _ _ z => by simp [z]) (fun b _ z => by split at z <;> simp at z <;> simp <;> omega)) hD2 hy hA2
end
