/-! PHASE 3: the mean length, the share that White won -/
section
variable {D : wD} {S : wS} {o : Nat → Nat} {c : cM} {v : Int → Int} {xp : String → wS → Prop}
variable {yl : Int → Nat} {els : Int → List Nat} {n : Int → Int → Int} {w : Int → Int → Int → Int → Int} {mv : Int → Int → Int → Mv} {fr : Int → Int → Int → Bool} {inf : Int → Int → Nat → Int} {ys : Int → Int → Nat × Nat × Nat}
def mLenC (n : Int → Int) (l : Nat) : UInt64 := if l = 0 then FP.dconst0 else FP.ddiv (FP.i2d (iI (sumL n 0 l))) (FP.i2d (iI l))
def shWonC (n : Int → Int) (w : Int → Int → Int → Int) (inf : Int → Nat → Int) (v : Int → Int) (l : Nat) : UInt32 := if passN n w inf v (-1) l = 0 then FP.fconst0 else FP.fdiv (FP.i2f (iI (passN n w inf v 0 l))) (FP.i2f (iI (passN n w inf v (-1) l)))
theorem q_meanLengthC {post : UInt64 → wS → Prop} (h : CC D S o) (hS : SHL D S o c yl els n w mv fr inf ys) {s : Int} (hs : i32 s) (k0 : inB s 0 1 = false → xp "java/lang/IndexOutOfBoundsException" (cS S o c)) (k1 : inB s 0 1 = true → post (mLenC (n s) (els s).length) (cS S o c)) : wp_X11_meanLength D post xp (cS S o c) (o 0) (iI s) := by
  unfold wp_X11_meanLength wp_X11_meanLength_0
  refine q_shelfOf h hs k0 fun q => ?_
  have q' := in01.mp q
  have sk := shk (D := D) (c := c) h q'
  have k1 := k1 q
  have h40 := (hS s q').2.1.1
  have hl : ∀ g : Int, 0 ≤ g → g < (els s).length → 0 ≤ n s g ∧ n s g ≤ 80 := fun g a b => by
    have := ((hS s q').2.2 g a b).2.1.2.1; omega
  have sr := sumL_rr (f := n s) (c := 80) (els s).length 0 (fun j a b => hl j a (by omega))
  refine ⟨o (sbO s), rfl, sk.1, sk.2, ?_⟩
  refine q_sizeS (shb h q') (hS s q') ?_
  have dc := dcmp_0 (els s).length (by omega)
  unfold mLenC at k1
  unfold wp_X11_meanLength_29
  refine ⟨fun z => ?_, fun z => ?_⟩
  · have := dc.mp z
    rw [if_pos this] at k1
    exact k1
  · have z0 : (els s).length ≠ 0 := fun e => z (dc.mpr e)
    rw [if_neg z0] at k1
    refine q_movesAllS (shb h q') (hS s q') ?_
    exact ⟨dd_num (by omega) (by omega), k1⟩
theorem q_shareWonC {post : UInt32 → wS → Prop} (h : CC D S o) (hA : PAt c 11 v) (hv : rgV v) (hS : SHL D S o c yl els n w mv fr inf ys) {s : Int} (hs : i32 s) (k0 : inB s 0 1 = false → xp "java/lang/IndexOutOfBoundsException" (cS S o c)) (k1 : inB s 0 1 = true → post (shWonC (n s) (w s) (inf s) v (els s).length) (cS S o c)) : wp_X11_shareWon D post xp (cS S o c) (o 0) (iI s) := by
  unfold wp_X11_shareWon wp_X11_shareWon_0
  refine q_shelfOf h hs k0 fun q => ?_
  have q' := in01.mp q
  have sk := shk (D := D) (c := c) h q'
  have k1 := k1 q
  have h40 := (hS s q').2.1.1
  have p1 := passN_r (n s) (w s) (inf s) v (-1) (els s).length
  have p0 := passN_r (n s) (w s) (inf s) v 0 (els s).length
  refine ⟨o 11, c_r h rfl, (c_m h (by decide)).mpr trivial, c_k h (by decide), o (sbO s), rfl, sk.1, sk.2, ?_⟩
  refine q_passingS (shb h q') (hS s q') (PAt.po h isP11 hA) hv (r := -1) (by decide) ?_
  change _ ∧ _
  have ep : sumL (fun g => if (decide ((-1 : Int) = -1) || decide (inf s g 4 = -1)) && thruC (n s) (w s) v g then 1 else 0) 0 (els s).length = passN (n s) (w s) (inf s) v (-1) (els s).length := rfl
  rw [ep]
  unfold shWonC at k1
  generalize passN (n s) (w s) (inf s) v (-1) (els s).length = p at p1 k1
  obtain ⟨pn, hpn⟩ : ∃ pn : Nat, p = pn := ⟨p.toNat, by omega⟩
  have fc := fcmp_0 pn (by omega)
  rw [hpn] at k1 ⊢
  unfold wp_X11_shareWon_39
  refine ⟨fun z => ?_, fun z => ?_⟩
  · have := fc.mp z
    rw [if_pos (by omega)] at k1
    exact k1
  · have z0 : ¬ pn = 0 := fun e => z (fc.mpr e)
    rw [if_neg (by omega)] at k1
    refine ⟨o 11, c_r h rfl, (c_m h (by decide)).mpr trivial, c_k h (by decide), ?_⟩
    refine q_passingS (shb h q') (hS s q') (PAt.po h isP11 hA) hv (r := 0) (by decide) ?_
    have e0 : sumL (fun g => if (decide ((0 : Int) = -1) || decide (inf s g 4 = 0)) && thruC (n s) (w s) v g then 1 else 0) 0 (els s).length = passN (n s) (w s) (inf s) v 0 (els s).length := rfl
    rw [e0]
    exact ⟨fd_num (by omega) (by omega), k1⟩
end
