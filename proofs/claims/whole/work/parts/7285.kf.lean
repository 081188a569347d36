section
variable {D : wD} {S : wS} {o : Nat → Nat} {y : Nat → Nat} {c : cM} {F R kd : Int}
theorem q_workOut2 {post : wS → Prop} {bc bs : Nat} {W0 : Int} (hW0 : 0 ≤ W0 ∧ W0 ≤ 500000000) (h : CC D S o) (hB : BG c F R) (h25 : F * R ≤ 25) (hS : SLV c) (hk : 2 ≤ kd ∧ kd ≤ 5)
    (hE : c.1 46 kd = 0 → (∃ y, EC D S o y ∧ EB (e0S S y, 0) 40000 W0) ∨ (ENo D S o ∧ 3 ≤ bc ∧ 171875 ≤ bs))
    (k1 : c.1 46 kd = 1 → post (cS S o c)) (k2 : c.1 46 kd = 0 → ∀ y, EC D S o y → post (cS (eS S y (solveE F R kd (e0S S y)).1) o (wrkM c kd (solveE F R kd (e0S S y)))))
    (k3 : c.1 46 kd = 0 → ENo D S o → ∀ U y, CC D U o → U = cS U o c → EX D (cS S o c) (cS U o c) [o 45] → EC D U o y → (∀ k, k < 4 → sR U (o 45) k = sR S (o 45) k) → (∀ k, k < 3 → ¬ wM D S (y k)) → (∀ k (a : Int), k < 3 → e0S U y k a = 0) → post (cS (eS U y (solveE F R kd (e0S U y)).1) o (wrkM c kd (solveE F R kd (e0S U y))))) : wp_X2_workOut D post bc bs (cS S o c) (o 45) (iI kd) := by
  have hm := hB.m
  unfold wp_X2_workOut wp_X2_workOut_0 wp_X2_workOut_30
  refine q_isWorkedOut h hS hk ?_
  have s01 := hS kd (by omega) (by omega)
  rw [show (0 : Int32) = iI 0 from rfl, show (2 : Int32) = iI 2 from rfl, show (5 : Int32) = iI 5 from rfl, iI_eq (by omega) (by omega) (by decide) (by decide), iI_lt (by omega) (by omega) (by decide) (by decide), iI_lt (by omega) (by omega) (by omega) (by omega)]
  refine ⟨fun q => k1 (by omega), fun q => ⟨fun z => absurd z (by omega), fun _ => ⟨fun z => absurd z (by omega), fun _ => ⟨o 1, c_r h rfl, (c_m h (by decide)).mpr trivial, c_k h (by decide), ?_⟩⟩⟩⟩
  have k2 := k2 q
  have k3 := k3 q
  rw [c_i1 h (by decide) (show ((2 : Nat) : Int) = 2 from rfl), hB.n, show (25 : Int32) = iI 25 from rfl, iI_le (by omega) (by omega) (by omega) (by omega)]
  refine ⟨fun _ => ?_, fun z => absurd h25 z⟩
  rcases hE q with ⟨y, hE, hEB⟩ | ⟨hN, b1, b2⟩
  · have k2 := k2 y hE
    have r0 := hE.1 0 (by decide)
    refine ⟨y 0, r0.2.1, Or.inl r0.1.1, r0.1.2.1, ?_⟩
    have n0 : sN (cS S o c) (y 0) = 125000 := r0.1.2.2
    rw [n0]
    refine ⟨fun _ => ?_, fun z => absurd z (by decide)⟩
    have := q_work_65 (D := D) (bc := bc) (bs := bs) (y := y) (c := c) hW0 h hE hB h25 hk (e := e0S S y) hEB k2
    rw [eS_self] at this
    exact this
  · have k3 := k3 hN
    obtain ⟨z, z1, z2, z3, z4⟩ := hN
    refine ⟨z, z1, z2, z3, ?_⟩
    have n0 : sN (cS S o c) z = 0 := z4
    rw [n0]
    refine ⟨fun w => absurd rfl w, fun _ => ⟨by decide, by decide, by omega, by show 125000 ≤ bs; omega, fun y10 f10 S11 e11 S13 e13 => ?_⟩⟩
    rw [e11] at e13
    have a1 := al_step (c := c) h (f := 4) (z := y10) (n := 125000) (by decide) f10 e13
    refine ⟨by decide, by decide, by omega, by show 31250 ≤ bs - 125000; omega, fun y14 f14 S15 e15 S17 e17 => ?_⟩
    rw [e15] at e17
    rw [a1.2.1] at f14 e17
    have a2 := al_step (c := c) a1.1 (f := 5) (z := y14) (n := 31250) (by decide) f14 e17
    refine ⟨by decide, by decide, by omega, by show 15625 ≤ bs - 125000 - 31250; omega, fun y18 f18 S19 e19 S21 e21 => ?_⟩
    rw [e19] at e21
    rw [a2.2.1] at f18 e21
    have a3 := al_step (c := c) a2.1 (f := 6) (z := y18) (n := 15625) (by decide) f18 e21
    have m10 : wM D (cS S13 o c) y10 := Or.inl (by rw [← a1.2.1]; exact a1.2.2.2.1.1)
    have m14 : wM D (cS S17 o c) y14 := Or.inl (by rw [← a2.2.1]; exact a2.2.2.2.1.1)
    have x1 := a1.2.2.1
    have x2 := a2.2.2.1
    have x3 := a3.2.2.1
    have m10' : wM D (cS S17 o c) y10 := by rw [← a2.2.1]; exact x2.M m10
    have d1 : y10 ≠ y14 := fun e => f14 (e ▸ m10)
    have d2 : y10 ≠ y18 := fun e => f18 (e ▸ m10')
    have d3 : y14 ≠ y18 := fun e => f18 (e ▸ m14)
    have n10 : y10 ∉ [o 45] := by simp; exact fun e => a1.2.2.2.2.2.2 45 (by decide) e.symm
    have n14 : y14 ∉ [o 45] := by simp; exact fun e => a2.2.2.2.2.2.2 45 (by decide) e.symm
    -- the first row is still there
    have g1 : y10 ∈ sL S21 ∧ sK S21 y10 = 21 ∧ sN S21 y10 = 125000 ∧ sI S21 y10 = fun _ => 0 := by
      have p1 := a1.2.2.2.1
      have l2 : y10 ∈ sL S17 := x2.L (by rw [← a1.2.1]; exact p1.1)
      refine ⟨x3.L (by rw [← a2.2.1]; exact l2), ?_, ?_, ?_⟩
      · rw [x3.k m10', ← a2.2.1, x2.k m10, ← a1.2.1]; exact p1.2.1
      · rw [x3.n m10', ← a2.2.1, x2.n m10, ← a1.2.1]; exact p1.2.2.1
      · rw [x3.i m10' n10, ← a2.2.1, x2.i m10 n10, ← a1.2.1]; exact p1.2.2.2
    have g2 : y14 ∈ sL S21 ∧ sK S21 y14 = 21 ∧ sN S21 y14 = 31250 ∧ sI S21 y14 = fun _ => 0 := by
      have p1 := a2.2.2.2.1
      refine ⟨x3.L (by rw [← a2.2.1]; exact p1.1), ?_, ?_, ?_⟩
      · rw [x3.k m14, ← a2.2.1]; exact p1.2.1
      · rw [x3.n m14, ← a2.2.1]; exact p1.2.2.1
      · rw [x3.i m14 n14, ← a2.2.1]; exact p1.2.2.2
    have g3 := a3.2.2.2.1
    have r4 : sR S21 (o 45) 4 = some y10 := by rw [a3.2.2.2.2.2.1 4 (by decide), a2.2.2.2.2.2.1 4 (by decide)]; exact a1.2.2.2.2.1
    have r5 : sR S21 (o 45) 5 = some y14 := by rw [a3.2.2.2.2.2.1 5 (by decide)]; exact a2.2.2.2.2.1
    have r6 := a3.2.2.2.2.1
    have hE : EC D S21 o (fun k => if k = 0 then y10 else if k = 1 then y14 else y18) := by
      refine ⟨fun k hk => ?_, ?_, ?_, ?_⟩
      · rcases (show k = 0 ∨ k = 1 ∨ k = 2 by omega) with rfl | rfl | rfl
        · exact ⟨⟨g1.1, g1.2.1, g1.2.2.1⟩, r4, fun n hn => a1.2.2.2.2.2.2 n (cOk_lt hn)⟩
        · exact ⟨⟨g2.1, g2.2.1, g2.2.2.1⟩, r5, fun n hn => a2.2.2.2.2.2.2 n (cOk_lt hn)⟩
        · exact ⟨⟨g3.1, g3.2.1, g3.2.2.1⟩, r6, fun n hn => a3.2.2.2.2.2.2 n (cOk_lt hn)⟩
      · exact d1
      · exact d2
      · exact d3
    have eE : EX D (cS S o c) S21 [o 45] := (x1.trans (by rw [← a1.2.1] at x2; exact x2) (fun _ _ w => w) (fun _ _ w => w)).trans (by rw [← a2.2.1] at x3; exact x3) (fun _ _ w => w) (fun _ _ w => w)
    have hz : ∀ k (a : Int), k < 3 → e0S S21 (fun k => if k = 0 then y10 else if k = 1 then y14 else y18) k a = 0 := fun k a hk => by
      unfold e0S
      rcases (show k = 0 ∨ k = 1 ∨ k = 2 by omega) with rfl | rfl | rfl
      · show (sI S21 y10 a.toNat).toInt = 0; rw [g1.2.2.2]; rfl
      · show (sI S21 y14 a.toNat).toInt = 0; rw [g2.2.2.2]; rfl
      · show (sI S21 y18 a.toNat).toInt = 0; rw [g3.2.2.2]; rfl
    have kk := k3 S21 _ a3.1 a3.2.1 (by rw [← a3.2.1]; exact eE) hE (fun k hk => by rw [a3.2.2.2.2.2.1 k (by omega), a2.2.2.2.2.2.1 k (by omega), a1.2.2.2.2.2.1 k (by omega)]) (fun k hk => ?_) hz
    · have hz : ∀ k (a : Int), k < 3 → e0S S21 (fun k => if k = 0 then y10 else if k = 1 then y14 else y18) k a = 0 := fun k a hk => by
        unfold e0S
        rcases (show k = 0 ∨ k = 1 ∨ k = 2 by omega) with rfl | rfl | rfl
        · show (sI S21 y10 a.toNat).toInt = 0; rw [g1.2.2.2]; rfl
        · show (sI S21 y14 a.toNat).toInt = 0; rw [g2.2.2.2]; rfl
        · show (sI S21 y18 a.toNat).toInt = 0; rw [g3.2.2.2]; rfl
      have := q_work_65 (D := D) (bc := bc - 1 - 1 - 1) (bs := bs - 125000 - 31250 - 15625) (c := c) hW0 a3.1 hE hB h25 hk (e := e0S S21 (fun k => if k = 0 then y10 else if k = 1 then y14 else y18)) ⟨⟨Int.le_refl _, by show (0 : Int) ≤ 31250; decide⟩, fun i _ _ => by dsimp only; rw [hz 0 i (by decide)]; decide, fun i _ _ => by dsimp only; rw [hz 2 i (by decide)]; omega⟩ kk
      rw [eS_self, ← a3.2.1] at this
      exact this
    · rcases (show k = 0 ∨ k = 1 ∨ k = 2 by omega) with rfl | rfl | rfl
      · exact f10
      · exact fun w => f14 (by have := x1.M (show wM D (cS S o c) y14 from w); rw [a1.2.1] at this; exact this)
      · exact fun w => f18 (by have := x2.M (by have := x1.M (show wM D (cS S o c) y18 from w); rw [a1.2.1] at this; exact this); rw [a2.2.1] at this; exact this)
end
section
variable {D : wD} {S : wS} {o : Nat → Nat} {c : cM} {F R kd : Int} {v : Int → Int} {post : Int32 → wS → Prop} {xp : String → wS → Prop}
theorem q_solveC2 {bc bs : Nat} {W0 : Int} (hW0 : 0 ≤ W0 ∧ W0 ≤ 500000000) (h : CC D S o) (hB : BG c F R) (hS : SLV c) (hi : i32 kd) (hb : 2 ≤ bc ∧ 12 ≤ bs)
    (hE : inB kd 2 5 = true → F * R ≤ 25 → c.1 46 kd = 0 → (∃ y, EC D S o y ∧ EB (e0S S y, 0) 40000 W0) ∨ (ENo D S o ∧ 4 ≤ bc ∧ 171881 ≤ bs))
    (k0 : inB kd 2 5 = false → xp "java/lang/IllegalArgumentException" (cS S o c)) (k1 : inB kd 2 5 = true → 25 < F * R → xp "java/lang/IllegalStateException" (cS S o c))
    (k2 : inB kd 2 5 = true → F * R ≤ 25 → c.1 46 kd = 1 → post (iI (c.1 47 kd)) (cS S o c))
    (k3 : inB kd 2 5 = true → F * R ≤ 25 → c.1 46 kd = 0 → ∀ y, EC D S o y → post (iI (solveE F R kd (e0S S y)).2) (cS (eS S y (solveE F R kd (e0S S y)).1) o (wrkM c kd (solveE F R kd (e0S S y)))))
    (k4 : inB kd 2 5 = true → F * R ≤ 25 → c.1 46 kd = 0 → ENo D S o → ∀ U y, CC D U o → U = cS U o c → EX D (cS S o c) (cS U o c) [o 45] → EC D U o y → (∀ k, k < 4 → sR U (o 45) k = sR S (o 45) k) → (∀ k, k < 3 → ¬ wM D S (y k)) → (∀ k (a : Int), k < 3 → e0S U y k a = 0) → post (iI (solveE F R kd (e0S U y)).2) (cS (eS U y (solveE F R kd (e0S U y)).1) o (wrkM c kd (solveE F R kd (e0S U y))))) : wp_X11_solve D post xp bc bs (cS S o c) (o 0) (iI kd) := by
  have hm := hB.m
  unfold wp_X11_solve wp_X11_solve_0
  refine ⟨by omega, by omega, ?_⟩
  refine q_endKind hi k0 fun z => ?_
  have k1 := k1 z
  have k2 := k2 z
  have k3 := k3 z
  have k4 := k4 z
  have hk := inB_iff.mp z
  refine ⟨o 1, c_r h rfl, (c_m h (by decide)).mpr trivial, c_k h (by decide), ?_⟩
  rw [c_i1 h (by decide) (show ((2 : Nat) : Int) = 2 from rfl), hB.n, show (25 : Int32) = iI 25 from rfl, iI_le (by omega) (by omega) (by decide) (by decide)]
  refine ⟨fun q => ⟨o 45, c_r h rfl, (c_m h (by decide)).mpr trivial, c_k h (by decide), bc - 1, bs - 6, Nat.le_refl _, Nat.le_refl _, ?_⟩, fun q => ⟨by omega, by omega, k1 (by omega)⟩⟩
  have k2 := k2 q
  have k3 := k3 q
  have k4 := k4 q
  refine q_workOut2 hW0 h hB q hS hk (fun w => (hE z q w).imp id (fun w => ⟨w.1, by omega, by omega⟩)) (fun w => ?_) (fun w y hy => ?_) (fun w hN U y u1 u0 u2 u3 u4 u5 u6 => ?_)
  · refine ⟨o 45, c_r h rfl, (c_m h (by decide)).mpr trivial, c_k h (by decide), ?_⟩
    exact q_winsOf h hS hk w (k2 w)
  · have h' := ccE h y
    refine ⟨o 45, c_r (h' _) rfl, (c_m (h' _) (by decide)).mpr trivial, c_k (h' _) (by decide), ?_⟩
    refine q_winsOf (h' _) (hS.wrk _) hk (wrkM_46 _ _) ?_
    rw [wrkM_47]
    exact k3 w y hy
  · have h' := ccE u1 y
    refine ⟨o 45, c_r (h' _) rfl, (c_m (h' _) (by decide)).mpr trivial, c_k (h' _) (by decide), ?_⟩
    refine q_winsOf (h' _) (hS.wrk _) hk (wrkM_46 _ _) ?_
    rw [wrkM_47]
    exact k4 w hN U y u1 u0 u2 u3 u4 u5 u6
end
section
variable {F R kd : Int}
theorem work_EB {W0 : Int} (h0 : 16 ≤ F * R) (h25 : F * R ≤ 25) (hk : 2 ≤ kd ∧ kd ≤ 5) : ∀ (f : Nat) (i : Int) (t : eT), 0 ≤ i → i ≤ 31250 → i + f = 31251 → EB t 40000 (W0 + 25 * i) → QV (F * R) i kd t → EB (workL F R kd f i t) 40000 (W0 + 781250)
  | 0, i, t, i0, i1, hi, _, _ => by omega
  | f + 1, i, t, i0, i1, hi, hEB, hQ => by
    unfold workL
    split
    · exact hEB.mono (Int.le_refl _) (by omega)
    · rename_i z
      have vx := hQ i i0 (by omega)
      have be := back_EB (F := F) (R := R) (kd := kd) h25 (by omega) hk vx.1 hEB hQ vx.2 (by omega)
      exact work_EB h0 h25 hk f (i + 1) _ (by omega) (by omega) (by omega) (be.1.mono (Int.le_refl _) (by omega)) be.2
theorem solve_EB {W0 : Int} (h0 : 16 ≤ F * R) (h25 : F * R ≤ 25) (hk : 2 ≤ kd ∧ kd ≤ 5) (hW0 : 0 ≤ W0) {e : xM} (hEB : EB (e, 0) 40000 W0) : EB (solveE F R kd e) 40000 (W0 + 781250) := by
  have hm1 : ∀ w b p t, 0 ≤ w ∧ w < F * R → 0 ≤ b ∧ b < F * R → 0 ≤ p ∧ p < F * R → (EB t 40000 W0 ∧ t.2 = 0) → (EB (markE F R kd w b p t) 40000 W0 ∧ (markE F R kd w b p t).2 = 0) := fun w b p t _ _ _ ht => ⟨ht.1.mark (by decide), ht.2⟩
  have inv1 : EB (forE (F * R) (markE F R kd) (e, 0)) 40000 W0 ∧ (forE (F * R) (markE F R kd) (e, 0)).2 = 0 :=
    runL_inv3 (P := fun _ (t : eT) => EB t 40000 W0 ∧ t.2 = 0) _ _ 0 (e, 0) (fun w t w0 w1 hh => runL_inv3 (P := fun _ (t : eT) => EB t 40000 W0 ∧ t.2 = 0) _ _ 0 t (fun b t b0 b1 hh => runL_inv3 (P := fun _ (t : eT) => EB t 40000 W0 ∧ t.2 = 0) _ _ 0 t (fun p t p0 p1 hh => hm1 w b p t ⟨w0, by omega⟩ ⟨b0, by omega⟩ ⟨p0, by omega⟩ hh) hh) hh) ⟨hEB, rfl⟩
  unfold solveE
  generalize forE (F * R) (markE F R kd) (e, 0) = t1 at inv1 ⊢
  have q1 : QV (F * R) 0 kd t1 := fun j j0 j1 => by rw [inv1.2] at j1; omega
  have hm2 : ∀ w b p t, 0 ≤ w ∧ w < F * R → 0 ≤ b ∧ b < F * R → 0 ≤ p ∧ p < F * R → (EB t 40000 W0 ∧ QV (F * R) 0 kd t) → (EB (countE F R kd w b p t) 40000 W0 ∧ QV (F * R) 0 kd (countE F R kd w b p t)) := fun w b p t hw hb hp ht => ⟨ht.1.count (by decide) hW0 h25, ht.2.count (VIx.of h25 (Or.inl rfl) hw hb hp) (by decide)⟩
  have inv2 : EB (forE (F * R) (countE F R kd) t1) 40000 W0 ∧ QV (F * R) 0 kd (forE (F * R) (countE F R kd) t1) :=
    runL_inv3 (P := fun _ (t : eT) => EB t 40000 W0 ∧ QV (F * R) 0 kd t) _ _ 0 t1 (fun w t w0 w1 hh => runL_inv3 (P := fun _ (t : eT) => EB t 40000 W0 ∧ QV (F * R) 0 kd t) _ _ 0 t (fun b t b0 b1 hh => runL_inv3 (P := fun _ (t : eT) => EB t 40000 W0 ∧ QV (F * R) 0 kd t) _ _ 0 t (fun p t p0 p1 hh => hm2 w b p t ⟨w0, by omega⟩ ⟨b0, by omega⟩ ⟨p0, by omega⟩ hh) hh) hh) ⟨inv1.1, q1⟩
  exact work_EB h0 h25 hk 31251 0 _ (by decide) (by decide) (by decide) (inv2.1.mono (Int.le_refl _) (by omega)) inv2.2
end
