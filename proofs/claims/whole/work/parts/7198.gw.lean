/-! PHASE 3: endings: marking, counting, stepping back -/
section
variable {D : wD} {S : wS} {o : Nat → Nat} {y : Nat → Nat} {c : cM} {F R kd : Int}
def kgS (F R a t : Int) : Bool := reachC F R (fun _ => false) 1 a t
def pcS (F R kd w b p t : Int) : Bool := reachC F R (fun k => decide (k = w) || decide (k = b)) kd p t
def aptB (F R w b p : Int) : Bool := !decide (w = b) && !decide (w = p) && !decide (b = p) && !kgS F R w b
def markE (F R kd w b p : Int) (t : eT) : eT :=
  (setE kd (eIx 1 w b p) (if aptB F R w b p && !pcS F R kd w b p b then -1 else -2) (setE kd (eIx 0 w b p) (if aptB F R w b p then -1 else -2) t.1), t.2)
def cntM (F R kd w b p : Int) (e : xM) : Int := sumL (fun t => if kgS F R b t && !decide (valE kd e (eIx 1 w t p) = -2) then 1 else 0) 0 (F * R).toNat
def mvsE (F R kd w b p : Int) (e : xM) : Int := if kgS F R b p && !kgS F R w p then 100 else cntM F R kd w b p e
def countE (F R kd w b p : Int) (t : eT) : eT :=
  if valE kd t.1 (eIx 0 w b p) = -2 then t
  else if mvsE F R kd w b p t.1 = 0 ∧ pcS F R kd w b p b = true then winE kd (eIx 0 w b p) 0 (up t.1 2 (eIx 0 w b p) (mvsE F R kd w b p t.1), t.2)
  else (up t.1 2 (eIx 0 w b p) (mvsE F R kd w b p t.1), t.2)
def forE (N : Int) (g : Int → Int → Int → eT → eT) : eT → eT := runL (fun w => runL (fun b => runL (fun p => g w b p) 0 N.toNat) 0 N.toNat) 0 N.toNat
def backAt (F R kd its w b p v : Int) (a : Int) (t : eT) : eT :=
  (fun t2 : eT => if its = 0 ∧ pcS F R kd w b p a = true then reachE kd (eIx 1 w b a) v t2 else t2)
    ((fun t1 : eT => if its = 0 ∧ kgS F R w a = true then reachE kd (eIx 1 a b p) v t1 else t1)
      (if its ≠ 0 ∧ kgS F R b a = true then loseE kd (eIx 0 w a p) v t else t))
/-- a place of the table taken apart -/
def dIt (i : Int) : Int := if 15625 ≤ i then 1 else 0
def dPl (i : Int) : Int := if 15625 ≤ i then i - 15625 else i
def dP (i : Int) : Int := dPl i % 25
def dB (i : Int) : Int := dPl i / 25 % 25
def dW (i : Int) : Int := dPl i / 25 / 25
def backE (F R kd i : Int) (t : eT) : eT := runL (backAt F R kd (dIt i) (dW i) (dB i) (dP i) (valE kd t.1 i + 1)) 0 (F * R).toNat t
theorem eIx_r {its w b p : Int} (hw : 0 ≤ w ∧ w < 25) (hb : 0 ≤ b ∧ b < 25) (hp : 0 ≤ p ∧ p < 25) : 0 ≤ eIx its w b p ∧ eIx its w b p < 31250 ∧ (its = 0 → eIx its w b p < 15625) := by
  unfold eIx; split <;> omega
theorem EB.win {t : eT} {V W i v : Int} (h : EB t V W) (hv : -2 ≤ v ∧ v ≤ V) : EB (winE kd i v t) V W := by
  unfold winE
  split
  · rename_i q
    refine ⟨by have := h.1; dsimp only; omega, fun j j0 j1 => ?_, fun j j0 j1 => ?_⟩
    · dsimp only
      rw [up_ne _ (Or.inl (by decide))]
      unfold setE
      by_cases z : j = (kd - 2) * 31250 + i
      · rw [z, up_at]; exact hv
      · rw [up_ne _ (Or.inr z)]; exact h.2.1 j j0 j1
    · dsimp only
      unfold setE
      rw [up_ne _ (Or.inl (by decide)), up_ne _ (Or.inl (by decide))]; exact h.2.2 j j0 j1
  · exact h
theorem EB.reach {t : eT} {V W i v : Int} (h : EB t V W) (hv : -2 ≤ v ∧ v ≤ V) : EB (reachE kd i v t) V W := by
  unfold reachE
  split
  · exact h.win hv
  · exact h
theorem EB.mono {t : eT} {V W V' W' : Int} (h : EB t V W) (h1 : V ≤ V') (h2 : W ≤ W') : EB t V' W' := ⟨h.1, fun j a b => by have := h.2.1 j a b; omega, fun j a b => by have := h.2.2 j a b; omega⟩
theorem EB.low {t : eT} {V W i x : Int} (h : EB t V W) (hx : -W ≤ x ∧ x ≤ 100) : EB (up t.1 2 i x, t.2) V W := ⟨h.1, fun j a b => by dsimp only; rw [up_ne _ (Or.inl (by decide))]; exact h.2.1 j a b, fun j a b => by
  dsimp only
  by_cases z : j = i
  · rw [z, up_at]; exact hx
  · rw [up_ne _ (Or.inr z)]; exact h.2.2 j a b⟩
theorem EB.lose {t : eT} {V W i v : Int} (h : EB t V W) (hi : 0 ≤ i ∧ i < 15625) (hv : -2 ≤ v ∧ v ≤ V) : EB (loseE kd i v t) V (W + 1) := by
  have hx := h.2.2 i hi.1 hi.2
  have h' := (h.mono (Int.le_refl V) (show W ≤ W + 1 by omega)).low (i := i) (x := t.1 2 i - 1) (by omega)
  unfold loseE
  split
  · split
    · exact h'.win hv
    · exact h'
  · exact h.mono (Int.le_refl _) (by omega)
theorem EB.set {t : eT} {V W i v : Int} (h : EB t V W) (hv : -2 ≤ v ∧ v ≤ V) : EB (setE kd i v t.1, t.2) V W := ⟨h.1, fun j a b => by
  dsimp only; unfold setE
  by_cases z : j = (kd - 2) * 31250 + i
  · rw [z, up_at]; exact hv
  · rw [up_ne _ (Or.inr z)]; exact h.2.1 j a b, fun j a b => by dsimp only; unfold setE; rw [up_ne _ (Or.inl (by decide))]; exact h.2.2 j a b⟩
theorem EB.mark {t : eT} {V W w b p : Int} (h : EB t V W) (hV : -1 ≤ V) : EB (markE F R kd w b p t) V W :=
  (h.set (kd := kd) (i := eIx 0 w b p) (v := if aptB F R w b p then -1 else -2) (by split <;> omega)).set (t := (setE kd (eIx 0 w b p) (if aptB F R w b p then -1 else -2) t.1, t.2)) (by split <;> omega)
theorem cntM_r (e : xM) (w b p : Int) (h25 : F * R ≤ 25) : 0 ≤ cntM F R kd w b p e ∧ cntM F R kd w b p e ≤ 25 := by
  have := befC_sum (fun t => (kgS F R b t && !decide (valE kd e (eIx 1 w t p) = -2)) = true) (F * R).toNat 0
  unfold cntM
  omega
theorem mvsE_r (e : xM) (w b p : Int) (h25 : F * R ≤ 25) : 0 ≤ mvsE F R kd w b p e ∧ mvsE F R kd w b p e ≤ 100 := by
  have := cntM_r (F := F) (R := R) (kd := kd) e w b p h25
  unfold mvsE; split <;> omega
theorem EB.count {t : eT} {V W w b p : Int} (h : EB t V W) (hV : 0 ≤ V) (hW : 0 ≤ W) (h25 : F * R ≤ 25) : EB (countE F R kd w b p t) V W := by
  have m := mvsE_r (F := F) (R := R) (kd := kd) t.1 w b p h25
  have h' := h.low (i := eIx 0 w b p) (x := mvsE F R kd w b p t.1) (by omega)
  unfold countE
  split
  · exact h
  · split
    · exact h'.win (by omega)
    · exact h'
theorem occ2 {w b : Int} (hw : 0 ≤ w ∧ w < 64) (hb : 0 ≤ b ∧ b < 64) : jlshl (1 : Int64) (iI w) ||| jlshl (1 : Int64) (iI b) = zS (fun k => decide (k = w) || decide (k = b)) := by
  rw [zS_one hw, zS_one hb, zS_or]
theorem q_isCheckingE {post : Int32 → wS → Prop} (h : CC D S o) (hB : BG c F R) (h25 : F * R ≤ 25) (hk : 2 ≤ kd ∧ kd ≤ 5) {w b p : Int} (hw : 0 ≤ w ∧ w < F * R) (hb : 0 ≤ b ∧ b < F * R) (hp : 0 ≤ p ∧ p < F * R) (k : post (iI (bI (pcS F R kd w b p b))) (cS S o c)) : wp_X2_isChecking D post (cS S o c) (o 45) (iI kd) (iI w) (iI b) (iI p) := by
  unfold wp_X2_isChecking wp_X2_isChecking_0
  refine ⟨o 1, c_r h rfl, (c_m h (by decide)).mpr trivial, c_k h (by decide), ?_⟩
  rw [occ2 (by omega) (by omega)]
  refine q_reach h hB hp (by omega) ?_
  rw [q_contains _ (by omega)]
  exact ⟨of_eq_true (bI_nar _), k⟩
theorem q_markE {post : wS → Prop} (h : CC D S o) (hE : EC D S o y) (hB : BG c F R) (h25 : F * R ≤ 25) (hk : 2 ≤ kd ∧ kd ≤ 5) {w b p : Int} (hw : 0 ≤ w ∧ w < F * R) (hb : 0 ≤ b ∧ b < F * R) (hp : 0 ≤ p ∧ p < F * R) {t : eT} (k : post (cS (eS S y (markE F R kd w b p t).1) o (qC c t.2))) : wp_X2_mark D post (cS (eS S y t.1) o (qC c t.2)) (o 45) (iI kd) (iI w) (iI b) (iI p) := by
  have h' := ccE h y
  have hB' : BG (qC c t.2) F R := (cI_sim c 45 7 t.2).B (fun m hm => by simp; omega) hB
  have i0 := eIx_r (its := 0) (w := w) (b := b) (p := p) (by omega) (by omega) (by omega)
  have i1 := eIx_r (its := 1) (w := w) (b := b) (p := p) (by omega) (by omega) (by omega)
  unfold wp_X2_mark wp_X2_mark_0
  have fin : ∀ (ap ck : Bool), ap = aptB F R w b p → (ap = true → ck = pcS F R kd w b p b) → (ap = false → ck = false) → wp_X2_mark_63 D post (cS (eS S y t.1) o (qC c t.2)) (o 45) (iI kd) (iI w) (iI b) (iI p) (iI (bI ap)) (iI (bI ck)) := by
    intro ap ck e1 e2 e3
    unfold wp_X2_mark_63
    refine q_indexOf (Or.inl rfl) ?_
    have go : ∀ x : Int, x = (if ap then -1 else -2) → wp_X2_mark_86 D post (cS (eS S y t.1) o (qC c t.2)) (o 45) (iI kd) (iI w) (iI b) (iI p) (iI (bI ap)) (iI (bI ck)) (o 45) (iI kd) (iI (eIx 0 w b p)) (iI x) := by
      intro x hx
      unfold wp_X2_mark_86 wp_X2_mark_113 wp_X2_mark_115
      refine q_setValueE hE hk (by omega) ?_
      refine q_indexOf (Or.inr rfl) ?_
      have st : ∀ z : Int, z = (if aptB F R w b p && !pcS F R kd w b p b then -1 else -2) → wp_X2_setValue D (fun S_2 => post S_2) (cS (eS S y (setE kd (eIx 0 w b p) x t.1)) o (qC c t.2)) (o 45) (iI kd) (iI (eIx 1 w b p)) (iI z) := by
        intro z hz
        refine q_setValueE hE hk (by omega) ?_
        rw [hz, hx, e1]
        exact k
      rw [show (0 : Int32) = iI 0 from rfl, show (-2 : Int32) = iI (-2) from rfl, show (-1 : Int32) = iI (-1) from rfl, bI_z, bI_z]
      refine ⟨fun z => st (-2) (by rw [← e1, z]; rfl), fun z => ?_⟩
      have z : ap = true := (Bool.not_eq_false _).mp z
      have e2 := e2 z
      refine ⟨fun u => st (-2) (by rw [← e1, ← e2, z, (Bool.not_eq_false _).mp u]; rfl), fun u => st (-1) (by rw [← e1, ← e2, z, u]; rfl)⟩
    rw [show (0 : Int32) = iI 0 from rfl, show (-2 : Int32) = iI (-2) from rfl, show (-1 : Int32) = iI (-1) from rfl, bI_z]
    exact ⟨fun z => go (-2) (by rw [z]; rfl), fun z => go (-1) (by rw [(Bool.not_eq_false _).mp z]; rfl)⟩
  have at39f : aptB F R w b p = false → wp_X2_mark_38 D post (cS (eS S y t.1) o (qC c t.2)) (o 45) (iI kd) (iI w) (iI b) (iI p) := fun q => by
    unfold wp_X2_mark_38 wp_X2_mark_39 wp_X2_mark_62
    exact ⟨fun _ => fin false false q.symm (fun z => absurd z (by decide)) (fun _ => rfl), fun z => absurd rfl z⟩
  rw [iI_eq (by omega) (by omega) (by omega) (by omega), iI_eq (by omega) (by omega) (by omega) (by omega), iI_eq (by omega) (by omega) (by omega) (by omega)]
  refine ⟨fun q => at39f (by unfold aptB; rw [decide_eq_true q]; rfl), fun q1 => ⟨fun q => at39f (by unfold aptB; rw [decide_eq_true q]; simp), fun q2 => ⟨fun q => at39f (by unfold aptB; rw [decide_eq_true q]; simp), fun q3 => ⟨o 1, c_r (h' _) rfl, (c_m (h' _) (by decide)).mpr trivial, c_k (h' _) (by decide), ?_⟩⟩⟩⟩
  rw [show (0 : Int64) = zS (fun _ => false) from zS_f, show (1 : Int32) = iI 1 from rfl]
  refine q_reach (h' _) hB' hw (by decide) ?_
  rw [q_contains _ (by omega), show (0 : Int32) = iI 0 from rfl, bI_z]
  have ap : aptB F R w b p = !kgS F R w b := by unfold aptB; rw [decide_eq_false q1, decide_eq_false q2, decide_eq_false q3]; rfl
  refine ⟨fun z => at39f (by rw [ap]; show (!(reachC F R (fun _ => false) 1 w b)) = false; rw [(Bool.not_eq_false _).mp z]; rfl), fun z => ?_⟩
  have ap : aptB F R w b p = true := by rw [ap]; show (!(reachC F R (fun _ => false) 1 w b)) = true; rw [z]; rfl
  unfold wp_X2_mark_39 wp_X2_mark_62
  refine ⟨fun u => absurd u (by decide), fun _ => ?_⟩
  refine q_isCheckingE (h' _) hB' h25 hk hw hb hp ?_
  rw [show (0 : Int32) = iI 0 from rfl, bI_z]
  refine ⟨fun u => fin true false ap.symm (fun _ => u.symm) (fun u => absurd u (by decide)), fun u => fin true true ap.symm (fun _ => ((Bool.not_eq_false _).mp u).symm) (fun u => absurd u (by decide))⟩
theorem q_countE {post : wS → Prop} (h : CC D S o) (hE : EC D S o y) (hB : BG c F R) (h25 : F * R ≤ 25) (hk : 2 ≤ kd ∧ kd ≤ 5) {w b p : Int} (hw : 0 ≤ w ∧ w < F * R) (hb : 0 ≤ b ∧ b < F * R) (hp : 0 ≤ p ∧ p < F * R) {t : eT} {V W : Int} (hEB : EB t V W) (hV : V ≤ 100000) (k : post (cS (eS S y (countE F R kd w b p t).1) o (qC c (countE F R kd w b p t).2))) : wp_X2_countMovesOfBlack D post (cS (eS S y t.1) o (qC c t.2)) (o 45) (iI kd) (iI w) (iI b) (iI p) := by
  have h' := ccE h y
  have hm := hB.m
  have hBq : ∀ q, BG (qC c q) F R := fun q => (cI_sim c 45 7 q).B (fun m hm => by simp; omega) hB
  have i0 := eIx_r (its := 0) (w := w) (b := b) (p := p) (by omega) (by omega) (by omega)
  have j0 := i0.2.2 rfl
  have vr : ∀ i : Int, 0 ≤ i → i < 31250 → -2 ≤ valE kd t.1 i ∧ valE kd t.1 i ≤ V := fun i a b => hEB.2.1 _ (by omega) (by omega)
  unfold wp_X2_countMovesOfBlack wp_X2_countMovesOfBlack_0 wp_X2_countMovesOfBlack_37
  refine q_indexOf (Or.inl rfl) ?_
  refine q_valueAtE hE hk (by omega) ?_
  have v0 := vr (eIx 0 w b p) (by omega) (by omega)
  rw [show (-2 : Int32) = iI (-2) from rfl, show (0 : Int32) = iI 0 from rfl, iI_eq (by omega) (by omega) (by decide) (by decide), iI_lt (by omega) (by omega) (by decide) (by decide)]
  unfold countE at k
  have r2 := fun e q => hE.r (e := e) (c := qC c q) (k := 2) (by decide)
  have n2 : ∀ e q, sN (cS (eS S y e) o (qC c q)) (y 2) = 15625 := fun e q => hE.n (by decide)
  refine ⟨fun z => ?_, fun z => ⟨fun u => absurd u (by omega), fun _ => ⟨y 2, (r2 _ _).1, (r2 _ _).2.1, (r2 _ _).2.2, ?_⟩⟩⟩
  · rw [if_pos z] at k; exact k
  rw [if_neg z] at k
  rw [n2, show Int32.ofNat 15625 = iI 15625 from rfl, iI_lt (by omega) (by omega) (by decide) (by decide)]
  refine ⟨fun _ => ⟨o 1, c_r (h' _) rfl, (c_m (h' _) (by decide)).mpr trivial, c_k (h' _) (by decide), ?_⟩, fun u => absurd j0 u⟩
  rw [show (0 : Int64) = zS (fun _ => false) from zS_f, show (1 : Int32) = iI 1 from rfl]
  refine q_reach (h' _) (hBq _) hb (by decide) ?_
  have mr := mvsE_r (F := F) (R := R) (kd := kd) t.1 w b p h25
  have fin : ∀ x : Int, x = mvsE F R kd w b p t.1 → wp_X2_countMovesOfBlack_138 D post (cS (eS S y t.1) o (qC c t.2)) (o 45) (iI kd) (iI w) (iI b) (iI p) (iI (eIx 0 w b p)) (iI x) := by
    intro x hx
    unfold wp_X2_countMovesOfBlack_138 wp_X2_countMovesOfBlack_172
    refine ⟨y 2, (r2 _ _).1, (r2 _ _).2.1, (r2 _ _).2.2, hE.l (by decide), ?_, fun S3 e3 => ?_⟩
    · rw [n2]; exact iI_in (by omega) (by omega) (by omega)
    rw [e_u hE (by decide) (by omega) (by omega)] at e3
    rw [e3, hx, show (0 : Int32) = iI 0 from rfl, iI_eq (by omega) (by omega) (by decide) (by decide)]
    refine ⟨fun u => ?_, fun u => ?_⟩
    · rw [if_neg (fun a => u a.1)] at k; exact k
    · refine q_isCheckingE (h' _) (hBq _) h25 hk hw hb hp ?_
      rw [bI_z]
      refine ⟨fun a => ?_, fun a => ?_⟩
      · rw [if_neg (fun q => by rw [a] at q; exact absurd q.2 (by decide))] at k; exact k
      · rw [if_pos ⟨u, (Bool.not_eq_false _).mp a⟩] at k
        exact q_winE (t := (up t.1 2 (eIx 0 w b p) (mvsE F R kd w b p t.1), t.2)) h hE hk (by omega) hEB.1 k
  have loop : ∀ (f d : Nat) (j x : Int), d < f → j + d = F * R → 0 ≤ j → 0 ≤ x ∧ x ≤ j → cntM F R kd w b p t.1 = x + sumL (fun a => if kgS F R b a && !decide (valE kd t.1 (eIx 1 w a p) = -2) then 1 else 0) j d →
      wp_X2_countMovesOfBlack_56 D post f (cS (eS S y t.1) o (qC c t.2)) (o 45) (iI kd) (iI w) (iI b) (iI p) (iI (eIx 0 w b p)) (zS (kgS F R b)) (iI x) (iI j) := by
    intro f
    induction f with
    | zero => intro d j x hd; omega
    | succ f ih =>
      intro d j x hd hj hj0 hx hs
      unfold wp_X2_countMovesOfBlack_56
      refine ⟨o 1, c_r (h' _) rfl, (c_m (h' _) (by decide)).mpr trivial, c_k (h' _) (by decide), ?_⟩
      rw [c_i1 (h' _) (by decide) (show ((2 : Nat) : Int) = 2 from rfl), (hBq t.2).n, iI_le (by omega) (by omega) (by omega) (by omega)]
      refine ⟨fun u => ?_, fun u => ?_⟩
      · have d0 : d = 0 := by omega
        rw [d0] at hs
        have hs : cntM F R kd w b p t.1 = x := by rw [hs]; exact Int.add_zero x
        rw [q_contains _ (by omega), show (0 : Int32) = iI 0 from rfl, bI_z]
        refine ⟨fun a => fin x (by unfold mvsE; rw [a, Bool.false_and, if_neg (by decide)]; exact hs.symm), fun a => ⟨o 1, c_r (h' _) rfl, (c_m (h' _) (by decide)).mpr trivial, c_k (h' _) (by decide), ?_⟩⟩
        rw [show (0 : Int64) = zS (fun _ => false) from zS_f, show (1 : Int32) = iI 1 from rfl, show (100 : Int32) = iI 100 from rfl]
        refine q_reach (h' _) (hBq _) hw (by decide) ?_
        rw [q_contains _ (by omega), bI_z]
        have a : kgS F R b p = true := (Bool.not_eq_false _).mp a
        refine ⟨fun g => fin x (by unfold mvsE; rw [show kgS F R w p = true from (Bool.not_eq_false _).mp g, Bool.not_true, Bool.and_false, if_neg (by decide)]; exact hs.symm), fun g => fin 100 (by unfold mvsE; rw [a, show kgS F R w p = false from g]; rfl)⟩
      · obtain ⟨d, rfl⟩ : ∃ d', d = d' + 1 := ⟨d - 1, by omega⟩
        rw [sumL_S] at hs
        rw [q_contains _ (by omega), show (0 : Int32) = iI 0 from rfl, bI_z]
        have nx : ∀ z : Int, z = x + (if kgS F R b j && !decide (valE kd t.1 (eIx 1 w j p) = -2) then 1 else 0) → wp_X2_countMovesOfBlack_100 D post (wp_X2_countMovesOfBlack_56 D post f) (cS (eS S y t.1) o (qC c t.2)) (o 45) (iI kd) (iI w) (iI b) (iI p) (iI (eIx 0 w b p)) (zS (kgS F R b)) (iI z) (iI j) := by
          intro z hz
          unfold wp_X2_countMovesOfBlack_100
          intro x1 e1
          rw [e1, show (1 : Int32) = iI 1 from rfl, iI_add]
          refine ih d (j + 1) z (by omega) (by omega) (by omega) ?_ (by rw [hs, hz, Int.add_assoc])
          rw [hz]; split <;> omega
        refine ⟨fun a => nx x (by rw [a]; simp), fun a => ?_⟩
        have a : kgS F R b j = true := (Bool.not_eq_false _).mp a
        rw [show (1 : Int32) = iI 1 from rfl]
        refine q_indexOf (Or.inr rfl) ?_
        have i1 := eIx_r (its := 1) (w := w) (b := j) (p := p) (by omega) (by omega) (by omega)
        refine q_valueAtE hE hk (by omega) ?_
        have v1 := vr (eIx 1 w j p) (by omega) (by omega)
        rw [show (-2 : Int32) = iI (-2) from rfl, iI_eq (by omega) (by omega) (by decide) (by decide)]
        refine ⟨fun g => nx x (by rw [decide_eq_true g]; simp), fun g x20 e20 => ?_⟩
        rw [e20, iI_add]
        exact nx (x + 1) (by rw [a, decide_eq_false g]; rfl)
  refine ⟨(F * R).toNat + 1, ?_⟩
  exact loop _ (F * R).toNat 0 0 (by omega) (by omega) (by decide) (by decide) (by rw [Int.zero_add]; rfl)
end
