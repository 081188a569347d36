/-! PHASE 3: endings: solved backward -/
section
variable {D : wD} {S : wS} {o : Nat → Nat} {y : Nat → Nat} {c : cM} {F R kd : Int}
/-- the queue holds places of the board -/
abbrev VIx (N i : Int) : Prop := (0 ≤ i ∧ i < 31250) ∧ (0 ≤ dW i ∧ dW i < N) ∧ (0 ≤ dB i ∧ dB i < N) ∧ (0 ≤ dP i ∧ dP i < N)
abbrev QV (N B kd : Int) (t : eT) : Prop := ∀ j : Int, 0 ≤ j → j < t.2 → VIx N (t.1 1 j) ∧ valE kd t.1 (t.1 1 j) ≤ B
theorem dI_eIx {its w b p : Int} (hi : its = 0 ∨ its = 1) (hw : 0 ≤ w ∧ w < 25) (hb : 0 ≤ b ∧ b < 25) (hp : 0 ≤ p ∧ p < 25) : dIt (eIx its w b p) = its ∧ dW (eIx its w b p) = w ∧ dB (eIx its w b p) = b ∧ dP (eIx its w b p) = p := by
  have e : eIx its w b p = its * 15625 + (w * 25 + b) * 25 + p := by
    unfold eIx
    rcases hi with rfl | rfl
    · rw [if_pos rfl]; omega
    · rw [if_neg (by decide)]; omega
  unfold dIt dW dB dP dPl
  rw [e]
  rcases hi with rfl | rfl
  · rw [if_neg (by omega), if_neg (by omega)]; omega
  · rw [if_pos (by omega), if_pos (by omega)]; omega
theorem VIx.of {N its w b p : Int} (hN : N ≤ 25) (hi : its = 0 ∨ its = 1) (hw : 0 ≤ w ∧ w < N) (hb : 0 ≤ b ∧ b < N) (hp : 0 ≤ p ∧ p < N) : VIx N (eIx its w b p) := by
  have e := dI_eIx hi (w := w) (b := b) (p := p) (by omega) (by omega) (by omega)
  have r := eIx_r (its := its) (w := w) (b := b) (p := p) (by omega) (by omega) (by omega)
  unfold VIx
  rw [e.2.1, e.2.2.1, e.2.2.2]
  exact ⟨⟨r.1, r.2.1⟩, hw, hb, hp⟩
theorem valE_set (e : xM) (i v j : Int) : valE kd (setE kd i v e) j = if j = i then v else valE kd e j := by
  unfold valE setE
  by_cases z : j = i
  · rw [z, up_at, if_pos rfl]
  · rw [up_ne _ (by omega), if_neg z]
theorem valE_up (e : xM) {k : Nat} (i x j : Int) (h : k ≠ 0) : valE kd (up e k i x) j = valE kd e j := by
  unfold valE; rw [up_ne _ (Or.inl (fun z => h z.symm))]
theorem setE_r (e : xM) (i v : Int) {k : Nat} (h : k ≠ 0) : setE kd i v e k = e k := by
  funext j; unfold setE; rw [up_ne _ (Or.inl h)]
theorem QV.win {N B i v : Int} {t : eT} (h : QV N B kd t) (hi : VIx N i) (hv : v ≤ B) : QV N B kd (winE kd i v t) := by
  unfold winE
  split
  · intro j j0 j1
    dsimp only at j1 ⊢
    rw [valE_up _ _ _ _ (by decide), valE_set]
    by_cases z : j = t.2
    · rw [z, up_at, if_pos rfl]; exact ⟨hi, hv⟩
    · rw [up_ne _ (Or.inr z), setE_r _ _ _ (by decide)]
      have := h j j0 (by omega)
      refine ⟨this.1, ?_⟩
      split
      · exact hv
      · exact this.2
  · exact h
theorem QV.reach {N B i v : Int} {t : eT} (h : QV N B kd t) (hi : VIx N i) (hv : v ≤ B) : QV N B kd (reachE kd i v t) := by
  unfold reachE
  split
  · exact h.win hi hv
  · exact h
theorem QV.low {N B i x : Int} {t : eT} (h : QV N B kd t) : QV N B kd (up t.1 2 i x, t.2) := fun j j0 j1 => by
  dsimp only at j1 ⊢
  rw [up_ne _ (Or.inl (by decide)), valE_up _ _ _ _ (by decide)]; exact h j j0 j1
theorem QV.lose {N B i v : Int} {t : eT} (h : QV N B kd t) (hi : VIx N i) (hv : v ≤ B) : QV N B kd (loseE kd i v t) := by
  unfold loseE
  split
  · split
    · exact h.low.win hi hv
    · exact h.low
  · exact h
theorem QV.count {N B w b p : Int} {t : eT} (h : QV N B kd t) (hi : VIx N (eIx 0 w b p)) (hB : 0 ≤ B) : QV N B kd (countE F R kd w b p t) := by
  unfold countE
  split
  · exact h
  · split
    · exact h.low.win hi hB
    · exact h.low
theorem QV.mono {N B B' : Int} {t : eT} (h : QV N B kd t) (hB : B ≤ B') : QV N B' kd t := fun j j0 j1 => ⟨(h j j0 j1).1, Int.le_trans (h j j0 j1).2 hB⟩
theorem EB.back {t : eT} {V W its w b p v a : Int} (h : EB t V W) (hv : -2 ≤ v ∧ v ≤ V) (hw : 0 ≤ w ∧ w < 25) (ha : 0 ≤ a ∧ a < 25) (hp : 0 ≤ p ∧ p < 25) : EB (backAt F R kd its w b p v a t) V (W + 1) := by
  unfold backAt
  have h1 : EB (if its ≠ 0 ∧ kgS F R b a = true then loseE kd (eIx 0 w a p) v t else t) V (W + 1) := by
    split
    · exact h.lose ⟨(eIx_r hw ha hp).1, (eIx_r hw ha hp).2.2 rfl⟩ hv
    · exact h.mono (Int.le_refl _) (by omega)
  generalize (if its ≠ 0 ∧ kgS F R b a = true then loseE kd (eIx 0 w a p) v t else t) = t1 at h1 ⊢
  dsimp only
  have h2 : EB (if its = 0 ∧ kgS F R w a = true then reachE kd (eIx 1 a b p) v t1 else t1) V (W + 1) := by
    split
    · exact h1.reach hv
    · exact h1
  generalize (if its = 0 ∧ kgS F R w a = true then reachE kd (eIx 1 a b p) v t1 else t1) = t2 at h2 ⊢
  split
  · exact h2.reach hv
  · exact h2
theorem QV.back {N B : Int} {t : eT} {its w b p v a : Int} (hN : N ≤ 25) (h : QV N B kd t) (hv : v ≤ B) (hw : 0 ≤ w ∧ w < N) (hb : 0 ≤ b ∧ b < N) (ha : 0 ≤ a ∧ a < N) (hp : 0 ≤ p ∧ p < N) : QV N B kd (backAt F R kd its w b p v a t) := by
  unfold backAt
  have h1 : QV N B kd (if its ≠ 0 ∧ kgS F R b a = true then loseE kd (eIx 0 w a p) v t else t) := by
    split
    · exact h.lose (VIx.of hN (Or.inl rfl) hw ha hp) hv
    · exact h
  generalize (if its ≠ 0 ∧ kgS F R b a = true then loseE kd (eIx 0 w a p) v t else t) = t1 at h1 ⊢
  dsimp only
  have h2 : QV N B kd (if its = 0 ∧ kgS F R w a = true then reachE kd (eIx 1 a b p) v t1 else t1) := by
    split
    · exact h1.reach (VIx.of hN (Or.inr rfl) ha hb hp) hv
    · exact h1
  generalize (if its = 0 ∧ kgS F R w a = true then reachE kd (eIx 1 a b p) v t1 else t1) = t2 at h2 ⊢
  split
  · exact h2.reach (VIx.of hN (Or.inr rfl) hw hb ha) hv
  · exact h2
theorem q_back_115 {post : wS → Prop} (h : CC D S o) (hE : EC D S o y) (hB : BG c F R) (h25 : F * R ≤ 25) (hk : 2 ≤ kd ∧ kd ≤ 5) {its w b p v V : Int} (hi : its = 0 ∨ its = 1) (hw : 0 ≤ w ∧ w < F * R) (hb : 0 ≤ b ∧ b < F * R) (hp : 0 ≤ p ∧ p < F * R) (hv : -2 ≤ v ∧ v ≤ V) (hV : V ≤ 100000) :
    ∀ (f d : Nat) (j : Int) (t : eT) (W : Int), d < f → j + d = F * R → 0 ≤ j → EB t V W → 0 ≤ W → W + d ≤ 2000000000 → post (cS (eS S y (runL (backAt F R kd its w b p v) j d t).1) o (qC c (runL (backAt F R kd its w b p v) j d t).2)) →
    wp_X2_stepBack_115 D post f (cS (eS S y t.1) o (qC c t.2)) (o 45) (iI kd) (iI its) (iI p) (iI b) (iI w) (iI v) (zS (kgS F R w)) (zS (kgS F R b)) (zS (pcS F R kd w b p)) (iI j) := by
  have hm := hB.m
  have hBq : ∀ q, BG (qC c q) F R := fun q => (cI_sim c 45 7 q).B (fun m hm => by simp; omega) hB
  intro f
  induction f with
  | zero => intro d j t W hd; omega
  | succ f ih =>
    intro d j t W hd hj j0 hEB W0 hW k
    have h' := ccE h y
    unfold wp_X2_stepBack_115
    refine ⟨o 1, c_r (h' _) rfl, (c_m (h' _) (by decide)).mpr trivial, c_k (h' _) (by decide), ?_⟩
    rw [c_i1 (h' _) (by decide) (show ((2 : Nat) : Int) = 2 from rfl), (hBq t.2).n, iI_le (by omega) (by omega) (by omega) (by omega)]
    refine ⟨fun q => ?_, fun q => ?_⟩
    · rw [show d = 0 by omega] at k; exact k
    · obtain ⟨d, rfl⟩ : ∃ d', d = d' + 1 := ⟨d - 1, by omega⟩
      have hjj : 0 ≤ j ∧ j < F * R := ⟨j0, by omega⟩
      have i0 := eIx_r (its := 0) (w := w) (b := j) (p := p) (by omega) (by omega) (by omega)
      have i1 := eIx_r (its := 1) (w := j) (b := b) (p := p) (by omega) (by omega) (by omega)
      have i2 := eIx_r (its := 1) (w := w) (b := b) (p := j) (by omega) (by omega) (by omega)
      have hb3 := hEB.back (F := F) (R := R) (kd := kd) (its := its) (w := w) (b := b) (p := p) (v := v) (a := j) hv (by omega) (by omega) (by omega)
      -- the end of a turn
      have last : ∀ t' : eT, t' = backAt F R kd its w b p v j t → wp_X2_stepBack_220 D post (wp_X2_stepBack_115 D post f) (cS (eS S y t'.1) o (qC c t'.2)) (o 45) (iI kd) (iI its) (iI p) (iI b) (iI w) (iI v) (zS (kgS F R w)) (zS (kgS F R b)) (zS (pcS F R kd w b p)) (iI j) := by
        intro t' ht
        unfold wp_X2_stepBack_220
        intro x1 e1
        rw [e1, show (1 : Int32) = iI 1 from rfl, iI_add]
        rw [ht]
        exact ih d (j + 1) _ (W + 1) (by omega) (by omega) (by omega) hb3 (by omega) (by omega) k
      -- the piece's way
      have at189 : ∀ t2 : eT, EB t2 V (W + 1) → (if its = 0 ∧ pcS F R kd w b p j = true then reachE kd (eIx 1 w b j) v t2 else t2) = backAt F R kd its w b p v j t → wp_X2_stepBack_189 D post (wp_X2_stepBack_115 D post f) (cS (eS S y t2.1) o (qC c t2.2)) (o 45) (iI kd) (iI its) (iI p) (iI b) (iI w) (iI v) (zS (kgS F R w)) (zS (kgS F R b)) (zS (pcS F R kd w b p)) (iI j) := by
        intro t2 hE2 ht
        unfold wp_X2_stepBack_189
        rw [show (0 : Int32) = iI 0 from rfl, iI_eq (by omega) (by omega) (by decide) (by decide), q_contains _ (by omega), bI_z]
        refine ⟨fun z => last t2 (by rw [← ht, if_neg (fun a => z a.1)]), fun z => ⟨fun u => last t2 (by rw [← ht, if_neg (fun a => by rw [u] at a; exact absurd a.2 (by decide))]), fun u => ?_⟩⟩
        rw [if_pos ⟨z, (Bool.not_eq_false _).mp u⟩] at ht
        rw [show (1 : Int32) = iI 1 from rfl]
        refine q_indexOf (Or.inr rfl) ?_
        have vv := hE2.2.1 ((kd - 2) * 31250 + eIx 1 w b j) (by omega) (by omega)
        refine q_reachE h hE hk (by omega) hE2.1 (by unfold valE; exact ⟨by omega, by omega⟩) ?_
        rw [ht]
        exact last _ rfl
      have at158 : ∀ t1 : eT, EB t1 V (W + 1) → ((fun t2 : eT => if its = 0 ∧ pcS F R kd w b p j = true then reachE kd (eIx 1 w b j) v t2 else t2) (if its = 0 ∧ kgS F R w j = true then reachE kd (eIx 1 j b p) v t1 else t1)) = backAt F R kd its w b p v j t → wp_X2_stepBack_158 D post (wp_X2_stepBack_115 D post f) (cS (eS S y t1.1) o (qC c t1.2)) (o 45) (iI kd) (iI its) (iI p) (iI b) (iI w) (iI v) (zS (kgS F R w)) (zS (kgS F R b)) (zS (pcS F R kd w b p)) (iI j) := by
        intro t1 hE1 ht
        unfold wp_X2_stepBack_158
        rw [show (0 : Int32) = iI 0 from rfl, iI_eq (by omega) (by omega) (by decide) (by decide), q_contains _ (by omega), bI_z]
        refine ⟨fun z => at189 t1 hE1 (by rw [← ht, if_neg (show ¬ (its = 0 ∧ kgS F R w j = true) from fun a => z a.1)]), fun z => ⟨fun u => at189 t1 hE1 (by rw [← ht, if_neg (show ¬ (its = 0 ∧ kgS F R w j = true) from fun a => by rw [u] at a; exact absurd a.2 (by decide))]), fun u => ?_⟩⟩
        rw [if_pos (show its = 0 ∧ kgS F R w j = true from ⟨z, (Bool.not_eq_false _).mp u⟩)] at ht
        rw [show (1 : Int32) = iI 1 from rfl]
        refine q_indexOf (Or.inr rfl) ?_
        have vv := hE1.2.1 ((kd - 2) * 31250 + eIx 1 j b p) (by omega) (by omega)
        refine q_reachE h hE hk (by omega) hE1.1 (by unfold valE; exact ⟨by omega, by omega⟩) ?_
        exact at189 _ (hE1.reach hv) ht
      have unf : backAt F R kd its w b p v j t = ((fun t2 : eT => if its = 0 ∧ pcS F R kd w b p j = true then reachE kd (eIx 1 w b j) v t2 else t2) ((fun t1 : eT => if its = 0 ∧ kgS F R w j = true then reachE kd (eIx 1 j b p) v t1 else t1) (if its ≠ 0 ∧ kgS F R b j = true then loseE kd (eIx 0 w j p) v t else t))) := rfl
      have hE0 := hEB.mono (Int.le_refl V) (show W ≤ W + 1 by omega)
      rw [show (0 : Int32) = iI 0 from rfl, iI_eq (by omega) (by omega) (by decide) (by decide), q_contains _ (by omega), bI_z]
      refine ⟨fun z => at158 t hE0 (by rw [unf, if_neg (show ¬ (its ≠ 0 ∧ kgS F R b j = true) from fun a => a.1 z)]), fun z => ⟨fun u => at158 t hE0 (by rw [unf, if_neg (show ¬ (its ≠ 0 ∧ kgS F R b j = true) from fun a => by rw [u] at a; exact absurd a.2 (by decide))]), fun u => ?_⟩⟩
      refine q_indexOf (Or.inl rfl) ?_
      have vv := hEB.2.1 ((kd - 2) * 31250 + eIx 0 w j p) (by omega) (by omega)
      have ww := hEB.2.2 (eIx 0 w j p) i0.1 (i0.2.2 rfl)
      refine q_loseE h hE hk ⟨i0.1, i0.2.2 rfl⟩ hEB.1 (by unfold valE; exact ⟨by omega, by omega⟩) ⟨by omega, by omega⟩ ?_
      refine at158 _ (hEB.lose ⟨i0.1, i0.2.2 rfl⟩ hv) ?_
      rw [unf, if_pos (show its ≠ 0 ∧ kgS F R b j = true from ⟨z, (Bool.not_eq_false _).mp u⟩)]
theorem q_stepBackE {post : wS → Prop} (h : CC D S o) (hE : EC D S o y) (hB : BG c F R) (h25 : F * R ≤ 25) (hk : 2 ≤ kd ∧ kd ≤ 5) {i V W : Int} (hi : VIx (F * R) i) {t : eT} (hEB : EB t V W) (hV : V ≤ 99999) (hvi : valE kd t.1 i + 1 ≤ V) (hW : 0 ≤ W ∧ W ≤ 1000000000) (k : post (cS (eS S y (backE F R kd i t).1) o (qC c (backE F R kd i t).2))) : wp_X2_stepBack D post (cS (eS S y t.1) o (qC c t.2)) (o 45) (iI kd) (iI i) := by
  have h' := ccE h y
  have hm := hB.m
  obtain ⟨i0, hw, hb, hp⟩ := id hi
  have hBq : ∀ q, BG (qC c q) F R := fun q => (cI_sim c 45 7 q).B (fun m hm => by simp; omega) hB
  have vv := hEB.2.1 ((kd - 2) * 31250 + i) (by omega) (by omega)
  have fin : ∀ x : Int, x = dPl i → wp_X2_stepBack_26 D post (cS (eS S y t.1) o (qC c t.2)) (o 45) (iI kd) (iI i) (iI (dIt i)) (iI x) := by
    intro x hx
    have xr : 0 ≤ x ∧ x < 15625 := by rw [hx]; unfold dPl; split <;> omega
    unfold wp_X2_stepBack_26
    have n25 : ¬ (25 : Int32) = 0 := by decide
    rw [show (25 : Int32) = iI 25 from rfl] at n25 ⊢
    have xd : 0 ≤ x / 25 ∧ x / 25 < 625 := by omega
    rw [iI_rem xr.1 (by omega) (by decide) (by decide), iI_div xr.1 (by omega) (by decide) (by decide), iI_rem xd.1 (by omega) (by decide) (by decide), iI_div xd.1 (by omega) (by decide) (by decide)]
    refine ⟨n25, fun x2 e2 => ⟨n25, n25, fun x5 e5 => ⟨n25, n25, fun x8 e8 => ?_⟩⟩⟩
    have e2 : x2 = iI (dP i) := by rw [e2, hx]; rfl
    have e5 : x5 = iI (dB i) := by rw [e5, hx]; rfl
    have e8 : x8 = iI (dW i) := by rw [e8, hx]; rfl
    rw [e2, e5, e8]
    refine q_valueAtE hE hk i0 ?_
    intro x11 e11
    rw [show (1 : Int32) = iI 1 from rfl, iI_add] at e11
    rw [e11]
    refine ⟨o 1, c_r (h' _) rfl, (c_m (h' _) (by decide)).mpr trivial, c_k (h' _) (by decide), ?_⟩
    rw [show (0 : Int64) = zS (fun _ => false) from zS_f, show (1 : Int32) = iI 1 from rfl]
    refine q_reach (h' _) (hBq _) hw (by decide) ?_
    refine ⟨o 1, c_r (h' _) rfl, (c_m (h' _) (by decide)).mpr trivial, c_k (h' _) (by decide), ?_⟩
    refine q_reach (h' _) (hBq _) hb (by decide) ?_
    refine ⟨o 1, c_r (h' _) rfl, (c_m (h' _) (by decide)).mpr trivial, c_k (h' _) (by decide), ?_⟩
    rw [occ2 (by omega) (by omega)]
    refine q_reach (h' _) (hBq _) hp (by omega) ?_
    refine ⟨(F * R).toNat + 1, ?_⟩
    exact q_back_115 h hE hB h25 hk (its := dIt i) (by unfold dIt; split; exact Or.inr rfl; exact Or.inl rfl) hw hb hp (v := valE kd t.1 i + 1) (V := V) ⟨by unfold valE; omega, hvi⟩ (by omega) _ (F * R).toNat 0 t W (by omega) (by omega) (by decide) hEB hW.1 (by omega) k
  unfold wp_X2_stepBack wp_X2_stepBack_0 wp_X2_stepBack_12
  rw [show (15625 : Int32) = iI 15625 from rfl, iI_sub, iI_lt (by omega) (by omega) (by decide) (by decide)]
  have dt : ∀ z : Int, z = dIt i → iI z = iI (dIt i) := fun z e => by rw [e]
  refine ⟨fun q => ⟨fun _ => ?_, fun z => absurd rfl z⟩, fun q => ⟨fun z => absurd z (by decide), fun _ => ?_⟩⟩
  · have := fin i (by unfold dPl; rw [if_neg (by omega)])
    rw [show dIt i = 0 by unfold dIt; rw [if_neg (by omega)]] at this
    exact this
  · have := fin (i - 15625) (by unfold dPl; rw [if_pos (by omega)])
    rw [show dIt i = 1 by unfold dIt; rw [if_pos (by omega)]] at this
    exact this
/-- the steps back, one won position behind the other -/
def workL (F R kd : Int) : Nat → Int → eT → eT
  | 0, _, t => t
  | f + 1, i, t => if t.2 ≤ i ∨ 31250 ≤ i then t else workL F R kd f (i + 1) (backE F R kd (t.1 1 i) t)
theorem runL_inv3 {T : Type} (P : Int → T → Prop) (f : Int → T → T) : ∀ (d : Nat) (k : Int) (t : T), (∀ j t, k ≤ j → j < k + d → P j t → P (j + 1) (f j t)) → P k t → P (k + d) (runL f k d t) := by
  intro d
  induction d with
  | zero => intro k t _ ht; rw [show k + ((0 : Nat) : Int) = k by omega]; exact ht
  | succ d ih =>
    intro k t h ht
    have := ih (k + 1) (f k t) (fun j t a b => h j t (by omega) (by omega)) (h k t (by omega) (by omega) ht)
    rw [show k + 1 + (d : Int) = k + ((d + 1 : Nat) : Int) by omega] at this
    exact this
theorem back_EB {i V W B : Int} (h25 : F * R ≤ 25) (h0 : 0 ≤ F * R) (hk : 2 ≤ kd ∧ kd ≤ 5) (hi : VIx (F * R) i) {t : eT} (hEB : EB t V W) (hQ : QV (F * R) B kd t) (hvi : valE kd t.1 i ≤ B) (hBV : B + 1 ≤ V) : EB (backE F R kd i t) V (W + 25) ∧ QV (F * R) (B + 1) kd (backE F R kd i t) := by
  obtain ⟨i0, hw, hb, hp⟩ := id hi
  have vv := hEB.2.1 ((kd - 2) * 31250 + i) (by omega) (by omega)
  have vl : -2 ≤ valE kd t.1 i := by unfold valE; exact vv.1
  have := runL_inv3 (P := fun j t => EB t V (W + j) ∧ QV (F * R) (B + 1) kd t) (backAt F R kd (dIt i) (dW i) (dB i) (dP i) (valE kd t.1 i + 1)) (F * R).toNat 0 t (fun j t' j0 j1 ht => ?_) ⟨hEB.mono (by omega) (by omega), hQ.mono (by omega)⟩
  · exact ⟨this.1.mono (Int.le_refl _) (by omega), this.2⟩
  · refine ⟨?_, ht.2.back h25 (by omega) hw hb ⟨j0, by omega⟩ hp⟩
    have := ht.1.back (F := F) (R := R) (kd := kd) (its := dIt i) (w := dW i) (b := dB i) (p := dP i) (v := valE kd t.1 i + 1) (a := j) (by omega) (by omega) (by omega) (by omega)
    exact this.mono (Int.le_refl _) (by omega)
/-- the value of the last won position, -1 if there is none -/
def grtE (kd : Int) (t : eT) : Int := if t.2 - 1 < 0 then -1 else valE kd t.1 (t.1 1 (t.2 - 1))
def wrkM (c : cM) (kd : Int) (t : eT) : cM := cI (cI (cI (qC c t.2) 46 kd 1) 47 kd t.2) 48 kd (grtE kd t)
theorem q_work_118 {post : wS → Prop} {bc bs : Nat} (h : CC D S o) (hE : EC D S o y) (hk : 2 ≤ kd ∧ kd ≤ 5) {N B : Int} {t : eT} (hq : 0 ≤ t.2 ∧ t.2 ≤ 31250) (hQ : QV N B kd t) (k : post (cS (eS S y t.1) o (wrkM c kd t))) : wp_X2_workOut_118 D post bc bs (cS (eS S y t.1) o (qC c t.2)) (o 45) (iI kd) := by
  have h' := ccE h y
  unfold wp_X2_workOut_118 wp_X2_workOut_174 wp_X2_workOut_175
  have n6 : ∀ c (n : Nat), n = 46 ∨ n = 47 ∨ n = 48 → vp_in (iI kd) (sN (cS (eS S y t.1) o c) (o n)) := fun c n hn => by
    rw [c_n (h' _) (by omega)]
    exact iI_in (by omega) (by omega) (by rcases hn with rfl | rfl | rfl <;> (show kd < ((6 : Nat) : Int); omega))
  refine ⟨o 46, c_r (h' _) rfl, (c_m (h' _) (by decide)).mpr trivial, c_k (h' _) (by decide), (c_l (h' _) (by decide)).mpr trivial, n6 _ 46 (by simp), fun S3 e3 => ?_⟩
  rw [show vp_nar .boolean (1 : Int32) = iI 1 from by decide, c_u (h' _) (by decide) (by omega) (by omega)] at e3
  rw [e3]
  refine ⟨o 47, c_r (h' _) rfl, (c_m (h' _) (by decide)).mpr trivial, c_k (h' _) (by decide), (c_l (h' _) (by decide)).mpr trivial, n6 _ 47 (by simp), fun S6 e6 => ?_⟩
  have e7 : ∀ (n : Nat) (x z : Int) (c' : cM), n ≠ 45 → c'.1 45 7 = z → sI (cS (eS S y t.1) o (cI c' n kd x)) (o 45) 7 = iI z := fun n x z c' hn hz => by
    rw [c_i1 (h' _) (by decide) (show ((7 : Nat) : Int) = 7 from rfl), cI_1, up_ne _ (Or.inl (fun e => hn e.symm)), hz]
  have q7 : (qC c t.2).1 45 7 = t.2 := by rw [cI_1, up_at]
  rw [e7 46 1 t.2 _ (by decide) q7, c_u (h' _) (by decide) (by omega) (by omega)] at e6
  rw [e6]
  intro x7 ex7
  have q8 : (cI (qC c t.2) 46 kd 1).1 45 7 = t.2 := by rw [cI_1, up_ne _ (Or.inl (by decide))]; exact q7
  rw [e7 47 t.2 t.2 _ (by decide) q8, show (1 : Int32) = iI 1 from rfl, iI_sub] at ex7
  rw [ex7]
  refine ⟨o 48, c_r (h' _) rfl, (c_m (h' _) (by decide)).mpr trivial, c_k (h' _) (by decide), ?_⟩
  have fin : ∀ z : Int, z = grtE kd t → o 48 ∈ sL (cS (eS S y t.1) o (cI (cI (qC c t.2) 46 kd 1) 47 kd t.2)) ∧ vp_in (iI kd) (sN (cS (eS S y t.1) o (cI (cI (qC c t.2) 46 kd 1) 47 kd t.2)) (o 48)) ∧ ∀ S_2 : wS, S_2 = uI (cS (eS S y t.1) o (cI (cI (qC c t.2) 46 kd 1) 47 kd t.2)) (o 48) (iI kd).toNatClampNeg (iI z) → post S_2 := fun z hz => by
    refine ⟨(c_l (h' _) (by decide)).mpr trivial, n6 _ 48 (by simp), fun S2 e2 => ?_⟩
    rw [c_u (h' _) (by decide) (by omega) (by omega)] at e2
    rw [e2, hz]; exact k
  have r1 := hE.r (e := t.1) (c := cI (cI (qC c t.2) 46 kd 1) 47 kd t.2) (k := 1) (by decide)
  have n1 : sN (cS (eS S y t.1) o (cI (cI (qC c t.2) 46 kd 1) 47 kd t.2)) (y 1) = 31250 := hE.n (by decide)
  rw [show (0 : Int32) = iI 0 from rfl, show (-1 : Int32) = iI (-1) from rfl, iI_lt (by omega) (by omega) (by decide) (by decide)]
  unfold grtE at fin
  refine ⟨fun q => fin (-1) (by rw [if_pos q]), fun q => ⟨y 1, r1.1, r1.2.1, r1.2.2, ?_⟩⟩
  rw [n1, show Int32.ofNat 31250 = iI 31250 from rfl, iI_le (by decide) (by decide) (by omega) (by omega)]
  refine ⟨fun z => absurd z (by omega), fun _ => ⟨y 1, r1.1, r1.2.1, r1.2.2, by rw [n1]; exact iI_in (by omega) (by omega) (by omega), ?_⟩⟩
  rw [e_i hE (by decide) (by omega) (by omega)]
  refine q_valueAtE hE hk (hQ (t.2 - 1) (by omega) (by omega)).1.1 ?_
  exact fin _ (by rw [if_neg q])
theorem q_work_84 {post : wS → Prop} {bc bs : Nat} {W0 : Int} (hW0 : 0 ≤ W0 ∧ W0 ≤ 500000000) (h : CC D S o) (hE : EC D S o y) (hB : BG c F R) (h25 : F * R ≤ 25) (hk : 2 ≤ kd ∧ kd ≤ 5) :
    ∀ (f : Nat) (i : Int) (t : eT), 0 ≤ i → i ≤ 31250 → i + f = 31251 → EB t 40000 (W0 + 25 * i) → QV (F * R) i kd t → post (cS (eS S y (workL F R kd f i t).1) o (wrkM c kd (workL F R kd f i t))) →
    wp_X2_workOut_84 D post f bc bs (cS (eS S y t.1) o (qC c t.2)) (o 45) (iI kd) (iI i) := by
  have hm := hB.m
  intro f
  induction f with
  | zero => intro i t i0 i1 hi; omega
  | succ f ih =>
    intro i t i0 i1 hi hEB hQ k
    have h' := ccE h y
    have hq := hEB.1
    unfold wp_X2_workOut_84
    have e7 : sI (cS (eS S y t.1) o (qC c t.2)) (o 45) 7 = iI t.2 := by rw [c_i1 (h' _) (by decide) (show ((7 : Nat) : Int) = 7 from rfl), cI_1, up_at]
    rw [e7, iI_le (by omega) (by omega) (by omega) (by omega)]
    have r1 := hE.r (e := t.1) (c := qC c t.2) (k := 1) (by decide)
    have n1 : sN (cS (eS S y t.1) o (qC c t.2)) (y 1) = 31250 := hE.n (by decide)
    unfold workL at k
    refine ⟨fun q => ?_, fun q => ⟨y 1, r1.1, r1.2.1, r1.2.2, ?_⟩⟩
    · rw [if_pos (Or.inl q)] at k
      exact q_work_118 h hE hk hq hQ k
    rw [n1, show Int32.ofNat 31250 = iI 31250 from rfl, iI_le (by decide) (by decide) (by omega) (by omega)]
    refine ⟨fun z => absurd z (by omega), fun z => ⟨y 1, r1.1, r1.2.1, r1.2.2, by rw [n1]; exact iI_in (by omega) (by omega) (by omega), ?_⟩⟩
    rw [if_neg (by omega)] at k
    have vx := hQ i i0 (by omega)
    have be := back_EB (F := F) (R := R) (kd := kd) h25 (by omega) hk vx.1 hEB hQ vx.2 (by omega)
    rw [e_i hE (by decide) i0 (by omega)]
    refine q_stepBackE h hE hB h25 hk vx.1 hEB (by omega) (by have := vx.2; omega) ⟨by omega, by omega⟩ ?_
    intro x8 e8
    rw [e8, show (1 : Int32) = iI 1 from rfl, iI_add]
    exact ih (i + 1) _ (by omega) (by omega) (by omega) (be.1.mono (Int.le_refl _) (by omega)) be.2 k
end
