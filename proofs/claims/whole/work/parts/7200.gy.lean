/-! PHASE 3: an ending worked out -/
section
variable {D : wD} {S : wS} {o : Nat → Nat} {y : Nat → Nat} {c : cM} {F R kd : Int}
/-- all places of three pieces -/
theorem q_forEach {post : wS → Prop} (h : CC D S o) (hB : BG c F R) (h25 : F * R ≤ 25) {its : Int} (hi : its = 0 ∨ its = 1) (g : Int → Int → Int → eT → eT) (P : eT → Prop)
    (hP : ∀ w b p t, 0 ≤ w ∧ w < F * R → 0 ≤ b ∧ b < F * R → 0 ≤ p ∧ p < F * R → P t → P (g w b p t))
    (hs : ∀ w b p t, 0 ≤ w ∧ w < F * R → 0 ≤ b ∧ b < F * R → 0 ≤ p ∧ p < F * R → P t → ∀ k : wS → Prop, k (cS (eS S y (g w b p t).1) o (qC c (g w b p t).2)) → (its = 0 → wp_X2_countMovesOfBlack D k (cS (eS S y t.1) o (qC c t.2)) (o 45) (iI kd) (iI w) (iI b) (iI p)) ∧ (its = 1 → wp_X2_mark D k (cS (eS S y t.1) o (qC c t.2)) (o 45) (iI kd) (iI w) (iI b) (iI p)))
    {t : eT} (ht : P t) (k : post (cS (eS S y (forE (F * R) g t).1) o (qC c (forE (F * R) g t).2))) : wp_X2_forEachPlace D post (cS (eS S y t.1) o (qC c t.2)) (o 45) (iI kd) (iI its) := by
  have h' := ccE h y
  have hm := hB.m
  have l34 : ∀ (k16 : wS → Nat → Int32 → Int32 → Int32 → Int32 → Prop) (k25 : wS → Nat → Int32 → Int32 → Int32 → Int32 → Int32 → Prop) (w b : Int), 0 ≤ w ∧ w < F * R → 0 ≤ b ∧ b < F * R → ∀ (f d : Nat) (p : Int) (t : eT), d < f → p + d = F * R → 0 ≤ p → P t →
      k25 (cS (eS S y (runL (fun p => g w b p) p d t).1) o (qC c (runL (fun p => g w b p) p d t).2)) (o 45) (iI kd) (iI its) (iI (F * R)) (iI w) (iI (b + 1)) → wp_X2_forEachPlace_34 D post k16 k25 f (cS (eS S y t.1) o (qC c t.2)) (o 45) (iI kd) (iI its) (iI (F * R)) (iI w) (iI b) (iI p) := by
    intro k16 k25 w b hw hb f
    induction f with
    | zero => intro d p t hd; omega
    | succ f ih =>
      intro d p t hd hp p0 hPt k
      unfold wp_X2_forEachPlace_34
      rw [iI_le (by omega) (by omega) (by omega) (by omega), show (0 : Int32) = iI 0 from rfl, iI_eq (a := its) (by omega) (by omega) (by decide) (by decide)]
      refine ⟨fun q x2 e2 => ?_, fun q => ?_⟩
      · rw [show d = 0 by omega] at k
        rw [e2, show (1 : Int32) = iI 1 from rfl, iI_add]; exact k
      · obtain ⟨d, rfl⟩ : ∃ d', d = d' + 1 := ⟨d - 1, by omega⟩
        have hpp : 0 ≤ p ∧ p < F * R := ⟨p0, by omega⟩
        have nx : wp_X2_forEachPlace_69 D post k16 k25 (wp_X2_forEachPlace_34 D post k16 k25 f) (cS (eS S y (g w b p t).1) o (qC c (g w b p t).2)) (o 45) (iI kd) (iI its) (iI (F * R)) (iI w) (iI b) (iI p) := by
          unfold wp_X2_forEachPlace_69
          intro x1 e1
          rw [e1, show (1 : Int32) = iI 1 from rfl, iI_add]
          exact ih d (p + 1) _ (by omega) (by omega) (by omega) (hP w b p t hw hb hpp hPt) k
        have st := hs w b p t hw hb hpp hPt (fun S' => wp_X2_forEachPlace_69 D post k16 k25 (wp_X2_forEachPlace_34 D post k16 k25 f) S' (o 45) (iI kd) (iI its) (iI (F * R)) (iI w) (iI b) (iI p)) nx
        exact ⟨fun z => st.1 z, fun z => st.2 (by omega)⟩
  have l25 : ∀ (k16 : wS → Nat → Int32 → Int32 → Int32 → Int32 → Prop) (w : Int), 0 ≤ w ∧ w < F * R → ∀ (f d : Nat) (b : Int) (t : eT), d < f → b + d = F * R → 0 ≤ b → P t →
      k16 (cS (eS S y (runL (fun b => runL (fun p => g w b p) 0 (F * R).toNat) b d t).1) o (qC c (runL (fun b => runL (fun p => g w b p) 0 (F * R).toNat) b d t).2)) (o 45) (iI kd) (iI its) (iI (F * R)) (iI (w + 1)) → wp_X2_forEachPlace_25 D post k16 f (cS (eS S y t.1) o (qC c t.2)) (o 45) (iI kd) (iI its) (iI (F * R)) (iI w) (iI b) := by
    intro k16 w hw f
    induction f with
    | zero => intro d b t hd; omega
    | succ f ih =>
      intro d b t hd hb b0 hPt k
      unfold wp_X2_forEachPlace_25
      rw [iI_le (by omega) (by omega) (by omega) (by omega)]
      refine ⟨fun q x2 e2 => ?_, fun q => ?_⟩
      · rw [show d = 0 by omega] at k
        rw [e2, show (1 : Int32) = iI 1 from rfl, iI_add]; exact k
      · obtain ⟨d, rfl⟩ : ∃ d', d = d' + 1 := ⟨d - 1, by omega⟩
        refine ⟨(F * R).toNat + 1, ?_⟩
        rw [show (0 : Int32) = iI 0 from rfl]
        refine l34 k16 _ w b hw ⟨b0, by omega⟩ ((F * R).toNat + 1) (F * R).toNat 0 t (by omega) (by omega) (by decide) hPt ?_
        refine ih d (b + 1) _ (by omega) (by omega) (by omega) ?_ k
        exact runL_inv3 (P := fun _ t => P t) _ _ 0 t (fun p t p0 p1 hh => hP w b p t hw ⟨b0, by omega⟩ ⟨p0, by omega⟩ hh) hPt
  have l16 : ∀ (f d : Nat) (w : Int) (t : eT), d < f → w + d = F * R → 0 ≤ w → P t →
      post (cS (eS S y (runL (fun w => runL (fun b => runL (fun p => g w b p) 0 (F * R).toNat) 0 (F * R).toNat) w d t).1) o (qC c (runL (fun w => runL (fun b => runL (fun p => g w b p) 0 (F * R).toNat) 0 (F * R).toNat) w d t).2)) → wp_X2_forEachPlace_16 D post f (cS (eS S y t.1) o (qC c t.2)) (o 45) (iI kd) (iI its) (iI (F * R)) (iI w) := by
    intro f
    induction f with
    | zero => intro d w t hd; omega
    | succ f ih =>
      intro d w t hd hw w0 hPt k
      unfold wp_X2_forEachPlace_16
      rw [iI_le (by omega) (by omega) (by omega) (by omega)]
      refine ⟨fun q => ?_, fun q => ?_⟩
      · rw [show d = 0 by omega] at k; exact k
      · obtain ⟨d, rfl⟩ : ∃ d', d = d' + 1 := ⟨d - 1, by omega⟩
        refine ⟨(F * R).toNat + 1, ?_⟩
        rw [show (0 : Int32) = iI 0 from rfl]
        refine l25 _ w ⟨w0, by omega⟩ ((F * R).toNat + 1) (F * R).toNat 0 t (by omega) (by omega) (by decide) hPt ?_
        refine ih d (w + 1) _ (by omega) (by omega) (by omega) ?_ k
        exact runL_inv3 (P := fun _ t => P t) _ _ 0 t (fun b t b0 b1 hh => runL_inv3 (P := fun _ t => P t) _ _ 0 t (fun p t p0 p1 hh => hP w b p t ⟨w0, by omega⟩ ⟨b0, by omega⟩ ⟨p0, by omega⟩ hh) hh) hPt
  unfold wp_X2_forEachPlace wp_X2_forEachPlace_0
  refine ⟨o 1, c_r (h' _) rfl, (c_m (h' _) (by decide)).mpr trivial, c_k (h' _) (by decide), fun x2 e2 => ?_⟩
  have eN : sI (cS (eS S y t.1) o (qC c t.2)) (o 1) 2 = iI (F * R) := by rw [c_i1 (h' _) (by decide) (show ((2 : Nat) : Int) = 2 from rfl), ((cI_sim c 45 7 t.2).B (fun m hm => by simp; omega) hB).n]
  have e2 : x2 = iI (F * R) := by
    rw [e2, eN, show (25 : Int32) = iI 25 from rfl]
    exact if_neg (fun z => absurd ((iI_lt (by decide) (by decide) (by omega) (by omega)).mp z) (by omega))
  rw [e2]
  refine ⟨(F * R).toNat + 1, ?_⟩
  exact l16 ((F * R).toNat + 1) (F * R).toNat 0 t (by omega) (by omega) (by decide) ht k
/-- all that working out an ending does to the rows -/
def solveE (F R kd : Int) (e : xM) : eT := workL F R kd 31251 0 (forE (F * R) (countE F R kd) (forE (F * R) (markE F R kd) (e, 0)))
def e0S (S : wS) (y : Nat → Nat) : xM := fun k a => (sI S (y k) a.toNat).toInt
theorem eS_self (S : wS) (y : Nat → Nat) : eS S y (e0S S y) = S := by
  have : (eS S y (e0S S y)).2.2.2.1 = S.2.2.2.1 := by
    funext a j
    show (if a = y 0 then iI (e0S S y 0 (j : Int)) else if a = y 1 then iI (e0S S y 1 (j : Int)) else if a = y 2 then iI (e0S S y 2 (j : Int)) else S.2.2.2.1 a j) = S.2.2.2.1 a j
    have e : ∀ k, iI (e0S S y k (j : Int)) = S.2.2.2.1 (y k) j := fun k => by unfold e0S; rw [Int.toNat_natCast]; exact iI_of _
    split
    · rename_i z; rw [e 0, z]
    split
    · rename_i z; rw [e 1, z]
    split
    · rename_i z; rw [e 2, z]
    · rfl
  show (S.1, S.2.1, S.2.2.1, (eS S y (e0S S y)).2.2.2.1, S.2.2.2.2.1, S.2.2.2.2.2) = S
  rw [this]
theorem q_work_65 {post : wS → Prop} {bc bs : Nat} {W0 : Int} (hW0 : 0 ≤ W0 ∧ W0 ≤ 500000000) (h : CC D S o) (hE : EC D S o y) (hB : BG c F R) (h25 : F * R ≤ 25) (hk : 2 ≤ kd ∧ kd ≤ 5) {e : xM} (hEB : EB (e, 0) 40000 W0) (k : post (cS (eS S y (solveE F R kd e).1) o (wrkM c kd (solveE F R kd e)))) : wp_X2_workOut_65 D post bc bs (cS (eS S y e) o c) (o 45) (iI kd) := by
  have h' := ccE h y
  have hm := hB.m
  unfold wp_X2_workOut_65
  intro S1 e1
  rw [show (0 : Int32) = iI 0 from rfl, c_u1 (h' _) (by decide) (show ((7 : Nat) : Int) = 7 from rfl)] at e1
  rw [e1]
  have hm1 : ∀ w b p t, 0 ≤ w ∧ w < F * R → 0 ≤ b ∧ b < F * R → 0 ≤ p ∧ p < F * R → (EB t 40000 W0 ∧ t.2 = 0) → (EB (markE F R kd w b p t) 40000 W0 ∧ (markE F R kd w b p t).2 = 0) := fun w b p t _ _ _ ht => ⟨ht.1.mark (by decide), ht.2⟩
  have inv1 : EB (forE (F * R) (markE F R kd) (e, 0)) 40000 W0 ∧ (forE (F * R) (markE F R kd) (e, 0)).2 = 0 :=
    runL_inv3 (P := fun _ (t : eT) => EB t 40000 W0 ∧ t.2 = 0) _ _ 0 (e, 0) (fun w t w0 w1 hh => runL_inv3 (P := fun _ (t : eT) => EB t 40000 W0 ∧ t.2 = 0) _ _ 0 t (fun b t b0 b1 hh => runL_inv3 (P := fun _ (t : eT) => EB t 40000 W0 ∧ t.2 = 0) _ _ 0 t (fun p t p0 p1 hh => hm1 w b p t ⟨w0, by omega⟩ ⟨b0, by omega⟩ ⟨p0, by omega⟩ hh) hh) hh) ⟨hEB, rfl⟩
  refine q_forEach (t := (e, 0)) h hB h25 (Or.inr rfl) (markE F R kd) (fun t => EB t 40000 W0 ∧ t.2 = 0) hm1 (fun w b p t hw hb hp ht k kk => ⟨fun z => absurd z (by decide), fun _ => q_markE h hE hB h25 hk hw hb hp kk⟩) ⟨hEB, rfl⟩ ?_
  unfold solveE at k
  generalize forE (F * R) (markE F R kd) (e, 0) = t1 at inv1 k ⊢
  have q1 : QV (F * R) 0 kd t1 := fun j j0 j1 => by rw [inv1.2] at j1; omega
  have hm2 : ∀ w b p t, 0 ≤ w ∧ w < F * R → 0 ≤ b ∧ b < F * R → 0 ≤ p ∧ p < F * R → (EB t 40000 W0 ∧ QV (F * R) 0 kd t) → (EB (countE F R kd w b p t) 40000 W0 ∧ QV (F * R) 0 kd (countE F R kd w b p t)) := fun w b p t hw hb hp ht => ⟨ht.1.count (by decide) hW0.1 h25, ht.2.count (VIx.of h25 (Or.inl rfl) hw hb hp) (by decide)⟩
  have inv2 : EB (forE (F * R) (countE F R kd) t1) 40000 W0 ∧ QV (F * R) 0 kd (forE (F * R) (countE F R kd) t1) :=
    runL_inv3 (P := fun _ (t : eT) => EB t 40000 W0 ∧ QV (F * R) 0 kd t) _ _ 0 t1 (fun w t w0 w1 hh => runL_inv3 (P := fun _ (t : eT) => EB t 40000 W0 ∧ QV (F * R) 0 kd t) _ _ 0 t (fun b t b0 b1 hh => runL_inv3 (P := fun _ (t : eT) => EB t 40000 W0 ∧ QV (F * R) 0 kd t) _ _ 0 t (fun p t p0 p1 hh => hm2 w b p t ⟨w0, by omega⟩ ⟨b0, by omega⟩ ⟨p0, by omega⟩ hh) hh) hh) ⟨inv1.1, q1⟩
  refine q_forEach (t := t1) h hB h25 (Or.inl rfl) (countE F R kd) (fun t => EB t 40000 W0 ∧ QV (F * R) 0 kd t) hm2 (fun w b p t hw hb hp ht k kk => ⟨fun _ => q_countE h hE hB h25 hk hw hb hp ht.1 (by decide) kk, fun z => absurd z (by decide)⟩) ⟨inv1.1, q1⟩ ?_
  refine ⟨31251, ?_⟩
  rw [show (0 : Int32) = iI 0 from rfl]
  exact q_work_84 hW0 h hE hB h25 hk 31251 0 _ (by decide) (by decide) (by decide) (inv2.1.mono (Int.le_refl _) (by omega)) inv2.2 k
/-- a row made and kept at the endings -/
theorem al_step (h : CC D S o) {f z n : Nat} (hf : 4 ≤ f) (hz : ¬ wM D (cS S o c) z) {U : wS} (hU : U = uR (nA (cS S o c) z 21 n) (o 45) f (some z)) : CC D U o ∧ U = cS U o c ∧ EX D (cS S o c) U [o 45] ∧ (z ∈ sL U ∧ sK U z = 21 ∧ sN U z = n ∧ sI U z = fun _ => 0) ∧ sR U (o 45) f = some z ∧ (∀ k, k ≠ f → sR U (o 45) k = sR S (o 45) k) ∧ ∀ k, k < 52 → o k ≠ z := by
  have hM : ∀ k, k < 52 → wM D (cS S o c) (o k) := fun k hk => (c_m h hk).mpr trivial
  have ne : ∀ k, k < 52 → o k ≠ z := fun k hk e => hz (e ▸ hM k hk)
  have rk : ∀ k, k ≠ f → sR U (o 45) k = sR S (o 45) k := fun k hk => by
    rw [hU, uR_j _ _ _ hk, nA_r _ _ _ (ne 45 (by decide))]; rfl
  have hEX : EX D (cS S o c) U [o 45] := by
    rw [hU]
    exact (EX.rf.nA hz 21 n).uR (fun _ => by simp) f (some z)
  have hc : CC D U o := by
    refine ⟨fun k hk => ⟨hEX.L ((c_l (c := c) h hk).mpr trivial), ?_, ?_⟩, h.2.1, fun k g j hj => ?_⟩
    · rw [hEX.k (hM k hk), c_k h hk]
    · rw [hEX.n (hM k hk), c_n h hk]
    · have q := sfr_cOk k g j hj
      by_cases e : k = 45
      · subst e
        have g4 : g < 4 := by
          unfold sfr at hj
          revert hj
          rcases g with _ | _ | _ | _ | g
          · intro; decide
          · intro; decide
          · intro; decide
          · intro; decide
          · intro hj; exact absurd hj (by simp)
        rw [rk g (by omega)]
        exact h.2.2 45 g j hj
      · rw [hEX.r (hM k q.2.1) (by simp; exact fun z => e (h.2.1 k q.2.1 45 (by decide) z)), c_r h hj]
  have hself : U = cS U o c := by
    have e1 : U.2.2.2.1 = (cS U o c).2.2.2.1 := by
      funext a j
      show _ = (match cRow o a with | some n => iI (c.1 n (j : Int)) | none => U.2.2.2.1 a j)
      cases hq : cRow o a with
      | none => rfl
      | some g =>
        have h2 := List.find?_some hq
        have h3 := List.mem_of_find?_eq_some hq
        have hg : cOk g = true := by simpa [cOk] using h3
        have ha : o g = a := by simpa using h2
        dsimp only
        rw [← ha, ← c_i0 h hg j]
        rw [hU]
        exact congrFun (nA_i (cS S o c) 21 n (ne g (cOk_lt hg))) j
    have e2 : U.2.2.2.2.1 = (cS U o c).2.2.2.2.1 := by
      funext a j
      show _ = (match cRow o a with | some n => c.2 n (j : Int) | none => U.2.2.2.2.1 a j)
      cases hq : cRow o a with
      | none => rfl
      | some g =>
        have h2 := List.find?_some hq
        have h3 := List.mem_of_find?_eq_some hq
        have hg : cOk g = true := by simpa [cOk] using h3
        have ha : o g = a := by simpa using h2
        dsimp only
        rw [← ha, ← c_j0 h hg j]
        rw [hU]
        exact congrFun (show sJ (nA (cS S o c) z 21 n) (o g) = sJ (cS S o c) (o g) from va_up_ne _ _ (ne g (cOk_lt hg))) j
    show _ = (U.1, U.2.1, U.2.2.1, (cS U o c).2.2.2.1, (cS U o c).2.2.2.2.1, U.2.2.2.2.2)
    rw [← e1, ← e2]
  refine ⟨hc, hself, hEX, ⟨?_, ?_, ?_, ?_⟩, ?_, rk, ne⟩
  · rw [hU]; exact nA_l (cS S o c) z 21 n
  · rw [hU]; exact nA_k (cS S o c) z 21 n
  · rw [hU]; exact nA_n (cS S o c) z 21 n
  · rw [hU]; exact va_up_self _ _ _
  · rw [hU]; exact uR_self _ _ _ _
end
