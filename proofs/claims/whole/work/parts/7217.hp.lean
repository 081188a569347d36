section
variable {F R : Int} {m : xM} {s : Int} {l : Nat} {n : Int → Int} {w : Int → Int → Int → Int} {mv : Int → Int → Mv} {inf : Int → Nat → Int} {v : Int → Int}
theorem mTo_in {t : Mv} (hl : legB F R v t.1 t.2.1 = true) (hb : t ∈ bec4 t.1 t.2.1 (becB F R v t.1 t.2.1)) : ∀ (d : Nat) (b : Int), b ≤ t.2.1 → t.2.1 < b + d → t ∈ mTo F R v t.1 b d
  | 0, b, h1, h2 => by omega
  | d + 1, b, h1, h2 => by
    rw [show mTo F R v t.1 b (d + 1) = (if legB F R v t.1 b = true then bec4 t.1 b (becB F R v t.1 b) else []) ++ mTo F R v t.1 (b + 1) d from rfl, List.mem_append]
    by_cases c : b = t.2.1
    · left; rw [c, if_pos hl]; exact hb
    · exact .inr (mTo_in hl hb d (b + 1) (by omega) (by omega))
theorem mFrom_in {t : Mv} (ho : isOfB (v t.1) (v 64) = true) (hm : t ∈ mTo F R v t.1 0 (F * R).toNat) : ∀ (d : Nat) (a : Int), a ≤ t.1 → t.1 < a + d → t ∈ mFrom F R v a d
  | 0, a, h1, h2 => by omega
  | d + 1, a, h1, h2 => by
    rw [show mFrom F R v a (d + 1) = (if isOfB (v a) (v 64) = true then mTo F R v a 0 (F * R).toNat else []) ++ mFrom F R v (a + 1) d from rfl, List.mem_append]
    by_cases c : a = t.1
    · left; rw [c, if_pos ho]; exact hm
    · exact .inr (mFrom_in ho hm d (a + 1) (by omega) (by omega))
/-- a legal move is one of the list -/
theorem movesL_in {t : Mv} (h : okMv F R v t) : t ∈ movesL F R v := by
  obtain ⟨⟨a0, a1⟩, ⟨b0, b1⟩, ⟨c0, c1⟩, ho, hl, hc⟩ := h
  refine mFrom_in ho (mTo_in hl ?_ _ _ b0 (by omega)) _ _ a0 (by omega)
  obtain ⟨x, y, z⟩ := t
  simp only at hc c0 c1 ⊢
  cases hb : becB F R v x y
  · rw [hb, if_neg (by simp)] at hc
    rw [hc]; exact List.mem_singleton.mpr rfl
  · rw [hb, if_pos rfl] at hc
    unfold bec4
    rcases (show z = 2 ∨ z = 3 ∨ z = 4 ∨ z = 5 by omega) with rfl | rfl | rfl | rfl <;> simp
theorem same_eq {v w : Int → Int} (hv : clV v) (hw : clV w) (h : sameB v w = true) : v = w := by
  rw [same_iff] at h
  funext k
  by_cases c : 0 ≤ k ∧ k < 67
  · by_cases d : k < 64
    · exact h.1 k c.1 d
    · rcases (show k = 64 ∨ k = 65 ∨ k = 66 by omega) with rfl | rfl | rfl
      · exact h.2.1
      · exact h.2.2.1
      · exact h.2.2.2
  · rw [hv k c, hw k c]
theorem codeT_inj {t u : Mv} (ht : mOK t) (hu : mOK u) (h : codeT t = codeT u) : t = u := by
  obtain ⟨a, b, c⟩ := t
  obtain ⟨x, y, z⟩ := u
  unfold codeT at h
  unfold mOK at ht hu
  dsimp only at h ht hu ⊢
  have e : a = x ∧ b = y ∧ c = z := by omega
  rw [e.1, e.2.1, e.2.2]
theorem getD_memL {L : List Mv} {i : Int} (hi : 0 ≤ i ∧ i < L.length) : L.getD i.toNat (0, 0, 0) ∈ L := by
  rw [getD_el (by omega)]
  exact List.getElem_mem _
/-- the place of a move of the list, by its number -/
theorem nid_at (h64 : 0 ≤ F * R ∧ F * R ≤ 64) {t : Mv} (ht : t ∈ movesL F R v) {i : Int} (hi : 0 ≤ i ∧ i < (movesL F R v).length) : decide (nidC F R v (mcode t) = i) = decide (codeT t = codeT ((movesL F R v).getD i.toNat (0, 0, 0))) := by
  have mo : ∀ u ∈ movesL F R v, mOK u := fun u hu => (movesL_mem h64.1 hu).m h64.2
  obtain ⟨q, hq, eq⟩ := List.mem_iff_getElem.mp ht
  have ej : (movesL F R v).getD ((q : Nat) : Int).toNat (0, 0, 0) = t := by rw [Int.toNat_natCast, getD_el hq]; exact eq
  have e1 : nidC F R v (mcode t) = (q : Int) := by
    unfold nidC
    refine firstL_u _ (by omega) ⟨by omega, by omega⟩ ?_ ?_
    · rw [decide_eq_true_eq, ej]
    · intro i i0 i1
      rw [decide_eq_false_iff_not]
      intro z
      have hi : 0 ≤ i ∧ i < (movesL F R v).length := by omega
      have z := (mcode_inj (mo _ (getD_memL hi)) (mo _ ht)).mp z
      have := movesL_inj h64.2 hi (j := (q : Int)) (by omega) (by rw [ej]; exact z)
      omega
  rw [e1, decide_eq_decide]
  constructor
  · intro z; rw [← z, ej]
  · intro z
    have := codeT_inj (mo _ ht) (mo _ (getD_memL hi)) z
    exact movesL_inj h64.2 (by omega) hi (by rw [ej]; exact this)
/-- in how many games a move is made, by class and reference -/
theorem shR.made (h : shR m s l n w mv inf) (hR : RUL F R l n w mv) (h64 : 0 ≤ F * R ∧ F * R ≤ 64) (hv : clV v) {i : Int} (hi : 0 ≤ i ∧ i < (movesL F R v).length) : gmV m s (movesL F R v) v i = gtC F R v n w mv i l := by
  unfold gmV gtC
  rw [h.1]
  refine sumL_congr _ _ fun g h1 h2 => ?_
  have e := h.2 g h1 (by omega)
  have : madV m s g (codeT ((movesL F R v).getD i.toNat (0, 0, 0))) v = anyL (hitC F R v n w mv g i) 0 (n g).toNat := by
    unfold madV
    rw [e.1.1]
    refine anyL_cong _ _ fun k k0 k1 => ?_
    unfold hitC
    rw [e.2.2.1 k k0 (by omega), e.2.1 k k0 (by omega)]
    cases hs : sameB (w g k) v
    · rw [Bool.and_false, Bool.false_and]
    · have r := hR g h1 (by omega) k k0 (by omega)
      have ev := same_eq r.1.2.1 hv hs
      have hm := r.2.1
      rw [ev] at hm
      rw [Bool.and_true, Bool.true_and, nid_at h64 (movesL_in hm) hi]
  rw [this]
theorem gmB_V (m : xM) (s : Int) (L : List Mv) (k : Int) : gmB m s L k = gmV m s L (pv m) k := rfl
theorem plc_cong {g g' : Int → Int} {W : Int → List Int} {L : Nat} (h : ∀ i : Int, 0 ≤ i → i < L → g i = g' i) (k : Int) : plcB g W L k = plcB g' W L k := by
  unfold plcB
  exact sumL_congr _ _ fun j h1 h2 => by rw [h j h1 (by omega)]
theorem cntF_cong {g g' : Int → Int} {W : Int → List Int} {L : Nat} (h : ∀ i : Int, 0 ≤ i → i < L → g i = g' i) (i : Int) : ∀ (d : Nat) (k : Int), 0 ≤ k → k + d ≤ L → cntF g W L i k d = cntF g' W L i k d
  | 0, k, _, _ => rfl
  | d + 1, k, h0, h1 => by
    unfold cntF
    rw [h k h0 (by omega), plc_cong h k, cntF_cong h i d (k + 1) (by omega) (by omega)]
theorem cntG_cong {g g' : Int → Int} {L : Nat} (h : ∀ i : Int, 0 ≤ i → i < L → g i = g' i) : cntG g L = cntG g' L := by
  unfold cntG
  exact sumL_congr _ _ fun j h1 h2 => by rw [h j h1 (by omega)]
theorem mainF_cong {g g' : Int → Int} {W : Int → List Int} {L : Nat} (h : ∀ i : Int, 0 ≤ i → i < L → g i = g' i) : ∀ (d : Nat) (b k : Int), 0 ≤ k → k + d ≤ L → (b = -1 ∨ (0 ≤ b ∧ b < k)) → mainF g W b k d = mainF g' W b k d
  | 0, b, k, _, _, _ => rfl
  | d + 1, b, k, h0, h1, hb => by
    unfold mainF
    have e : (if 0 < g k ∧ (b = -1 ∨ g b < g k ∨ (g k = g b ∧ ahead (W k) (W b) = true)) then k else b) = (if 0 < g' k ∧ (b = -1 ∨ g' b < g' k ∨ (g' k = g' b ∧ ahead (W k) (W b) = true)) then k else b) := by
      rw [h k h0 (by omega)]
      rcases hb with rfl | hb
      · simp
      · rw [h b hb.1 (by omega)]
    rw [e]
    refine mainF_cong h d _ (k + 1) (by omega) (by omega) ?_
    split <;> omega
theorem mainF_r2 (g : Int → Int) (W : Int → List Int) : ∀ (d : Nat) (b k : Int), 0 ≤ k → (b = -1 ∨ (0 ≤ b ∧ b < k)) → mainF g W b k d = -1 ∨ (0 ≤ mainF g W b k d ∧ mainF g W b k d < k + d)
  | 0, b, k, h0, hb => by unfold mainF; omega
  | d + 1, b, k, h0, hb => by
    unfold mainF
    have := mainF_r2 g W d (if 0 < g k ∧ (b = -1 ∨ g b < g k ∨ (g k = g b ∧ ahead (W k) (W b) = true)) then k else b) (k + 1) (by omega) (by split <;> omega)
    omega
theorem shR.main {els : Int → List Nat} {n : Int → Int → Int} {w : Int → Int → Int → Int → Int} {mv : Int → Int → Int → Mv} (h : shR m s (els s).length (n s) (w s) (mv s) inf) (hR : RUL F R (els s).length (n s) (w s) (mv s)) (h64 : 0 ≤ F * R ∧ F * R ≤ 64) (hv : clV v) :
    mainV F R m s v = mnF F R n w mv els s v := by
  unfold mainV mnF
  exact mainF_cong (L := (movesL F R v).length) (fun i h1 h2 => h.made hR h64 hv ⟨h1, h2⟩) _ _ _ (by omega) (by omega) (.inl rfl)
/-- the main moves that are made -/
theorem shR.pm {els : Int → List Nat} {n : Int → Int → Int} {w : Int → Int → Int → Int → Int} {mv : Int → Int → Int → Mv} (h : shR m s (els s).length (n s) (w s) (mv s) inf) (hR : RUL F R (els s).length (n s) (w s) (mv s)) (h64 : 0 ≤ F * R ∧ F * R ≤ 64) {P : (Int → Int) → Prop} (hP : ∀ v, P v → clV v) (hS : ∀ v t, P v → t ∈ movesL F R v → P (mkT F R v t)) :
    ∀ (k : Nat) (v : Int → Int), P v → pmL F R m s k v = pmG F R (mnF F R n w mv els s) k v
  | 0, v, _ => rfl
  | k + 1, v, hv => by
    unfold pmL pmG
    rw [h.main hR h64 (hP v hv)]
    by_cases c : mnF F R n w mv els s v = -1
    · rw [if_pos c, if_pos c]
    · rw [if_neg c, if_neg c]
      have r := mainF_r2 (gtF F R v n w mv els s) (wdB F R v) (movesL F R v).length (-1) 0 (by omega) (.inl rfl)
      have r2 : 0 ≤ mnF F R n w mv els s v ∧ mnF F R n w mv els s v < (movesL F R v).length := by
        unfold mnF at c ⊢
        omega
      rw [h.pm hR h64 hP hS k _ (hS v _ hv (getD_memL r2))]
end
