/-! PHASE 3: what is written into a builder, with room for it -/
/-- a state U behind V that differs in the builder a alone, which now holds L in the row y -/
abbrev BL (D : wD) (V U : wS) (a y0 y : Nat) (L : List Int) : Prop := EX D V U [a, y0] ∧ (y = y0 ∨ ¬ wM D V y) ∧ SB U a y L
theorem BL.step {D : wD} {V U U' : wS} {a y0 y y' : Nat} {L L' : List Int} (h : BL D V U a y0 y L) (he : EX D U U' [a, y]) (hS : SB U' a y' L') (hy : y' = y ∨ ¬ wM D U y') : BL D V U' a y0 y' L' := by
  refine ⟨h.1.trans he (fun b hb z => z) (fun b hb z => ?_), ?_, hS⟩
  · rcases List.mem_cons.mp z with q | q
    · rw [q]; simp
    · have e := List.mem_singleton.mp q
      rcases h.2.1 with q | q
      · rw [e, q]; simp
      · exact absurd (e ▸ hb) q
  · rcases hy with q | q
    · rw [q]; exact h.2.1
    · exact Or.inr fun z => q (h.1.M z)
abbrev RBD (cap bc bs M : Nat) : Prop := cap ≤ M ∧ M + 2 ≤ (cap + 2) * 2 ^ bc ∧ 2 * (M - cap) ≤ bs + 2
def gmB1 (cap need : Nat) : Nat := if need ≤ cap then 0 else 1
def gzB1 (cap need : Nat) : Nat := if need ≤ cap then 0 else 2 * cap + 2
theorem RBD.le {cap bc bs M need : Nat} (h : RBD cap bc bs M) (hn : need ≤ cap ∨ 2 * cap + 2 ≤ M) : gmB1 cap need ≤ bc ∧ gzB1 cap need ≤ bs ∧ RBD (capM cap need) (bc - gmB1 cap need) (bs - gzB1 cap need) M := by
  unfold gmB1 gzB1 capM
  by_cases c : need ≤ cap
  · rw [if_pos c, if_pos c, if_pos c]; exact ⟨Nat.zero_le _, Nat.zero_le _, h⟩
  · rw [if_neg c, if_neg c, if_neg c]
    obtain ⟨h1, h2, h3⟩ := h
    cases bc with
    | zero => simp at h2; omega
    | succ b =>
      rw [Nat.pow_succ] at h2
      have e : (2 * cap + 2 + 2) * 2 ^ b = (cap + 2) * (2 ^ b * 2) := by rw [Nat.mul_comm (2 ^ b) 2, ← Nat.mul_assoc]; congr 1; omega
      refine ⟨by omega, by omega, by omega, ?_, by omega⟩
      show M + 2 ≤ (2 * cap + 2 + 2) * 2 ^ b
      rw [e]; exact h2
section
variable {D : wD} {V U : wS} {a y0 y : Nat} {L : List Int} {bc bs M : Nat}
theorem bl_put {post : Option Nat → wS → Prop} (h : BL D V U a y0 y L) (hr : RBD (sN U y) bc bs M) (hm : L.length + 1 ≤ sN U y ∨ 2 * sN U y + 2 ≤ M) (hM : M < 50000) {x : Int} (hx : 0 ≤ x ∧ x < 128)
    (k : ∀ U' y', BL D V U' a y0 y' (L ++ [x]) → RBD (sN U' y') (bc - gmB1 (sN U y) (L.length + 1)) (bs - gzB1 (sN U y) (L.length + 1)) M → sN U' y' = capM (sN U y) (L.length + 1) → post (some a) U') : wp_J4_append_cf468 D post (gmB1 (sN U y) (L.length + 1)) (gzB1 (sN U y) (L.length + 1)) U a (iI x) := by
  have r := hr.le hm
  have h0 := hr.1
  refine q_appendB h.2.2 (by omega) hx (fun e => ?_) fun U' y' he hS hy hN => ?_
  · unfold gmB1 gzB1; rw [if_neg (by omega), if_neg (by omega)]; omega
  · have : capN (sN U y) L.length = capM (sN U y) (L.length + 1) := by unfold capN capM; by_cases c : L.length < sN U y; rw [if_pos c, if_pos (by omega)]; rw [if_neg c, if_neg (by omega)]
    rw [this] at hN
    exact k U' y' (h.step he hS hy) (by rw [hN]; exact r.2.2) hN
theorem bl_putI {post : Option Nat → wS → Prop} (h : BL D V U a y0 y L) (hr : RBD (sN U y) bc bs M) (hm : L.length + 1 ≤ sN U y ∨ 2 * sN U y + 2 ≤ M) (hM : M < 50000) (h1 : 1 ≤ sN U y) (hg : DG D V) (hd : D.2.2.1 104 ∉ [a, y0]) {x : Int} (hx : 1 ≤ x ∧ x ≤ 8)
    (k : ∀ U' y', BL D V U' a y0 y' (L ++ [48 + x]) → RBD (sN U' y') (bc - gmB1 (sN U y) (L.length + 1)) (bs - gzB1 (sN U y) (L.length + 1)) M → sN U' y' = capM (sN U y) (L.length + 1) → post (some a) U') : wp_J4_append_bf812 D post (gmB1 (sN U y) (L.length + 1)) (gzB1 (sN U y) (L.length + 1)) U a (iI x) := by
  have r := hr.le hm
  have h0 := hr.1
  have hd2 : D.2.2.1 104 ∉ [a, y] := fun z => by
    rcases List.mem_cons.mp z with q | q
    · exact hd (by rw [q]; simp)
    · have e := List.mem_singleton.mp q
      rcases h.2.1 with p | p
      · exact hd (by rw [e, p]; simp)
      · exact p (e ▸ hg.1)
  refine q_appendI h.2.2 (by omega) h1 (hg.ex h.1 hd) hd2 hx (fun e => ?_) fun U' y' he hS hy hN => k U' y' (h.step he hS hy) (by rw [hN]; exact r.2.2) hN
  · unfold gmB1 gzB1; rw [if_neg (by omega), if_neg (by omega)]; omega
theorem ST.ex {D : wD} {U U' : wS} {s : Nat} {W : List Int} {K : List Nat} (he : EX D U U' K) (h : ST D U s W) (hs : s ∉ K) (hv : ∀ v, sR U s 0 = some v → v ∉ K) : ST D U' s W := by
  obtain ⟨⟨m1, m2⟩, m3, m4, ⟨v, v1, v2, v3, v4, v5⟩, m6⟩ := h
  exact ⟨⟨he.M m1, by rw [he.k m1, m2]⟩, by rw [he.i m1 hs, m3], m4, ⟨v, by rw [he.r m1 hs, v1], he.M v2, by rw [he.k v2, v3], by rw [he.n v2, v4], fun j hj => by rw [he.i v2 (hv v v1)]; exact v5 j hj⟩, m6⟩
theorem bl_putS {post : Option Nat → wS → Prop} {s : Nat} {W : List Int} (h : BL D V U a y0 y L) (hr : RBD (sN U y) bc bs M) (hm : L.length + W.length ≤ sN U y ∨ 2 * sN U y + 2 ≤ M) (hM : M < 50000) (hW : ST D V s W) (hl : 1 ≤ W.length ∧ W.length ≤ sN U y) (hs : s ∉ [a, y0]) (hv : ∀ v, sR V s 0 = some v → v ∉ [a, y0])
    (k : ∀ U' y', BL D V U' a y0 y' (L ++ W) → RBD (sN U' y') (bc - gmB1 (sN U y) (L.length + W.length)) (bs - gzB1 (sN U y) (L.length + W.length)) M → sN U' y' = capM (sN U y) (L.length + W.length) → post (some a) U') : wp_J4_append_15ec4 D post (gmB1 (sN U y) (L.length + W.length)) (gzB1 (sN U y) (L.length + W.length)) U a s := by
  have r := hr.le hm
  have h0 := hr.1
  have no : ∀ t, wM D V t → t ∉ [a, y0] → t ∉ [a, y] := fun t ht hn z => by
    rcases List.mem_cons.mp z with q | q
    · exact hn (by rw [q]; simp)
    · have e := List.mem_singleton.mp q
      rcases h.2.1 with p | p
      · exact hn (by rw [e, p]; simp)
      · exact p (e ▸ ht)
  have hW2 := ST.ex h.1 hW hs hv
  have es : sR U s 0 = sR V s 0 := by rw [h.1.r hW.1.1 hs]
  obtain ⟨v, v1, v2, -⟩ := hW.2.2.2.1
  refine q_appendS h.2.2 (by omega) hW2 hl (no s hW.1.1 hs) (fun t ht => ?_) (fun e => ?_) fun U' y' he hS hy hN => k U' y' (h.step he hS hy) (by rw [hN]; exact r.2.2) hN
  · rw [es, v1] at ht
    cases ht
    exact no v v2 (hv v v1)
  · unfold gmB1 gzB1; rw [if_neg (by omega), if_neg (by omega)]; omega
end
