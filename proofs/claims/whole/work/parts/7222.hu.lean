section
variable {F R : Int} {t : Int → Int} {m : xM} {c : cM} {L : List Int}
theorem rdF_brd {r : Int} (h4 : 4 ≤ F) (hr : 0 ≤ r ∧ r < R) : ∀ (n : Nat) (f a : Int) (w : Int → Int), 0 ≤ f → (∀ k, F * R ≤ k → w k = 0) → ∀ b u, rdF F R t r n f a w = some (b, u) → ∀ k, F * R ≤ k → u k = 0
  | 0, f, a, w, _, hw, b, u, e => by
    rw [show rdF F R t r 0 f a w = some (a, w) from rfl, Option.some.injEq, Prod.mk.injEq] at e
    rw [← e.2]; exact hw
  | n + 1, f, a, w, hf, hw, b, u, e => by
    have hle : F * (r + 1) ≤ F * R := Int.mul_le_mul_of_nonneg_left (by omega) (by omega)
    rw [Int.mul_add, Int.mul_one] at hle
    have up0 : ∀ (x k : Int), f < F → F * R ≤ k → upV w (F * r + f) x k = 0 := fun x k hfF hk => by unfold upV; rw [if_neg (by omega)]; exact hw k hk
    rw [show rdF F R t r (n + 1) f a w = if F ≤ f then some (a, w) else if pcB (t a) = 0 then (if 1 ≤ t a - 48 ∧ t a - 48 ≤ F - f then rdF F R t r n (f + (t a - 48)) (a + 1) (zfV (upV w (F * r + f) 0) (F * r + f) (t a - 48)) else none) else rdF F R t r n (f + 1) (a + 1) (upV w (F * r + f) (pcB (t a))) from rfl] at e
    by_cases c1 : F ≤ f
    · rw [if_pos c1, Option.some.injEq, Prod.mk.injEq] at e
      rw [← e.2]; exact hw
    · rw [if_neg c1] at e
      by_cases c2 : pcB (t a) = 0
      · rw [if_pos c2] at e
        by_cases c3 : 1 ≤ t a - 48 ∧ t a - 48 ≤ F - f
        · rw [if_pos c3] at e
          refine rdF_brd h4 hr n _ _ _ (by omega) (fun k hk => ?_) b u e
          unfold zfV
          split
          · rfl
          · exact up0 0 k (by omega) hk
        · rw [if_neg c3] at e; exact nomatch e
      · rw [if_neg c2] at e
        exact rdF_brd h4 hr n _ _ _ (by omega) (fun k hk => up0 _ k (by omega) hk) b u e
theorem rdS_brd (h4 : 4 ≤ F) : ∀ (d : Nat) (a : Int) (w : Int → Int), (d : Int) ≤ R → (∀ k, F * R ≤ k → w k = 0) → ∀ b u, rdS F R t d a w = some (b, u) → ∀ k, F * R ≤ k → u k = 0
  | 0, a, w, _, hw, b, u, e => by
    rw [show rdS F R t 0 a w = some (a, w) from rfl, Option.some.injEq, Prod.mk.injEq] at e
    rw [← e.2]; exact hw
  | d + 1, a, w, hd, hw, b, u, e => by
    rw [show rdS F R t (d + 1) a w = (match rdF F R t d F.toNat 0 a w with
      | none => none
      | some (b, u) => if t b = (if 0 < d then 47 else 32) then rdS F R t d (b + 1) u else none) from rfl] at e
    cases h : rdF F R t d F.toNat 0 a w with
    | none => rw [h] at e; exact nomatch e
    | some x =>
      obtain ⟨b1, u1⟩ := x
      rw [h] at e
      dsimp only at e
      by_cases z : t b1 = (if 0 < d then 47 else 32)
      · rw [if_pos z] at e
        exact rdS_brd h4 d _ _ (by omega) (rdF_brd h4 ⟨by omega, by omega⟩ _ _ _ _ (by omega) hw _ _ h) b u e
      · rw [if_neg z] at e; exact nomatch e
theorem rdP_brd (h4 : 4 ≤ F) (hR : 0 ≤ R) {len : Int} {u : Int → Int} (h : rdP F R t len = some u) : brd F R u := by
  unfold rdP at h
  cases e : rdS F R t R.toNat 0 (fun _ => 0) with
  | none => rw [e] at h; exact nomatch h
  | some x =>
    obtain ⟨b, u1⟩ := x
    rw [e] at h
    dsimp only at h
    rw [Option.some.injEq] at h
    intro k k0 k1
    rw [← h]
    unfold rdE upV
    rw [if_neg (by omega), if_neg (by omega), if_neg (by omega)]
    exact rdS_brd h4 _ _ _ (by omega) (fun _ _ => rfl) _ _ e k k0
theorem asWr_iff {W : List Int} (hlen : m 50 13 = L.length) (hm : ∀ k : Int, 0 ≤ k → k < L.length → m 12 k = tx L k) : asWr m W = true ↔ L = W := by
  unfold asWr
  rw [Bool.and_eq_true, decide_eq_true_eq, allL_iff, hlen]
  constructor
  · rintro ⟨h1, h2⟩
    apply List.ext_getElem (by omega)
    intro i i1 i2
    have := h2 i (by omega) (by omega)
    rw [decide_eq_true_eq, hm i (by omega) (by omega)] at this
    unfold tx at this
    rw [Int.toNat_natCast, getD_el i2, getD_el i1] at this
    exact this.symm
  · intro h
    refine ⟨by rw [h], fun k k0 k1 => ?_⟩
    rw [decide_eq_true_eq, hm k k0 (by omega), ← h]
    rfl
/-- BOTH READERS TAKE THE SAME PAPERS -/
theorem pap_eq (hB : BG c F R) (hX : XB m F R) (hlen : m 50 13 = L.length) (hm : ∀ k : Int, 0 ≤ k → k < L.length → m 12 k = tx L k) (hr : ∀ u, rdP F R (txB m) (m 50 13) = some u → okV F R u ∧ clV u) :
    papB F R m = if okB F R L = true then some (rcB F R (tx L)) else none := by
  have h4 := hX.f4; have h8 := hX.f8; have r4 := hX.r4; have r8 := hX.r8
  have atx : ∀ (W : List Int), L = W → AtT (txB m) 0 W ∧ AtT (tx L) 0 W := by
    intro W hW
    subst hW
    constructor
    · refine AtT_get _ _ fun i hi => ?_
      rw [Int.zero_add]
      unfold txB
      rw [hlen, if_pos (by omega), hm i (by omega) (by omega)]
      unfold tx
      rw [Int.toNat_natCast]
    · refine AtT_get _ _ fun i hi => ?_
      rw [Int.zero_add]
      unfold tx
      rw [Int.toNat_natCast]
  by_cases ok : okB F R L = true
  · rw [if_pos ok]
    have ok' := ok
    unfold okB at ok
    rw [Bool.and_eq_true, Bool.and_eq_true, decide_eq_true_eq] at ok
    obtain ⟨⟨o1, o2⟩, o3⟩ := ok
    have hv := rcB_VG hB (tx L)
    have rb := (paper_back h4 h8 r4 r8 hv.1 hv.2.1 hv.2.2 (atx _ o1).1 (len := m 50 13) (by rw [hlen, ← o1])).1
    unfold papB
    rw [rb]
    dsimp only
    rw [(asWr_iff hlen hm).mpr o1, o2, o3]
    rfl
  · rw [if_neg ok]
    unfold papB
    cases h : rdP F R (txB m) (m 50 13) with
    | none => rfl
    | some u =>
      dsimp only
      rw [if_neg]
      intro z
      rw [Bool.and_eq_true, Bool.and_eq_true] at z
      obtain ⟨⟨z1, z2⟩, z3⟩ := z
      have e := (asWr_iff hlen hm).mp z1
      have hu := hr u h
      have rb := (paper_back h4 h8 r4 r8 hu.1 hu.2 (rdP_brd h4 (by omega) h) (atx _ e).2 (len := L.length) (by rw [← e])).2
      apply ok
      unfold okB
      rw [rb, z2, z3, decide_eq_true e]
      rfl
end
