section
variable {F R : Int} {t : Int → Int}
def bdW (v w : Int → Int) (n : Int) : Int → Int := fun k => if 0 ≤ k ∧ k < n then v k else w k
theorem bd_rk {v w : Int → Int} (h4 : 4 ≤ F) (d : Nat) : bdW v (rkW v w F d 0) (F * d) = bdW v w (F * ((d + 1 : Nat) : Int)) := by
  have e : F * ((d + 1 : Nat) : Int) = F * d + F := by rw [Int.natCast_add, Int.mul_add]; simp
  have : 0 ≤ F * (d : Int) := Int.mul_nonneg (by omega) (by omega)
  funext k
  unfold bdW rkW
  rw [e]
  by_cases c : 0 ≤ k ∧ k < F * (d : Int)
  · rw [if_pos c, if_pos (by omega)]
  · rw [if_neg c]
    by_cases z : F * (d : Int) + 0 ≤ k ∧ k < F * (d : Int) + F
    · rw [if_pos z, if_pos (by omega)]
    · rw [if_neg z, if_neg (by omega)]
theorem ranks_le (h4 : 4 ≤ F) (d : Nat) (hd : (d : Int) < R) : F * ((d + 1 : Nat) : Int) ≤ F * R := Int.mul_le_mul_of_nonneg_left (by omega) (by omega)
/-- the class reads all ranks -/
theorem rcS_ranks (h4 : 4 ≤ F) (h8 : F ≤ 8) {v : Int → Int} (hv : ∀ k, 0 ≤ k → k < F * R → 0 ≤ v k ∧ v k ≤ 12) : ∀ (d : Nat) (a : Int) (w : Int → Int), (d : Int) ≤ R → (∀ k, 0 ≤ k → k < F * d → w k = 0) → AtT t a (ranksP F v d) →
    rcS F t d a w = (a + (ranksP F v d).length, bdW v w (F * d))
  | 0, a, w, _, _, _ => by
    show (a, w) = _
    congr 1
    · simp [ranksP]
    · funext k; unfold bdW; rw [if_neg (by simp <;> omega)]
  | d + 1, a, w, hd, hw, ht => by
    have e : F * ((d + 1 : Nat) : Int) = F * d + F := by rw [Int.natCast_add, Int.mul_add]; simp
    have h0 : 0 ≤ F * (d : Int) := Int.mul_nonneg (by omega) (by omega)
    have hle := ranks_le (R := R) h4 d (by omega)
    rw [show ranksP F v (d + 1) = rankP F v d 0 0 F.toNat ++ (if 0 < d then 47 else 32) :: ranksP F v d from rfl] at ht ⊢
    rw [AtT_app] at ht
    have r := rcF_rank (t := t) (F := F) (r := (d : Int)) h8 (fun k k0 k1 => hv k (by omega) (by omega)) F.toNat 9 0 0 a w (by omega) (by omega) (by omega) (by omega) (fun k k0 k1 => by omega) (fun k k0 k1 => hw k (by omega) (by omega)) ht.1
    rw [Int.sub_zero] at r
    rw [show rcS F t (d + 1) a w = rcS F t d ((rcF F d t 9 0 a w).1 + 1) (rcF F d t 9 0 a w).2 from rfl, r]
    dsimp only
    rw [rcS_ranks h4 h8 hv d _ _ (by omega) (fun k k0 k1 => by unfold rkW; rw [if_neg (by omega)]; exact hw k k0 (by omega)) ht.2.2, bd_rk h4]
    congr 1
    simp; omega
/-- the reference reads all ranks -/
theorem rdS_ranks (h4 : 4 ≤ F) (h8 : F ≤ 8) {v : Int → Int} (hv : ∀ k, 0 ≤ k → k < F * R → 0 ≤ v k ∧ v k ≤ 12) : ∀ (d : Nat) (a : Int) (w : Int → Int), (d : Int) ≤ R → (∀ k, 0 ≤ k → k < F * d → w k = 0) → AtT t a (ranksP F v d) →
    rdS F R t d a w = some (a + (ranksP F v d).length, bdW v w (F * d))
  | 0, a, w, _, _, _ => by
    show some (a, w) = _
    congr 2
    · simp [ranksP]
    · funext k; unfold bdW; rw [if_neg (by simp <;> omega)]
  | d + 1, a, w, hd, hw, ht => by
    have e : F * ((d + 1 : Nat) : Int) = F * d + F := by rw [Int.natCast_add, Int.mul_add]; simp
    have h0 : 0 ≤ F * (d : Int) := Int.mul_nonneg (by omega) (by omega)
    have hle := ranks_le (R := R) h4 d (by omega)
    rw [show ranksP F v (d + 1) = rankP F v d 0 0 F.toNat ++ (if 0 < d then 47 else 32) :: ranksP F v d from rfl] at ht ⊢
    rw [AtT_app] at ht
    have r := rdF_rank (t := t) (F := F) (R := R) (r := (d : Int)) h8 (fun k k0 k1 => hv k (by omega) (by omega)) F.toNat F.toNat 0 0 a w (by omega) (by omega) (by omega) (by omega) (fun k k0 k1 => by omega) (fun k k0 k1 => hw k (by omega) (by omega)) ht.1
    rw [Int.sub_zero] at r
    rw [show rdS F R t (d + 1) a w = (match rdF F R t d F.toNat 0 a w with
      | none => none
      | some (b, u) => if t b = (if 0 < d then 47 else 32) then rdS F R t d (b + 1) u else none) from rfl, r]
    dsimp only
    rw [if_pos ht.2.1]
    rw [rdS_ranks h4 h8 hv d _ _ (by omega) (fun k k0 k1 => by unfold rkW; rw [if_neg (by omega)]; exact hw k k0 (by omega)) ht.2.2, bd_rk h4]
    congr 2
    simp; omega
def rIx (x : Int) : Int := firstL (fun i => decide (([75, 81, 107, 113] : List Int).getD i.toNat 0 = x)) 0 4
theorem rdR_word {len : Int} : ∀ (W : List Int) (n : Nat) (a p : Int), W.length < n → AtT t a W → (∀ c ∈ W, c ≠ 32) → t (a + W.length) = 32 → a + W.length < len → rdR t len n a p = (a + W.length, W.foldl (fun p c => orI p (rBit c)) p)
  | [], n + 1, a, p, _, _, _, h, hl => by
    simp at h hl
    rw [show rdR t len (n + 1) a p = if len ≤ a then (a, p) else if t a = 32 then (a, p) else rdR t len n (a + 1) (orI p (rBit (t a))) from rfl, if_neg (by omega), if_pos h]
    simp
  | c :: W, n + 1, a, p, hn, ht, hc, h, hl => by
    rw [List.length_cons] at h hl hn
    have c32 := hc c List.mem_cons_self
    rw [show rdR t len (n + 1) a p = if len ≤ a then (a, p) else if t a = 32 then (a, p) else rdR t len n (a + 1) (orI p (rBit (t a))) from rfl, if_neg (by omega), ht.1, if_neg c32,
      rdR_word W n (a + 1) _ (by omega) ht.2 (fun x hx => hc x (List.mem_cons_of_mem _ hx)) (by rw [← h]; congr 1; omega) (by omega)]
    rw [List.foldl_cons, List.length_cons]
    congr 1
    omega
theorem rcR_word : ∀ (W : List Int) (n : Nat) (p a : Int), W.length ≤ n → AtT t (a - 1) W → (∀ c ∈ W, 0 ≤ rIx c) → t (a - 1 + W.length) = 32 → rcR t n (t (a - 1)) p a = (W.foldl (fun p c => orI p (2 ^ (rIx c).toNat)) p, a - 1 + W.length)
  | [], 0, p, a, _, _, _, h => by simp [rcR]
  | [], n + 1, p, a, _, _, _, h => by
    simp at h
    rw [show rcR t (n + 1) (t (a - 1)) p a = if rIx (t (a - 1)) < 0 then (p, a - 1) else rcR t n (t a) (orI p (2 ^ (rIx (t (a - 1))).toNat)) (a + 1) from rfl, h, if_pos (by decide)]
    simp
  | c :: W, 0, p, a, hn, _, _, _ => by simp at hn
  | c :: W, n + 1, p, a, hn, ht, hc, h => by
    rw [List.length_cons] at h hn
    have c0 := hc c List.mem_cons_self
    have ih := rcR_word W n (orI p (2 ^ (rIx c).toNat)) (a + 1) (by omega) (by rw [show a + 1 - 1 = a - 1 + 1 by omega]; exact ht.2) (fun x hx => hc x (List.mem_cons_of_mem _ hx)) (by rw [← h]; congr 1; omega)
    rw [show a + 1 - 1 = a by omega] at ih
    rw [show rcR t (n + 1) (t (a - 1)) p a = if rIx (t (a - 1)) < 0 then (p, a - 1) else rcR t n (t a) (orI p (2 ^ (rIx (t (a - 1))).toNat)) (a + 1) from rfl, ht.1, if_neg (by omega), ih, List.foldl_cons, List.length_cons]
    congr 1
    omega
theorem rightsP_facts {p : Int} (hp : 0 ≤ p ∧ p ≤ 15) : ((∀ c ∈ rightsP p, c ≠ 32) ∧ (rightsP p).foldl (fun p c => orI p (rBit c)) 0 = p ∧ (rightsP p).length < 501) ∧
    (if p = 0 then rightsP p = [45] else (∀ c ∈ rightsP p, 0 ≤ rIx c) ∧ (rightsP p).length ≤ 4 ∧ (rightsP p).foldl (fun p c => orI p (2 ^ (rIx c).toNat)) 0 = p ∧ (rightsP p).getD 0 0 ≠ 45 ∧ rightsP p ≠ []) := by
  rcases (show p = 0 ∨ p = 1 ∨ p = 2 ∨ p = 3 ∨ p = 4 ∨ p = 5 ∨ p = 6 ∨ p = 7 ∨ p = 8 ∨ p = 9 ∨ p = 10 ∨ p = 11 ∨ p = 12 ∨ p = 13 ∨ p = 14 ∨ p = 15 by omega) with h | h | h | h | h | h | h | h | h | h | h | h | h | h | h | h <;>
  (subst h; decide)
/-- the letters of the rights -/
theorem rights_read {p a : Int} (hp : 0 ≤ p ∧ p ≤ 15) (ht : AtT t a (rightsP p)) (h32 : t (a + (rightsP p).length) = 32) {len : Int} (hl : a + (rightsP p).length < len) :
    rdR t len 501 a 0 = (a + (rightsP p).length, p) ∧ ∀ w : Int → Int, w 65 = 0 → rcRs t w a = (p, a + (rightsP p).length) := by
  obtain ⟨⟨f1, f2, f3⟩, f4⟩ := rightsP_facts hp
  refine ⟨by rw [rdR_word _ 501 a 0 f3 ht f1 h32 hl, f2], fun w hw => ?_⟩
  unfold rcRs
  by_cases c : p = 0
  · rw [if_pos c] at f4
    rw [f4] at ht ⊢
    rw [if_pos ht.1, hw, c]
    rfl
  · rw [if_neg c] at f4
    obtain ⟨g1, g2, g3, g4, g5⟩ := f4
    have h0 : t a = (rightsP p).getD 0 0 := by
      cases h : rightsP p with
      | nil => exact absurd h g5
      | cons x W => rw [h] at ht; exact ht.1
    rw [if_neg (by rw [h0]; exact g4), hw]
    have := rcR_word (t := t) (rightsP p) 4 0 (a + 1) g2 (by rw [show a + 1 - 1 = a by omega]; exact ht) g1 (by rw [show a + 1 - 1 = a by omega]; exact h32)
    rw [show a + 1 - 1 = a by omega] at this
    rw [this, g3]
theorem pass_sq (h4 : 4 ≤ F) (h8 : F ≤ 8) (r4 : 4 ≤ R) (r8 : R ≤ 8) {q : Int} (hq : 0 ≤ q ∧ q < F * R) : (0 ≤ q % F ∧ q % F < F) ∧ (0 ≤ q / F ∧ q / F < R) ∧ F * (q / F) + q % F = q := fr_of h4 hq
/-- BOTH READERS READ A PAPER BACK -/
theorem paper_back (h4 : 4 ≤ F) (h8 : F ≤ 8) (r4 : 4 ≤ R) (r8 : R ≤ 8) {v : Int → Int} (hv : okV F R v) (hc : clV v) (hb : brd F R v) (ht : AtT t 0 (paperP F R v)) {len : Int} (hl : len = (paperP F R v).length) :
    rdP F R t len = some v ∧ rcB F R t = v := by
  have hn := FR_r h4 h8 r4 r8
  unfold paperP at ht
  rw [AtT_app] at ht
  obtain ⟨t1, t2, t3, t4⟩ := ht
  rw [AtT_app] at t4
  obtain ⟨t4, t5, t6⟩ := t4
  rw [Int.zero_add] at t2 t3 t4 t5 t6
  have hp : ∀ k, 0 ≤ k → k < F * R → 0 ≤ v k ∧ v k ≤ 12 := fun k k0 k1 => hv.p k k0 (by omega)
  have eR : ((R.toNat : Nat) : Int) = R := by omega
  have c1 := rcS_ranks (R := R) (t := t) h4 h8 hp R.toNat 0 emptyV (by omega) (fun k k0 k1 => by rw [eR] at k1; unfold emptyV; rw [if_neg (by omega), if_neg (by omega)]) t1
  have c2 := rdS_ranks (R := R) (t := t) h4 h8 hp R.toNat 0 (fun _ => 0) (by omega) (fun k k0 k1 => rfl) t1
  rw [Int.zero_add, eR] at c1 c2
  generalize hA : ((ranksP F v R.toNat).length : Int) = A at *
  have hlen : len = A + 2 + (rightsP (v 65)).length + 1 + (passP F (v 66)).length := by
    rw [hl]; unfold paperP
    simp only [List.length_append, List.length_cons]
    omega
  have hp1 : 1 ≤ (passP F (v 66)).length := by unfold passP; split <;> simp
  have rr := rights_read (t := t) (a := A + 2) hv.2.2.1 (by rw [show A + 2 = A + 1 + 1 by omega]; exact t4) (by rw [show A + 2 = A + 1 + 1 by omega]; exact t5) (len := len) (by omega)
  have e66 := hv.2.2.2
  rw [show A + 1 + 1 = A + 2 by omega] at t6
  have side : (if t A = 119 then (1 : Int) else 0) = v 64 := by
    rw [t2]
    have := hv.s
    by_cases z : v 64 = 1
    · rw [if_pos z, if_pos rfl, z]
    · rw [if_neg z, if_neg (by omega)]; omega
  -- the square that is passed
  generalize hB : A + 2 + ((rightsP (v 65)).length : Int) = B at *
  have q1 : rdQ F R t (B + 1) = v 66 := by
    unfold rdQ
    unfold passP at t6
    by_cases z : v 66 = -1
    · rw [if_pos z] at t6
      rw [if_neg (fun y => y.1 t6.1), z]
    · rw [if_neg z] at t6
      obtain ⟨x, y, e⟩ := pass_sq h4 h8 r4 r8 (q := v 66) ⟨by omega, e66.2⟩
      rw [t6.1, t6.2.1]
      unfold fileC rankC
      rw [if_pos (by omega), show 49 + v 66 / F - 49 = v 66 / F by omega, show 97 + v 66 % F - 97 = v 66 % F by omega]
      exact e
  have q2 : ∀ w : Int → Int, w 66 = -1 → rcQ F R t w (B + 1) = v 66 := by
    intro w hw
    unfold rcQ
    unfold passP at t6
    by_cases z : v 66 = -1
    · rw [if_pos z] at t6
      rw [t6.1, if_neg (by omega), hw, z]
    · rw [if_neg z] at t6
      obtain ⟨x, y, e⟩ := pass_sq h4 h8 r4 r8 (q := v 66) ⟨by omega, e66.2⟩
      rw [t6.1, t6.2.1]
      unfold fileC rankC
      rw [if_pos (by omega), show 49 + v 66 / F - 49 = v 66 / F by omega, show 97 + v 66 % F - 97 = v 66 % F by omega, Int.mul_comm]
      exact e
  have fin : ∀ w : Int → Int, (∀ k, ¬ (0 ≤ k ∧ k < F * R) → k ≠ 64 → k ≠ 65 → k ≠ 66 → w k = 0) → upV (upV (upV (bdW v w (F * R)) 64 (v 64)) 65 (v 65)) 66 (v 66) = v := by
    intro w hw
    funext k
    unfold upV bdW
    by_cases k66 : k = 66
    · rw [if_pos k66, k66]
    · rw [if_neg k66]
      by_cases k65 : k = 65
      · rw [if_pos k65, k65]
      · rw [if_neg k65]
        by_cases k64 : k = 64
        · rw [if_pos k64, k64]
        · rw [if_neg k64]
          by_cases z : 0 ≤ k ∧ k < F * R
          · rw [if_pos z]
          · rw [if_neg z, hw k z k64 k65 k66]
            by_cases y : F * R ≤ k ∧ k < 64
            · exact (hb k y.1 y.2).symm
            · exact (hc k (by omega)).symm
  constructor
  · unfold rdP
    rw [c2]
    dsimp only
    unfold rdE
    rw [rr.1]
    dsimp only
    rw [side, q1, fin _ (fun k _ _ _ _ => rfl)]
  · unfold rcB rc2 rc1 rcA
    rw [c1]
    dsimp only
    have e65 : (upV (bdW v emptyV (F * R)) 64 (if t A = 119 then 1 else 0)) 65 = 0 := by
      unfold upV bdW emptyV; rw [if_neg (by omega), if_neg (by omega), if_neg (by omega), if_neg (by omega)]
    rw [rr.2 _ e65]
    dsimp only
    rw [q2 _ (by unfold upV bdW emptyV; rw [if_neg (by omega), if_neg (by omega), if_neg (by omega), if_neg (by omega), if_pos rfl]), side]
    exact fin _ (fun k _ h1 _ h3 => by unfold emptyV; rw [if_neg h1, if_neg h3])
end
