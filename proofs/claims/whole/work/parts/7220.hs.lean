/-! PHASE 4, class = reference: papers -/
/-- the text W stands at a -/
def AtT (t : Int → Int) (a : Int) : List Int → Prop
  | [] => True
  | c :: W => t a = c ∧ AtT t (a + 1) W
theorem AtT_app {t : Int → Int} : ∀ (W V : List Int) (a : Int), AtT t a (W ++ V) ↔ AtT t a W ∧ AtT t (a + W.length) V
  | [], V, a => by simp [AtT]
  | c :: W, V, a => by
    rw [List.cons_append]
    show (t a = c ∧ AtT t (a + 1) (W ++ V)) ↔ (t a = c ∧ AtT t (a + 1) W) ∧ AtT t (a + ((c :: W).length : Nat)) V
    rw [AtT_app W V (a + 1), and_assoc, List.length_cons, show a + 1 + (W.length : Int) = a + ((W.length + 1 : Nat) : Int) by omega]
theorem AtT_get {t : Int → Int} : ∀ (W : List Int) (a : Int), (∀ i : Nat, i < W.length → t (a + i) = W.getD i 0) → AtT t a W
  | [], _, _ => trivial
  | c :: W, a, h => by
    unfold AtT
    refine ⟨by have := h 0 (by simp); simpa using this, AtT_get W (a + 1) fun i hi => ?_⟩
    have := h (i + 1) (by simp; omega)
    rw [show a + 1 + (i : Int) = a + ((i + 1 : Nat) : Int) by omega, this]
    rfl
section
variable {F R : Int} {t : Int → Int}
/-- squares of a rank are set -/
def rkW (v w : Int → Int) (F r f : Int) : Int → Int := fun k => if F * r + f ≤ k ∧ k < F * r + F then v k else w k
theorem letP {p : Int} (hp : 1 ≤ p ∧ p ≤ 12) : pcB (letB (kindO p) + (if 6 < p then 32 else 0)) = p ∧ idxC (letB (kindO p) + (if 6 < p then 32 else 0)) = p := by
  rcases (show p = 1 ∨ p = 2 ∨ p = 3 ∨ p = 4 ∨ p = 5 ∨ p = 6 ∨ p = 7 ∨ p = 8 ∨ p = 9 ∨ p = 10 ∨ p = 11 ∨ p = 12 by omega) with rfl | rfl | rfl | rfl | rfl | rfl | rfl | rfl | rfl | rfl | rfl | rfl <;> exact ⟨by decide, by decide⟩
theorem digP {e : Int} (he : 1 ≤ e ∧ e ≤ 8) : pcB (48 + e) = 0 ∧ idxC (48 + e) = -1 := by
  rcases (show e = 1 ∨ e = 2 ∨ e = 3 ∨ e = 4 ∨ e = 5 ∨ e = 6 ∨ e = 7 ∨ e = 8 by omega) with rfl | rfl | rfl | rfl | rfl | rfl | rfl | rfl <;> exact ⟨by decide, by decide⟩
theorem rkW_up {v w : Int → Int} {r f : Int} (hf : f < F) (hw : ∀ k, F * r + f < k → k < F * r + F → w k = 0) : rkW v (upV w (F * r + f) (v (F * r + f))) F r (f + 1) = rkW v w F r f := by
  funext k
  unfold rkW upV
  by_cases c : F * r + f + 1 ≤ k ∧ k < F * r + F
  · rw [if_pos (by omega), if_pos (by omega)]
  · rw [if_neg (by omega)]
    by_cases d : k = F * r + f
    · rw [if_pos d, if_pos (by omega), d]
    · rw [if_neg d, if_neg (by omega)]
/-- the class reads a rank -/
theorem rcF_rank (h8 : F ≤ 8) {v : Int → Int} {r : Int} (hv : ∀ k, F * r ≤ k → k < F * r + F → 0 ≤ v k ∧ v k ≤ 12) : ∀ (d n : Nat) (f e a : Int) (w : Int → Int), 0 ≤ e → e ≤ f → f + d = F → (F - (f - e)) ≤ n → (∀ k, F * r + (f - e) ≤ k → k < F * r + f → v k = 0) → (∀ k, F * r + (f - e) ≤ k → k < F * r + F → w k = 0) → AtT t a (rankP F v r f e d) →
    rcF F r t n (f - e) a w = (a + (rankP F v r f e d).length, rkW v w F r (f - e)) := by
  have dig : ∀ (n : Nat) (f e a : Int) (w : Int → Int), 0 < e → e ≤ f → f ≤ F → (F - (f - e)) ≤ n → t a = 48 + e → ∃ n', rcF F r t n (f - e) a w = rcF F r t n' f (a + 1) w ∧ F - f ≤ n' := by
    intro n f e a w e0 ef fF hn ht
    cases n with
    | zero => omega
    | succ n =>
      refine ⟨n, ?_, by omega⟩
      have hd := digP (e := e) ⟨e0, by omega⟩
      rw [show rcF F r t (n + 1) (f - e) a w = if F ≤ f - e then (a, w) else if 0 < idxC (t a) then rcF F r t n (f - e + 1) (a + 1) (upV w (r * F + (f - e)) (idxC (t a))) else if 49 < t a ∧ t a ≤ 56 then rcF F r t n (f - e + (t a - 49) + 1) (a + 1) w else rcF F r t n (f - e + 1) (a + 1) w from rfl, if_neg (by omega), ht, hd.2, if_neg (by omega)]
      by_cases c : 49 < 48 + e ∧ 48 + e ≤ 56
      · rw [if_pos c, show f - e + (48 + e - 49) + 1 = f by omega]
      · rw [if_neg c, show f - e + 1 = f by omega]
  have fin : ∀ (n : Nat) (a : Int) (w : Int → Int), rcF F r t n F a w = (a, w) := by
    intro n a w
    cases n with
    | zero => rfl
    | succ n => rw [show rcF F r t (n + 1) F a w = if F ≤ F then (a, w) else _ from rfl, if_pos (by omega)]
  intro d
  induction d with
  | zero =>
    intro n f e a w e0 ef hf hn hz hw ht
    have hF : f = F := by omega
    subst hF
    unfold rankP at ht ⊢
    by_cases c : 0 < e
    · rw [if_pos c] at ht ⊢
      obtain ⟨n', e1, -⟩ := dig n f e a w c ef (by omega) hn ht.1
      rw [e1, fin]
      congr 1
      funext k
      unfold rkW
      split
      · rw [hz k (by omega) (by omega)]; exact hw k (by omega) (by omega)
      · rfl
    · rw [if_neg c]
      have : e = 0 := by omega
      subst this
      rw [Int.sub_zero, fin]
      congr 1
      · simp
      · funext k
        unfold rkW
        rw [if_neg (by omega)]
  | succ d ih =>
    intro n f e a w e0 ef hf hn hz hw ht
    unfold rankP at ht ⊢
    have pv := hv (F * r + f) (by omega) (by omega)
    by_cases c : v (F * r + f) = 0
    · rw [if_pos c] at ht ⊢
      have := ih n (f + 1) (e + 1) a w (by omega) (by omega) (by omega) (by omega) (fun k k0 k1 => by
        by_cases z : k = F * r + f
        · rw [z]; exact c
        · exact hz k (by omega) (by omega)) (fun k k0 k1 => hw k (by omega) (by omega)) ht
      rw [show f + 1 - (e + 1) = f - e by omega] at this
      exact this
    · rw [if_neg c] at ht ⊢
      have hl := letP (p := v (F * r + f)) (by omega)
      have step : ∀ (n : Nat) (a : Int), F - f ≤ n → AtT t a ((letB (kindO (v (F * r + f))) + (if 6 < v (F * r + f) then 32 else 0)) :: rankP F v r (f + 1) 0 d) → rcF F r t n f a w = (a + 1 + (rankP F v r (f + 1) 0 d).length, rkW v w F r f) := by
        intro n a hn ht
        cases n with
        | zero => omega
        | succ n =>
          rw [show rcF F r t (n + 1) f a w = if F ≤ f then (a, w) else if 0 < idxC (t a) then rcF F r t n (f + 1) (a + 1) (upV w (r * F + f) (idxC (t a))) else if 49 < t a ∧ t a ≤ 56 then rcF F r t n (f + (t a - 49) + 1) (a + 1) w else rcF F r t n (f + 1) (a + 1) w from rfl, if_neg (by omega), ht.1, hl.2, if_pos (by omega), Int.mul_comm r F]
          have := ih n (f + 1) 0 (a + 1) (upV w (F * r + f) (v (F * r + f))) (by omega) (by omega) (by omega) (by omega) (fun k k0 k1 => by omega) (fun k k0 k1 => by unfold upV; rw [if_neg (by omega)]; exact hw k (by omega) (by omega)) ht.2
          rw [Int.sub_zero] at this
          rw [this, rkW_up (by omega) (fun k k0 k1 => hw k (by omega) k1)]
      by_cases c0 : 0 < e
      · rw [if_pos c0] at ht ⊢
        rw [AtT_app] at ht
        obtain ⟨n', e1, hn'⟩ := dig n f e a w c0 ef (by omega) hn ht.1.1
        rw [e1, step n' (a + 1) hn' (by simpa using ht.2)]
        congr 1
        · simp; omega
        · funext k
          unfold rkW
          by_cases z : F * r + f ≤ k ∧ k < F * r + F
          · rw [if_pos z, if_pos (by omega)]
          · rw [if_neg z]
            by_cases y : F * r + (f - e) ≤ k ∧ k < F * r + F
            · rw [if_pos y, hz k (by omega) (by omega)]; exact hw k (by omega) (by omega)
            · rw [if_neg y]
      · rw [if_neg c0, List.nil_append] at ht ⊢
        have : e = 0 := by omega
        subst this
        rw [Int.sub_zero] at hn ⊢
        rw [step n a hn ht]
        congr 1
        simp; omega
/-- the reference reads a rank -/
theorem rdF_rank (h8 : F ≤ 8) {v : Int → Int} {r : Int} (hv : ∀ k, F * r ≤ k → k < F * r + F → 0 ≤ v k ∧ v k ≤ 12) : ∀ (d n : Nat) (f e a : Int) (w : Int → Int), 0 ≤ e → e ≤ f → f + d = F → (F - (f - e)) ≤ n → (∀ k, F * r + (f - e) ≤ k → k < F * r + f → v k = 0) → (∀ k, F * r + (f - e) ≤ k → k < F * r + F → w k = 0) → AtT t a (rankP F v r f e d) →
    rdF F R t r n (f - e) a w = some (a + (rankP F v r f e d).length, rkW v w F r (f - e)) := by
  have dig : ∀ (n : Nat) (f e a : Int) (w : Int → Int), 0 < e → e ≤ f → f ≤ F → (F - (f - e)) ≤ n → (∀ k, F * r + (f - e) ≤ k → k < F * r + F → w k = 0) → t a = 48 + e → ∃ n', rdF F R t r n (f - e) a w = rdF F R t r n' f (a + 1) w ∧ F - f ≤ n' := by
    intro n f e a w e0 ef fF hn hw ht
    cases n with
    | zero => omega
    | succ n =>
      refine ⟨n, ?_, by omega⟩
      have hd := digP (e := e) ⟨e0, by omega⟩
      rw [show rdF F R t r (n + 1) (f - e) a w = if F ≤ f - e then some (a, w) else if pcB (t a) = 0 then (if 1 ≤ t a - 48 ∧ t a - 48 ≤ F - (f - e) then rdF F R t r n (f - e + (t a - 48)) (a + 1) (zfV (upV w (F * r + (f - e)) 0) (F * r + (f - e)) (t a - 48)) else none) else rdF F R t r n (f - e + 1) (a + 1) (upV w (F * r + (f - e)) (pcB (t a))) from rfl, if_neg (by omega), ht, hd.1, if_pos rfl, if_pos (by omega), show f - e + (48 + e - 48) = f by omega]
      congr 1
      funext k
      unfold zfV upV
      split
      · exact (hw k (by omega) (by omega)).symm
      · split
        · rename_i z; exact (hw k (by omega) (by omega)).symm
        · rfl
  have fin : ∀ (n : Nat) (a : Int) (w : Int → Int), rdF F R t r n F a w = some (a, w) := by
    intro n a w
    cases n with
    | zero => rfl
    | succ n => rw [show rdF F R t r (n + 1) F a w = if F ≤ F then some (a, w) else _ from rfl, if_pos (by omega)]
  intro d
  induction d with
  | zero =>
    intro n f e a w e0 ef hf hn hz hw ht
    have hF : f = F := by omega
    subst hF
    unfold rankP at ht ⊢
    by_cases c : 0 < e
    · rw [if_pos c] at ht ⊢
      obtain ⟨n', e1, -⟩ := dig n f e a w c ef (by omega) hn hw ht.1
      rw [e1, fin]
      congr 2
      funext k
      unfold rkW
      split
      · rw [hz k (by omega) (by omega)]; exact hw k (by omega) (by omega)
      · rfl
    · rw [if_neg c]
      have : e = 0 := by omega
      subst this
      rw [Int.sub_zero, fin]
      congr 2
      · simp
      · funext k
        unfold rkW
        rw [if_neg (by omega)]
  | succ d ih =>
    intro n f e a w e0 ef hf hn hz hw ht
    unfold rankP at ht ⊢
    have pv := hv (F * r + f) (by omega) (by omega)
    by_cases c : v (F * r + f) = 0
    · rw [if_pos c] at ht ⊢
      have := ih n (f + 1) (e + 1) a w (by omega) (by omega) (by omega) (by omega) (fun k k0 k1 => by
        by_cases z : k = F * r + f
        · rw [z]; exact c
        · exact hz k (by omega) (by omega)) (fun k k0 k1 => hw k (by omega) (by omega)) ht
      rw [show f + 1 - (e + 1) = f - e by omega] at this
      exact this
    · rw [if_neg c] at ht ⊢
      have hl := letP (p := v (F * r + f)) (by omega)
      have step : ∀ (n : Nat) (a : Int), F - f ≤ n → AtT t a ((letB (kindO (v (F * r + f))) + (if 6 < v (F * r + f) then 32 else 0)) :: rankP F v r (f + 1) 0 d) → rdF F R t r n f a w = some (a + 1 + (rankP F v r (f + 1) 0 d).length, rkW v w F r f) := by
        intro n a hn ht
        cases n with
        | zero => omega
        | succ n =>
          rw [show rdF F R t r (n + 1) f a w = if F ≤ f then some (a, w) else if pcB (t a) = 0 then (if 1 ≤ t a - 48 ∧ t a - 48 ≤ F - f then rdF F R t r n (f + (t a - 48)) (a + 1) (zfV (upV w (F * r + f) 0) (F * r + f) (t a - 48)) else none) else rdF F R t r n (f + 1) (a + 1) (upV w (F * r + f) (pcB (t a))) from rfl, if_neg (by omega), ht.1, hl.1, if_neg c]
          have := ih n (f + 1) 0 (a + 1) (upV w (F * r + f) (v (F * r + f))) (by omega) (by omega) (by omega) (by omega) (fun k k0 k1 => by omega) (fun k k0 k1 => by unfold upV; rw [if_neg (by omega)]; exact hw k (by omega) (by omega)) ht.2
          rw [Int.sub_zero] at this
          rw [this, rkW_up (by omega) (fun k k0 k1 => hw k (by omega) k1)]
      by_cases c0 : 0 < e
      · rw [if_pos c0] at ht ⊢
        rw [AtT_app] at ht
        obtain ⟨n', e1, hn'⟩ := dig n f e a w c0 ef (by omega) hn hw ht.1.1
        rw [e1, step n' (a + 1) hn' (by simpa using ht.2)]
        congr 2
        · simp; omega
        · funext k
          unfold rkW
          by_cases z : F * r + f ≤ k ∧ k < F * r + F
          · rw [if_pos z, if_pos (by omega)]
          · rw [if_neg z]
            by_cases y : F * r + (f - e) ≤ k ∧ k < F * r + F
            · rw [if_pos y, hz k (by omega) (by omega)]; exact hw k (by omega) (by omega)
            · rw [if_neg y]
      · rw [if_neg c0, List.nil_append] at ht ⊢
        have : e = 0 := by omega
        subst this
        rw [Int.sub_zero] at hn ⊢
        rw [step n a hn ht]
        congr 2
        simp; omega
end
