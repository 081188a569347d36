abbrev Mv : Type := Int × Int × Int
def pickM (r : Nat) (t : Mv) : Int := if r = 4 then t.1 else if r = 5 then t.2.1 else t.2.2
/-- a level's list of moves is laid anew -/
def putL (m : xM) (l : Int) (L : List Mv) : xM := fun r j => if r = 7 ∧ j = l then (L.length : Int) else if (r = 4 ∨ r = 5 ∨ r = 6) ∧ 320 * l ≤ j ∧ j < 320 * l + L.length then pickM r (L.getD (j - 320 * l).toNat (0, 0, 0)) else m r j
theorem putL_f (m : xM) (l : Int) (L : List Mv) {r : Nat} (j : Int) (h : (r == 7 || r == 4 || r == 5 || r == 6) = false) : putL m l L r j = m r j := by
  simp at h
  unfold putL
  rw [if_neg (by omega), if_neg (by omega)]
theorem putL_r (m : xM) (l : Int) (L : List Mv) {r : Nat} (h : (r == 7 || r == 4 || r == 5 || r == 6) = false) : putL m l L r = m r := funext fun j => putL_f m l L j h
theorem putL_n (m : xM) (l : Int) (L : List Mv) : putL m l L 7 l = L.length := by unfold putL; rw [if_pos ⟨rfl, rfl⟩]
theorem lv_row3 {m m1 : xM} (h : m1 3 = m 3) (l : Int) : lv m1 l = lv m l := by
  funext k; unfold lv vec; rw [h]
theorem lv_putL (m : xM) (l l' : Int) (L : List Mv) : lv (putL m l L) l' = lv m l' := lv_row3 (putL_r m l L rfl) l'
theorem putV_putV (m : xM) (a : Int) (w w' : Int → Int) : putV (putV m a w) a w' = putV m a w' := by
  funext r j; unfold putV; split <;> rfl
theorem putV_lv (m : xM) (l : Int) : putV m (67 * l) (lv m l) = m := by
  funext r j
  unfold putV
  by_cases c : r = 3 ∧ 67 * l ≤ j ∧ j < 67 * l + 67
  · rw [if_pos c, lvec_at m (by omega), c.1]; congr 1; omega
  · rw [if_neg c]
/-- the state while a level's moves are listed -/
def lsM (m : xM) (l : Int) (L : List Mv) (w : Int → Int) : xM := putV (putL m l L) (67 * (l + 1)) w
theorem lsM_f (m : xM) (l : Int) (L : List Mv) (w : Int → Int) {r : Nat} (j : Int) (h : (r == 3 || r == 7 || r == 4 || r == 5 || r == 6) = false) : lsM m l L w r j = m r j := by
  simp at h
  unfold lsM
  rw [putV_f _ _ _ _ (by simp; omega), putL_f _ _ _ _ (by simp; omega)]
theorem lsM_n (m : xM) (l : Int) (L : List Mv) (w : Int → Int) : lsM m l L w 7 l = L.length := by
  unfold lsM; rw [putV_f _ _ _ _ rfl, putL_n]
theorem lsM_lv (m : xM) (l : Int) (L : List Mv) (w : Int → Int) : lv (lsM m l L w) l = lv m l := by
  unfold lsM; rw [lv_putV_ne _ _ (by omega), lv_putL]
theorem lsM_next {m : xM} {l : Int} {L : List Mv} {w : Int → Int} (h : clV w) : lv (lsM m l L w) (l + 1) = w := lv_putV _ h
theorem lsM_putV (m : xM) (l : Int) (L : List Mv) (w w' : Int → Int) : putV (lsM m l L w) (67 * (l + 1)) w' = lsM m l L w' := putV_putV _ _ _ _
theorem lsM_snoc (m : xM) (l : Int) (L : List Mv) (w : Int → Int) (a b c : Int) :
    up (up (up (up (lsM m l L w) 4 (320 * l + L.length) a) 5 (320 * l + L.length) b) 6 (320 * l + L.length) c) 7 l (L.length + 1) = lsM m l (L ++ [(a, b, c)]) w := by
  funext r j
  by_cases h3 : r = 3
  · subst h3
    rw [up_f _ _ _ _ rfl, up_f _ _ _ _ rfl, up_f _ _ _ _ rfl, up_f _ _ _ _ rfl]
    unfold lsM putV
    rw [putL_f _ _ _ _ rfl, putL_f _ _ _ _ rfl]
  have hr : ∀ L', lsM m l L' w r j = putL m l L' r j := fun L' => putV_f _ _ _ _ (by simp; exact h3)
  rw [hr]
  unfold up
  rw [hr]
  unfold putL
  have hlen : ((L ++ [(a, b, c)]).length : Int) = L.length + 1 := by simp
  rw [hlen]
  by_cases c7 : r = 7 ∧ j = l
  · rw [if_pos c7, if_pos c7]
  rw [if_neg c7, if_neg c7, if_neg c7]
  by_cases cr : r = 4 ∨ r = 5 ∨ r = 6
  · by_cases cj : j = 320 * l + L.length
    · subst cj
      have e : (320 * l + (L.length : Int) - 320 * l).toNat = L.length := by omega
      have hc : (r = 4 ∨ r = 5 ∨ r = 6) ∧ 320 * l ≤ 320 * l + (L.length : Int) ∧ 320 * l + (L.length : Int) < 320 * l + (L.length + 1) := ⟨cr, by omega, by omega⟩
      rw [if_pos hc, e]
      rcases cr with rfl | rfl | rfl <;> simp [pickM]
    · rw [if_neg (by omega), if_neg (by omega), if_neg (by omega)]
      by_cases ci : 320 * l ≤ j ∧ j < 320 * l + L.length
      · rw [if_pos ⟨cr, ci⟩, if_pos ⟨cr, ci.1, by omega⟩]
        congr 1
        rw [List.getD_eq_getElem?_getD, List.getD_eq_getElem?_getD, List.getElem?_append_left (by omega)]
      · rw [if_neg (by omega), if_neg (by omega)]
  · rw [if_neg (by omega), if_neg (by omega), if_neg (by omega), if_neg (by omega), if_neg (by omega)]
section
variable {D : wD} {S : wS} {x : Nat} {A : Nat → Nat} {m : xM} {F R : Int} {post : wS → Prop}
theorem XB.ls (hB : XB m F R) (l : Int) (L : List Mv) (w : Int → Int) : XB (lsM m l L w) F R := ⟨by rw [lsM_f m l L w 1 rfl]; exact hB.f, by rw [lsM_f m l L w 2 rfl]; exact hB.r, hB.f4, hB.f8, hB.r4, hB.r8⟩
theorem q_lists (h : XC D S x A) {l a b c : Int} {L : List Mv} {w : Int → Int} (hl : 0 ≤ l ∧ l < 7) (hL : L.length < 320) (k : post (xS S x A (lsM m l (L ++ [(a, b, c)]) w))) :
    wp_X12_lists D post (xS S x A (lsM m l L w)) x (iI l) (iI a) (iI b) (iI c) := by
  have i1 : vp_in (iI l) 8 := iI_in (by omega) (by omega) (by omega)
  have i2 : vp_in (iI (320 * l + L.length)) 2560 := iI_in (by omega) (by omega) (by omega)
  simp (discharger := first | decide | omega) only [x_own h, x_kd h, x_r h, x_m h, x_l h, x_k h, x_n h, x_i0, x_i h, x_u0 h, x_u h, xLen, xKd, nlit, iI_lit, iI_add, iI_sub, iI_mul, iI_neg, bI_z, bI_o, i10, i01, eq_self, bI_nar, nar_0, nar_1, up_at, up_f, Option.some.injEq, exists_eq_left', true_and, and_true, forall_eq, not_true_eq_false, not_false_eq_true, forall_const, false_implies, true_implies, Classical.not_not, if_true, if_false, Int.reduceEq, Int.reduceLT, Int.reduceLE, Int.reduceGT, Int.reduceGE, Int.reduceAdd, Int.reduceSub, Int.reduceMul, Int.reduceNeg, Int.reduceNe, wp_X12_lists, wp_X12_lists_0, eq_true i1, lsM_n, eq_true i2]
  rw [lsM_snoc]
  exact k
end
