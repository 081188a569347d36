/-! PHASE 3: endings: the rows of a solved ending -/
def eln : Nat → Nat
  | 0 => 125000
  | 1 => 31250
  | 2 => 15625
  | _ => 0
def eS (S : wS) (y : Nat → Nat) (e : xM) : wS := (S.1, S.2.1, S.2.2.1, fun a j => if a = y 0 then iI (e 0 (j : Int)) else if a = y 1 then iI (e 1 (j : Int)) else if a = y 2 then iI (e 2 (j : Int)) else S.2.2.2.1 a j, S.2.2.2.2.1, S.2.2.2.2.2)
abbrev EC (D : wD) (S : wS) (o : Nat → Nat) (y : Nat → Nat) : Prop := (∀ k, k < 3 → (y k ∈ sL S ∧ sK S (y k) = 21 ∧ sN S (y k) = eln k) ∧ sR S (o 45) (4 + k) = some (y k) ∧ ∀ n, cOk n = true → o n ≠ y k) ∧ y 0 ≠ y 1 ∧ y 0 ≠ y 2 ∧ y 1 ≠ y 2
/-- the places of the table -/
def eIx (its w b p : Int) : Int := (if its = 0 then 0 else 15625) + (w * 25 + b) * 25 + p
abbrev eT : Type := xM × Int
def valE (kd : Int) (e : xM) (i : Int) : Int := e 0 ((kd - 2) * 31250 + i)
def setE (kd i v : Int) (e : xM) : xM := up e 0 ((kd - 2) * 31250 + i) v
def winE (kd i v : Int) (t : eT) : eT := if t.2 < 31250 then (up (setE kd i v t.1) 1 t.2 i, t.2 + 1) else t
def reachE (kd i v : Int) (t : eT) : eT := if valE kd t.1 i = -1 then winE kd i v t else t
def loseE (kd i v : Int) (t : eT) : eT :=
  if valE kd t.1 i = -1 then (if t.1 2 i - 1 = 0 then winE kd i v (up t.1 2 i (t.1 2 i - 1), t.2) else (up t.1 2 i (t.1 2 i - 1), t.2)) else t
/-- the numbers stay small -/
abbrev EB (t : eT) (V W : Int) : Prop := (0 ≤ t.2 ∧ t.2 ≤ 31250) ∧ (∀ i, 0 ≤ i → i < 125000 → -2 ≤ t.1 0 i ∧ t.1 0 i ≤ V) ∧ ∀ i, 0 ≤ i → i < 15625 → -W ≤ t.1 2 i ∧ t.1 2 i ≤ 100
section
variable {D : wD} {S : wS} {o : Nat → Nat} {y : Nat → Nat} {c : cM} {e : xM} {q : Int} {kd : Int}
theorem EC.row (hE : EC D S o y) {k : Nat} (hk : k < 3) : cRow o (y k) = none := by
  unfold cRow
  cases z : cLs.find? (fun n => o n == y k) with
  | none => rfl
  | some n =>
    have h2 := List.find?_some z
    have h3 := List.mem_of_find?_eq_some z
    exact absurd (by simpa using h2) ((hE.1 k hk).2.2 n (by simpa [cOk] using h3))
theorem eS_at (hE : EC D S o y) {k : Nat} (hk : k < 3) (j : Nat) : sI (eS S y e) (y k) j = iI (e k (j : Int)) := by
  show (if y k = y 0 then iI (e 0 (j : Int)) else if y k = y 1 then iI (e 1 (j : Int)) else if y k = y 2 then iI (e 2 (j : Int)) else S.2.2.2.1 (y k) j) = _
  rcases (show k = 0 ∨ k = 1 ∨ k = 2 by omega) with rfl | rfl | rfl
  · rw [if_pos rfl]
  · rw [if_neg (fun z => hE.2.1 z.symm), if_pos rfl]
  · rw [if_neg (fun z => hE.2.2.1 z.symm), if_neg (fun z => hE.2.2.2 z.symm), if_pos rfl]
theorem e_i0 (hE : EC D S o y) {k : Nat} (hk : k < 3) (j : Nat) : sI (cS (eS S y e) o c) (y k) j = iI (e k (j : Int)) := by
  show (match cRow o (y k) with | some n => iI (c.1 n (j : Int)) | none => (eS S y e).2.2.2.1 (y k) j) = _
  rw [hE.row hk]
  exact eS_at hE hk j
theorem e_i (hE : EC D S o y) {k : Nat} (hk : k < 3) {a : Int} (h1 : 0 ≤ a) (h2 : a < 2147483648) : sI (cS (eS S y e) o c) (y k) (iI a).toNatClampNeg = iI (e k a) := by
  rw [e_i0 hE hk, iI_nat h1 h2]
theorem eS_up (hE : EC D S o y) {k : Nat} (hk : k < 3) (j : Nat) (v : Int) : uI (cS (eS S y e) o c) (y k) j (iI v) = cS (eS S y (up e k (j : Int) v)) o c := by
  have : (uI (cS (eS S y e) o c) (y k) j (iI v)).2.2.2.1 = (cS (eS S y (up e k (j : Int) v)) o c).2.2.2.1 := by
    funext a i
    show va_up (cS (eS S y e) o c).2.2.2.1 (y k) (va_up ((cS (eS S y e) o c).2.2.2.1 (y k)) j (iI v)) a i = (match cRow o a with | some n => iI (c.1 n (i : Int)) | none => (eS S y (up e k (j : Int) v)).2.2.2.1 a i)
    by_cases ha : a = y k
    · subst ha
      rw [va_up_self, hE.row hk]
      show va_up (sI (cS (eS S y e) o c) (y k)) j (iI v) i = sI (eS S y (up e k (j : Int) v)) (y k) i
      rw [eS_at hE hk]
      by_cases hi : i = j
      · subst hi; rw [va_up_self, up_at]
      · rw [va_up_ne _ _ hi, up_ne _ (Or.inr (by omega))]
        exact e_i0 hE hk i
    · rw [va_up_ne _ _ ha]
      show (match cRow o a with | some n => iI (c.1 n (i : Int)) | none => (eS S y e).2.2.2.1 a i) = _
      cases hq : cRow o a with
      | some g => rfl
      | none =>
        show (if a = y 0 then iI (e 0 (i : Int)) else if a = y 1 then iI (e 1 (i : Int)) else if a = y 2 then iI (e 2 (i : Int)) else S.2.2.2.1 a i) = (if a = y 0 then iI (up e k j v 0 (i : Int)) else if a = y 1 then iI (up e k j v 1 (i : Int)) else if a = y 2 then iI (up e k j v 2 (i : Int)) else S.2.2.2.1 a i)
        by_cases z0 : a = y 0
        · have : (0 : Nat) ≠ k := fun z => ha (by rw [z0, z])
          rw [if_pos z0, if_pos z0, up_ne _ (Or.inl this)]
        · rw [if_neg z0, if_neg z0]
          by_cases z1 : a = y 1
          · have : (1 : Nat) ≠ k := fun z => ha (by rw [z1, z])
            rw [if_pos z1, if_pos z1, up_ne _ (Or.inl this)]
          · rw [if_neg z1, if_neg z1]
            by_cases z2 : a = y 2
            · have : (2 : Nat) ≠ k := fun z => ha (by rw [z2, z])
              rw [if_pos z2, if_pos z2, up_ne _ (Or.inl this)]
            · rw [if_neg z2, if_neg z2]
  show (_, _, _, (uI (cS (eS S y e) o c) (y k) j (iI v)).2.2.2.1, _, _) = _
  rw [this]; rfl
theorem e_u (hE : EC D S o y) {k : Nat} (hk : k < 3) {a : Int} (h1 : 0 ≤ a) (h2 : a < 2147483648) (v : Int) : uI (cS (eS S y e) o c) (y k) (iI a).toNatClampNeg (iI v) = cS (eS S y (up e k a v)) o c := by
  rw [eS_up hE hk, iI_nat h1 h2]
theorem EC.r (hE : EC D S o y) {k : Nat} (hk : k < 3) : sR (cS (eS S y e) o c) (o 45) (4 + k) = some (y k) ∧ wM D (cS (eS S y e) o c) (y k) ∧ sK (cS (eS S y e) o c) (y k) = 21 := ⟨(hE.1 k hk).2.1, Or.inl (hE.1 k hk).1.1, (hE.1 k hk).1.2.1⟩
theorem EC.l (hE : EC D S o y) {k : Nat} (hk : k < 3) : y k ∈ sL (cS (eS S y e) o c) := (hE.1 k hk).1.1
theorem EC.n (hE : EC D S o y) {k : Nat} (hk : k < 3) : sN (cS (eS S y e) o c) (y k) = eln k := (hE.1 k hk).1.2.2
theorem ccE (h : CC D S o) (y : Nat → Nat) (e : xM) : CC D (eS S y e) o := h
theorem q_indexOf {post : Int32 → wS → Prop} {U : wS} {its w b p : Int} (hi : its = 0 ∨ its = 1) (k : post (iI (eIx its w b p)) U) : wp_X2_indexOf D post U (iI its) (iI w) (iI b) (iI p) := by
  unfold wp_X2_indexOf wp_X2_indexOf_0 wp_X2_indexOf_11
  rw [show (25 : Int32) = iI 25 from rfl, show (0 : Int32) = iI 0 from rfl, show (15625 : Int32) = iI 15625 from rfl]
  simp only [iI_mul, iI_add]
  unfold eIx at k
  rcases hi with z | z
  · rw [z]; rw [if_pos z] at k
    exact ⟨fun _ => k, fun w => absurd rfl w⟩
  · rw [z]; rw [if_neg (by omega)] at k
    exact ⟨fun w => absurd w (by decide), fun _ => k⟩
theorem q_valueAtE {post : Int32 → wS → Prop} (hE : EC D S o y) (hk : 2 ≤ kd ∧ kd ≤ 5) {i : Int} (hi : 0 ≤ i ∧ i < 31250) (k : post (iI (valE kd e i)) (cS (eS S y e) o c)) : wp_X2_valueAt D post (cS (eS S y e) o c) (o 45) (iI kd) (iI i) := by
  unfold wp_X2_valueAt wp_X2_valueAt_0 wp_X2_valueAt_43 wp_X2_valueAt_45
  intro x1 e1
  rw [show (2 : Int32) = iI 2 from rfl, show (31250 : Int32) = iI 31250 from rfl, iI_sub, iI_mul, iI_add] at e1
  rw [e1, show (0 : Int32) = iI 0 from rfl, show (31250 : Int32) = iI 31250 from rfl, iI_lt (by omega) (by omega) (by decide) (by decide), iI_le (by decide) (by decide) (by omega) (by omega), iI_lt (by omega) (by omega) (by decide) (by decide)]
  have r0 := hE.r (e := e) (c := c) (k := 0) (by decide)
  have n0 : sN (cS (eS S y e) o c) (y 0) = 125000 := hE.n (by decide)
  refine ⟨fun q => absurd q (by omega), fun _ => ⟨fun q => absurd q (by omega), fun _ => ⟨fun q => absurd q (by omega), fun _ => ⟨y 0, r0.1, r0.2.1, r0.2.2, ?_⟩⟩⟩⟩
  rw [n0, show Int32.ofNat 125000 = iI 125000 from rfl, iI_le (by decide) (by decide) (by omega) (by omega)]
  refine ⟨fun q => absurd q (by omega), fun _ => ⟨y 0, r0.1, r0.2.1, r0.2.2, ?_, ?_⟩⟩
  · rw [n0]; exact iI_in (by omega) (by omega) (by omega)
  · rw [e_i hE (by decide) (by omega) (by omega)]; exact k
theorem q_setValueE {post : wS → Prop} (hE : EC D S o y) (hk : 2 ≤ kd ∧ kd ≤ 5) {i v : Int} (hi : 0 ≤ i ∧ i < 31250) (k : post (cS (eS S y (setE kd i v e)) o c)) : wp_X2_setValue D post (cS (eS S y e) o c) (o 45) (iI kd) (iI i) (iI v) := by
  unfold wp_X2_setValue wp_X2_setValue_0 wp_X2_setValue_45
  intro x1 e1
  rw [show (2 : Int32) = iI 2 from rfl, show (31250 : Int32) = iI 31250 from rfl, iI_sub, iI_mul, iI_add] at e1
  rw [e1, show (0 : Int32) = iI 0 from rfl, show (31250 : Int32) = iI 31250 from rfl, iI_lt (by omega) (by omega) (by decide) (by decide), iI_le (by decide) (by decide) (by omega) (by omega), iI_lt (by omega) (by omega) (by decide) (by decide)]
  have r0 := hE.r (e := e) (c := c) (k := 0) (by decide)
  have n0 : sN (cS (eS S y e) o c) (y 0) = 125000 := hE.n (by decide)
  refine ⟨fun q => absurd q (by omega), fun _ => ⟨fun q => absurd q (by omega), fun _ => ⟨fun q => absurd q (by omega), fun _ => ⟨y 0, r0.1, r0.2.1, r0.2.2, ?_⟩⟩⟩⟩
  rw [n0, show Int32.ofNat 125000 = iI 125000 from rfl, iI_le (by decide) (by decide) (by omega) (by omega)]
  refine ⟨fun q => absurd q (by omega), fun _ => ⟨y 0, r0.1, r0.2.1, r0.2.2, hE.l (by decide), ?_, fun S9 e9 => ?_⟩⟩
  · rw [n0]; exact iI_in (by omega) (by omega) (by omega)
  · rw [e_u hE (by decide) (by omega) (by omega)] at e9
    rw [e9]; exact k
/-- the class's cells with so many won positions in the queue -/
abbrev qC (c : cM) (q : Int) : cM := cI c 45 7 q
theorem q_winE {post : wS → Prop} (h : CC D S o) (hE : EC D S o y) (hk : 2 ≤ kd ∧ kd ≤ 5) {i v : Int} (hi : 0 ≤ i ∧ i < 31250) {t : eT} (hq : 0 ≤ t.2 ∧ t.2 ≤ 31250) (k : post (cS (eS S y (winE kd i v t).1) o (qC c (winE kd i v t).2))) : wp_X2_win D post (cS (eS S y t.1) o (qC c t.2)) (o 45) (iI kd) (iI i) (iI v) := by
  obtain ⟨e, q⟩ := t
  unfold wp_X2_win wp_X2_win_0 wp_X2_win_46
  have h' := ccE h y
  have e7 : ∀ e, sI (cS (eS S y e) o (qC c q)) (o 45) 7 = iI q := fun e => by rw [c_i1 (h' e) (by decide) (show ((7 : Nat) : Int) = 7 from rfl), cI_1, up_at]
  dsimp only at hq k ⊢
  rw [e7, show (0 : Int32) = iI 0 from rfl, iI_lt (by omega) (by omega) (by decide) (by decide)]
  have r1 := fun e => hE.r (e := e) (c := qC c q) (k := 1) (by decide)
  have n1 : ∀ e, sN (cS (eS S y e) o (qC c q)) (y 1) = 31250 := fun e => hE.n (by decide)
  refine ⟨fun w => absurd w (by omega), fun _ => ⟨y 1, (r1 e).1, (r1 e).2.1, (r1 e).2.2, ?_⟩⟩
  rw [n1, show Int32.ofNat 31250 = iI 31250 from rfl, iI_le (by decide) (by decide) (by omega) (by omega)]
  unfold winE at k
  dsimp only at k
  refine ⟨fun w => ?_, fun w => ?_⟩
  · rw [if_neg (by omega)] at k; exact k
  · rw [if_pos (by omega)] at k
    refine q_setValueE hE hk hi ?_
    refine ⟨y 1, (r1 _).1, (r1 _).2.1, (r1 _).2.2, hE.l (by decide), ?_, fun S8 e8 S9 e9 => ?_⟩
    · rw [e7, n1]; exact iI_in (by omega) (by omega) (by omega)
    · rw [e7, e_u hE (by decide) (by omega) (by omega)] at e8
      rw [e8, e7, show (1 : Int32) = iI 1 from rfl, iI_add, c_u1 (h' _) (by decide) (show ((7 : Nat) : Int) = 7 from rfl)] at e9
      have eq2 : cI (qC c q) 45 7 (q + 1) = qC c (q + 1) := by
        refine Prod.ext (funext fun g => funext fun j => ?_) rfl
        show up (up c.1 45 7 q) 45 7 (q + 1) g j = up c.1 45 7 (q + 1) g j
        unfold up
        split <;> rfl
      rw [e9, eq2]
      exact k
theorem q_reachE {post : wS → Prop} (h : CC D S o) (hE : EC D S o y) (hk : 2 ≤ kd ∧ kd ≤ 5) {i v : Int} (hi : 0 ≤ i ∧ i < 31250) {t : eT} (hq : 0 ≤ t.2 ∧ t.2 ≤ 31250) (hv : i32 (valE kd t.1 i)) (k : post (cS (eS S y (reachE kd i v t).1) o (qC c (reachE kd i v t).2))) : wp_X2_reachWin D post (cS (eS S y t.1) o (qC c t.2)) (o 45) (iI kd) (iI i) (iI v) := by
  unfold wp_X2_reachWin wp_X2_reachWin_0 wp_X2_reachWin_17
  refine q_valueAtE hE hk hi ?_
  rw [show (-1 : Int32) = iI (-1) from rfl, iI_eq hv.1 hv.2 (by decide) (by decide)]
  unfold reachE at k
  refine ⟨fun w => ?_, fun w => ?_⟩
  · rw [if_neg w] at k; exact k
  · rw [if_pos w] at k
    exact q_winE h hE hk hi hq k
theorem q_loseE {post : wS → Prop} (h : CC D S o) (hE : EC D S o y) (hk : 2 ≤ kd ∧ kd ≤ 5) {i v : Int} (hi : 0 ≤ i ∧ i < 15625) {t : eT} (hq : 0 ≤ t.2 ∧ t.2 ≤ 31250) (hv : i32 (valE kd t.1 i)) (hw : -2147483647 ≤ t.1 2 i ∧ t.1 2 i < 2147483648) (k : post (cS (eS S y (loseE kd i v t).1) o (qC c (loseE kd i v t).2))) : wp_X2_loseMove D post (cS (eS S y t.1) o (qC c t.2)) (o 45) (iI kd) (iI i) (iI v) := by
  unfold wp_X2_loseMove wp_X2_loseMove_0 wp_X2_loseMove_23 wp_X2_loseMove_50
  refine q_valueAtE hE hk (by omega) ?_
  rw [show (-1 : Int32) = iI (-1) from rfl, show (0 : Int32) = iI 0 from rfl, iI_eq hv.1 hv.2 (by decide) (by decide), iI_lt (by omega) (by omega) (by decide) (by decide)]
  unfold loseE at k
  have r2 := fun e => hE.r (e := e) (c := qC c t.2) (k := 2) (by decide)
  have n2 : ∀ e, sN (cS (eS S y e) o (qC c t.2)) (y 2) = 15625 := fun e => hE.n (by decide)
  refine ⟨fun w => ?_, fun w => ⟨fun z => absurd z (by omega), fun _ => ⟨y 2, (r2 _).1, (r2 _).2.1, (r2 _).2.2, ?_⟩⟩⟩
  · rw [if_neg w] at k; exact k
  rw [if_pos w] at k
  have iv : ∀ e, vp_in (iI i) (sN (cS (eS S y e) o (qC c t.2)) (y 2)) := fun e => by rw [n2]; exact iI_in (by omega) (by omega) (by omega)
  rw [n2, show Int32.ofNat 15625 = iI 15625 from rfl, iI_lt (by omega) (by omega) (by decide) (by decide)]
  refine ⟨fun _ => ⟨y 2, (r2 _).1, (r2 _).2.1, (r2 _).2.2, iv _, hE.l (by decide), iv _, fun S10 e10 => ?_⟩, fun z => absurd hi.2 z⟩
  rw [e_i hE (by decide) hi.1 (by omega), show (1 : Int32) = iI 1 from rfl, iI_sub, e_u hE (by decide) hi.1 (by omega)] at e10
  rw [e10]
  refine ⟨y 2, (r2 _).1, (r2 _).2.1, (r2 _).2.2, iv _, ?_⟩
  rw [e_i hE (by decide) hi.1 (by omega), up_at, iI_eq (by omega) (by omega) (by decide) (by decide)]
  refine ⟨fun z => ?_, fun z => ?_⟩
  · rw [if_neg z] at k; exact k
  · rw [if_pos z] at k
    exact q_winE (t := (up t.1 2 i (t.1 2 i - 1), t.2)) h hE hk (by omega) hq k
end
