/-! PHASE 3: continuations gathered -/
section
variable {D : wD} {S : wS} {o : Nat → Nat} {c : cM} {F R : Int} {v : Int → Int} {yl : Int → Nat} {els : Int → List Nat} {n : Int → Int → Int} {w : Int → Int → Int → Int → Int} {mv : Int → Int → Int → Mv} {fr : Int → Int → Int → Bool} {inf : Int → Int → Nat → Int} {ys : Int → Int → Nat × Nat × Nat}
abbrev mOKL (F R : Int) (v : Int → Int) : Prop := ∀ i : Int, 0 ≤ i → i < (movesL F R v).length → mOK ((movesL F R v).getD i.toNat (0, 0, 0))
/-- the number of a code in the list of moves -/
def nidC (F R : Int) (v : Int → Int) (x : Int) : Int := firstL (fun i => decide (mcode ((movesL F R v).getD i.toNat (0, 0, 0)) = x)) 0 (movesL F R v).length
/-- whether a game goes on from the position, at its move k, with the move i -/
def hitC (F R : Int) (v : Int → Int) (n : Int → Int) (w : Int → Int → Int → Int) (mv : Int → Int → Mv) (g i : Int) (k : Int) : Bool := sameB (w g k) v && decide (nidC F R v (mcode (mv g k)) = i)
def gtC (F R : Int) (v : Int → Int) (n : Int → Int) (w : Int → Int → Int → Int) (mv : Int → Int → Mv) (i : Int) (g : Nat) : Int := sumL (fun g => if anyL (hitC F R v n w mv g i) 0 (n g).toNat then 1 else 0) 0 g
/-- what the rows of numbers hold amid a game -/
abbrev GTI (F R : Int) (v : Int → Int) (n : Int → Int) (w : Int → Int → Int → Int) (mv : Int → Int → Mv) (c : cM) (g : Nat) (j : Nat) : Prop := ∀ i : Int, 0 ≤ i → i < 1728 →
  c.1 35 i = gtC F R v n w mv i g + (if anyL (hitC F R v n w mv g i) 0 j then 1 else 0) ∧ (anyL (hitC F R v n w mv g i) 0 j = true → c.1 36 i = g) ∧ (anyL (hitC F R v n w mv g i) 0 j = false → -1 ≤ c.1 36 i ∧ c.1 36 i < g)
theorem notM_sim (c : cM) (i g : Int) : cSim [35, 36] c (notM c i g) := by
  unfold notM
  split
  · exact cSim.refl _ _
  · exact ((cI_sim c 36 i g).mono (by decide)).trans ((cI_sim _ 35 i _).mono (by decide))
theorem sumL_snoc (f : Int → Int) : ∀ (d : Nat) (k : Int), sumL f k (d + 1) = sumL f k d + f (k + d) := by
  intro d
  induction d with
  | zero => intro k; simp [sumL]
  | succ d ih =>
    intro k
    rw [sumL_S, ih (k + 1), sumL_S, show k + 1 + (d : Int) = k + ((d + 1 : Nat) : Int) by omega, Int.add_assoc]
theorem GTI.game {n : Int → Int} {w : Int → Int → Int → Int} {mv : Int → Int → Mv} {g : Nat} (h : GTI F R v n w mv c g (n g).toNat) : GTI F R v n w mv c (g + 1) 0 := fun i i0 i1 => by
  obtain ⟨h1, h2, h3⟩ := h i i0 i1
  refine ⟨?_, fun q => absurd q (by simp [anyL]), fun _ => ?_⟩
  · rw [h1]
    unfold gtC
    rw [sumL_snoc, Int.zero_add]
    simp [anyL]
  · cases q : anyL (hitC F R v n w mv g i) 0 (n g).toNat
    · have := h3 q; omega
    · have := h2 q; omega
theorem GTI.skip {n : Int → Int} {w : Int → Int → Int → Int} {mv : Int → Int → Mv} {g j : Nat} (h : GTI F R v n w mv c g j) (q : ∀ i : Int, 0 ≤ i → i < 1728 → hitC F R v n w mv g i j = false) : GTI F R v n w mv c g (j + 1) := fun i i0 i1 => by
  rw [anyL_snoc, Int.zero_add, q i i0 i1, Bool.or_false]
  exact h i i0 i1
theorem GTI.hit {n : Int → Int} {w : Int → Int → Int → Int} {mv : Int → Int → Mv} {g j : Nat} (h : GTI F R v n w mv c g j) {x : Int} (hx : 0 ≤ x ∧ x < 1728) (q : ∀ i : Int, 0 ≤ i → i < 1728 → hitC F R v n w mv g i j = decide (x = i)) : GTI F R v n w mv (notM c x g) g (j + 1) := fun i i0 i1 => by
  obtain ⟨h1, h2, h3⟩ := h i i0 i1
  rw [anyL_snoc, Int.zero_add, q i i0 i1]
  unfold notM
  by_cases z : x = i
  · subst z
    rw [decide_eq_true rfl, Bool.or_true]
    by_cases y : c.1 36 x = g
    · rw [if_pos y]
      have a : anyL (hitC F R v n w mv g x) 0 j = true := by
        cases a : anyL (hitC F R v n w mv g x) 0 j
        · have := h3 a; omega
        · rfl
      rw [a] at h1
      exact ⟨h1, fun _ => y, fun u => absurd u (by decide)⟩
    · rw [if_neg y]
      have a : anyL (hitC F R v n w mv g x) 0 j = false := by
        cases a : anyL (hitC F R v n w mv g x) 0 j
        · rfl
        · exact absurd (h2 a) y
      rw [a] at h1
      refine ⟨?_, fun _ => ?_, fun u => absurd u (by decide)⟩
      · rw [cI_1, up_at, h1]; simp
      · rw [cI_1, up_ne _ (Or.inl (by decide)), cI_1, up_at]
  · rw [decide_eq_false z, Bool.or_false]
    by_cases y : c.1 36 x = g
    · rw [if_pos y]; exact ⟨h1, h2, h3⟩
    · rw [if_neg y, cI_1, up_ne _ (Or.inr (fun u => z u.symm)), cI_1, up_ne _ (Or.inl (by decide)), up_ne _ (Or.inl (by decide)), up_ne _ (Or.inr (fun u => z u.symm))]
      exact ⟨h1, h2, h3⟩
theorem q_noteN {post : wS → Prop} {U : wS} {a : Nat} {g : Int} (k : post U) : wp_X1_note D post U a (iI (-1)) (iI g) := by
  unfold wp_X1_note wp_X1_note_0 wp_X1_note_49
  rw [show (0 : Int32) = iI 0 from rfl, iI_lt (by decide) (by decide) (by decide) (by decide)]
  exact ⟨fun _ => k, fun q => absurd (by decide) q⟩
/-- one game -/
theorem q_gather_44 {post : wS → Prop} {k26 : wS → Nat → Nat → Nat → Int32 → Prop} (h : CC D S o) (hS : SHL D S o c yl els n w mv fr inf ys) (hl : ∀ s : Int, (s = 0 ∨ s = 1) → offK (cLs.map o) (els s) (ys s)) {s : Int} (hs : s = 0 ∨ s = 1) (hm : mOKL F R v) (hf : few F R v) (hv : rgV v) {g : Nat} (hg : g < (els s).length) :
    ∀ (f d : Nat) (j : Nat) (c1 : cM), d < f → (j : Int) + d = n s g → cSim [35, 36] c c1 → LK c F R v → PAt c 11 v → GTI F R v (n s) (w s) (mv s) c1 g j →
    (∀ c2, cSim [35, 36] c c2 → GTI F R v (n s) (w s) (mv s) c2 g (n s g).toNat → k26 (cS S o c2) (o 34) (o (sbO s)) (o 11) (iI ((g : Int) + 1))) →
    wp_X1_gather_44 D post k26 f (cS S o c1) (o 34) (o (sbO s)) (o 11) (iI g) (some ((els s).getD g 0)) (iI j) := by
  have len : ((movesL F R v).length : Int) ≤ 320 := hf
  intro f
  induction f with
  | zero => intro d j c1 hd; omega
  | succ f ih =>
    intro d j c1 hd hj hc hL hA hI k
    have hS1 := SHL.over h c c1 hl hS s hs
    have h40 := hS1.2.1
    have gg := hS1.2.2 g (by omega) (by omega)
    rw [Int.toNat_natCast] at gg
    have hn := gg.1.2.2.1
    have g8 := hS1.g8 (g := (g : Int)) ⟨by omega, by omega⟩
    rw [Int.toNat_natCast] at g8
    unfold wp_X1_gather_44
    refine ⟨fun q => absurd q (by simp), fun y1 hy => ?_⟩
    injection hy with hy
    rw [← hy]
    refine ⟨g8.1, g8.2, ?_⟩
    rw [gg.1.2.2.2.1, iI_le (by omega) (by omega) (by omega) (by omega)]
    refine ⟨fun q => ?_, fun q => ?_⟩
    · unfold wp_X1_gather_98
      intro x1 e1
      rw [e1, show (1 : Int32) = iI 1 from rfl, iI_add]
      refine k c1 hc ?_
      rw [show (n s g).toNat = j by omega]; exact hI
    · obtain ⟨d', rfl⟩ : ∃ d', d = d' + 1 := ⟨d - 1, by omega⟩
      refine ⟨(ys s g).1, gg.1.1.1, gg.1.1.2.1, gg.1.1.2.2.1, ?_⟩
      have sv := gg.1.2.2.2.2.1 j (by omega) (by omega)
      have yn := gg.1.1.2.2.2
      refine q_isSavedAt (PAt.po h isP11 (hc.P (by decide) hA)) hv sv.1 sv.2 ⟨by omega, by omega⟩ (by omega) ?_
      rw [bI_0]
      have nx : ∀ c2, cSim [35, 36] c c2 → GTI F R v (n s) (w s) (mv s) c2 g (j + 1) → wp_X1_gather_92 D post k26 (wp_X1_gather_44 D post k26 f) (cS S o c2) (o 34) (o (sbO s)) (o 11) (iI g) ((els s).getD g 0) (iI j) := by
        intro c2 hc2 hI2
        unfold wp_X1_gather_92
        intro x1 e1
        rw [e1, show (1 : Int32) = iI 1 from rfl, iI_add, show (j : Int) + 1 = ((j + 1 : Nat) : Int) by omega]
        exact ih d' (j + 1) c2 (by omega) (by omega) hc2 hL hA hI2 k
      refine ⟨fun z => nx c1 hc (hI.skip fun i _ _ => by unfold hitC; rw [z, Bool.false_and]), fun z => ⟨o 17, c_r h rfl, (c_m h (by decide)).mpr trivial, c_k h (by decide), ?_⟩⟩
      have z : sameB (w s g j) v = true := (Bool.not_eq_false _).mp z
      refine q_moveAt gg.1 (i := j) ⟨by omega, by omega⟩ ?_
      have mo := (gg.1.2.2.2.2.2 j (by omega) (by omega)).2
      have mr := mcode_r mo
      refine q_numberOfCode h (hL.sim hc (by decide) (by decide) (by decide)) (by omega) (fun i i0 i1 => by have := mcode_r (hm i i0 i1); exact ⟨by omega, by omega⟩) (x := mcode (mv s g j)) ⟨by omega, by omega⟩ ?_
      have fr := firstL_r (fun i => decide (mcode ((movesL F R v).getD i.toNat (0, 0, 0)) = mcode (mv s g j))) (movesL F R v).length 0
      have ei : firstL (fun i => decide (mcode ((movesL F R v).getD i.toNat (0, 0, 0)) = mcode (mv s g j))) 0 (movesL F R v).length = nidC F R v (mcode (mv s g j)) := rfl
      rw [ei] at fr ⊢
      by_cases y : nidC F R v (mcode (mv s g j)) = -1
      · rw [y]
        refine q_noteN ?_
        refine nx c1 hc (hI.skip fun i i0 _ => ?_)
        unfold hitC
        rw [y, z, decide_eq_false (by omega)]; rfl
      · refine q_note h (i := nidC F R v (mcode (mv s g j))) (by omega) (g := (g : Int)) ⟨by omega, by omega⟩ ?_ ?_
        · obtain ⟨-, h2, h3⟩ := hI (nidC F R v (mcode (mv s g j))) (by omega) (by omega)
          cases u : anyL (hitC F R v (n s) (w s) (mv s) g (nidC F R v (mcode (mv s g j)))) 0 j
          · have := h3 u; exact ⟨by omega, by omega⟩
          · have := h2 u; exact ⟨by omega, by omega⟩
        · refine nx _ (hc.trans (notM_sim c1 _ _)) (hI.hit (by omega) fun i _ _ => ?_)
          unfold hitC
          rw [z, Bool.true_and]
/-- all games -/
theorem q_gather_26 {post : wS → Prop} (h : CC D S o) (hS : SHL D S o c yl els n w mv fr inf ys) (hl : ∀ s : Int, (s = 0 ∨ s = 1) → offK (cLs.map o) (els s) (ys s)) {s : Int} (hs : s = 0 ∨ s = 1) (hm : mOKL F R v) (hf : few F R v) (hv : rgV v) (hL : LK c F R v) (hA : PAt c 11 v) :
    ∀ (f d g : Nat) (c1 : cM), d < f → g + d = (els s).length → cSim [35, 36] c c1 → GTI F R v (n s) (w s) (mv s) c1 g 0 →
    (∀ c2, cSim [35, 36] c c2 → GTI F R v (n s) (w s) (mv s) c2 (els s).length 0 → ∃ n_4 : Nat, wp_X1_gather_106 D post n_4 (cS S o c2) (o 34) (0 : Int32)) →
    wp_X1_gather_26 D post f (cS S o c1) (o 34) (o (sbO s)) (o 11) (iI g) := by
  intro f
  induction f with
  | zero => intro d g c1 hd; omega
  | succ f ih =>
    intro d g c1 hd hg hc hI k
    have hS1 := SHL.over h c c1 hl hS s hs
    have h40 := hS1.2.1
    unfold wp_X1_gather_26
    refine q_sizeS (shb h hs) hS1 ?_
    rw [iI_le (by omega) (by omega) (by omega) (by omega)]
    refine ⟨fun q => ?_, fun q => ?_⟩
    · refine k c1 hc ?_
      rw [show (els s).length = g by omega]; exact hI
    · obtain ⟨d', rfl⟩ : ∃ d', d = d' + 1 := ⟨d - 1, by omega⟩
      refine q_gameAt (shb h hs) hS1 (g := (g : Int)) ⟨by omega, by omega⟩ ?_
      rw [Int.toNat_natCast]
      have hn := (hS1.2.2 g (by omega) (by omega)).1.2.2.1
      refine ⟨(n s g).toNat + 1, ?_⟩
      refine q_gather_44 h hS hl hs hm hf hv (g := g) (by omega) ((n s g).toNat + 1) (n s g).toNat 0 c1 (by omega) (by omega) hc hL hA hI fun c2 hc2 hI2 => ?_
      rw [show (g : Int) + 1 = ((g + 1 : Nat) : Int) by omega]
      exact ih d' (g + 1) c2 (by omega) (by omega) hc2 hI2.game k
/-- the words of the continuations -/
def gwM (F R : Int) (v : Int → Int) (g : Int → Int) (i : Int) : Int64 := if 0 < g i then zI (padA (sanW F R v (movesL F R v) ((movesL F R v).getD i.toNat (0, 0, 0))) 8) else 0
theorem sanW_ne (hB : BG c F R) {L : List Mv} {t : Mv} (ok : okMv F R v t) : sanW F R v L t ≠ [] := by
  have := (sanA_ns hB (M := L) ok).2
  unfold sanW
  intro z
  exact this (List.append_eq_nil_iff.mp z).1
theorem q_gather_106 {post : wS → Prop} (h : CC D S o) (hP : ∀ c, ST D (cS S o c) (D.2.2.1 1) pcsL) (hv : PV F R v) (hf : few F R v) {g : Int → Int} {c0 : cM} (hB : BG c0 F R) (hg : ∀ i : Int, 0 ≤ i → i < (movesL F R v).length → c0.1 35 i = g i ∧ 0 ≤ g i ∧ g i ≤ 40) :
    ∀ (f d : Nat) (j : Int) (c1 : cM), d < f → j + d = (movesL F R v).length → 0 ≤ j → cSim [10, 19, 37] c0 c1 → LK c1 F R v → (∀ i : Int, 0 ≤ i → i < j → c1.2 37 i = gwM F R v g i) →
    (∀ c2, cSim [10, 19, 37] c0 c2 → LK c2 F R v → (∀ i : Int, 0 ≤ i → i < (movesL F R v).length → c2.2 37 i = gwM F R v g i) → post (cS S o c2)) →
    wp_X1_gather_106 D post f (cS S o c1) (o 34) (iI j) := by
  have len : ((movesL F R v).length : Int) ≤ 320 := hf
  intro f
  induction f with
  | zero => intro d j c1 hd; omega
  | succ f ih =>
    intro d j c1 hd hj j0 hc hL hw k
    unfold wp_X1_gather_106 wp_X1_gather_161
    refine ⟨o 17, c_r h rfl, (c_m h (by decide)).mpr trivial, c_k h (by decide), ?_⟩
    rw [c_i1 h (by decide) (show ((7 : Nat) : Int) = 7 from rfl), hL.2.2, iI_le (by omega) (by omega) (by omega) (by omega)]
    have n37 : ∀ c : cM, sN (cS S o c) (o 37) = 1728 := fun c => c_n h (by decide)
    refine ⟨fun q => ?_, fun q => ⟨o 37, c_r h rfl, (c_m h (by decide)).mpr trivial, c_k h (by decide), ?_⟩⟩
    · exact k c1 hc hL (fun i i0 i1 => hw i i0 (by omega))
    rw [n37, show Int32.ofNat 1728 = iI 1728 from rfl, iI_le (by decide) (by decide) (by omega) (by omega)]
    refine ⟨fun q => absurd q (by omega), fun _ => ⟨o 37, c_r h rfl, (c_m h (by decide)).mpr trivial, c_k h (by decide), ?_⟩⟩
    refine q_gamesWith h ⟨j0, by omega⟩ ?_
    have gj := hg j j0 (by omega)
    rw [(hc 35 (by decide)).1, gj.1]
    have nx : ∀ (c2 : cM) (z : Int64), cSim [10, 19, 37] c0 c2 → LK c2 F R v → (∀ i : Int, 0 ≤ i → i < j → c2.2 37 i = gwM F R v g i) → z = gwM F R v g j → wp_X1_gather_154 D post (wp_X1_gather_106 D post f) (cS S o c2) (o 34) (iI j) (o 37) (iI j) z := by
      intro c2 z q1 q2 q3 q4
      unfold wp_X1_gather_154
      refine ⟨(c_l h (by decide)).mpr trivial, ?_, fun S2 e2 x3 e3 => ?_⟩
      · rw [n37]; exact iI_in (by omega) (by omega) (by omega)
      rw [c_w h (by decide) j0 (by omega)] at e2
      rw [e2, e3, show (1 : Int32) = iI 1 from rfl, iI_add]
      have sm : cSim [37] c2 (cJ c2 37 j z) := fun n hn => ⟨rfl, by rw [cJ_2, upJ_r _ _ _ (by simpa using hn)]⟩
      refine ih (d - 1) (j + 1) _ (by omega) (by omega) (by omega) (q1.trans (sm.mono (by decide))) (q2.sim sm (by decide) (by decide) (by decide)) (fun i i0 i1 => ?_) k
      rw [cJ_2]
      by_cases y : i = j
      · rw [y, upJ_at, q4]
      · rw [upJ_ne _ (Or.inr y)]; exact q3 i i0 (by omega)
    rw [show (iI (g j) ≤ (0 : Int32)) = (g j ≤ 0) from iI_le (b := 0) (by omega) (by omega) (by decide) (by decide)]
    refine ⟨fun q => nx c1 0 hc hL hw (by unfold gwM; rw [if_neg (by omega)]), fun q => ⟨o 17, c_r h rfl, (c_m h (by decide)).mpr trivial, c_k h (by decide), ?_⟩⟩
    have hB1 : BG c1 F R := hc.B (fun m hm => by simp; omega) hB
    have hm := hB.m
    refine q_wordOf h hB1 hP hv hL hf (i := j) ⟨j0, by omega⟩ fun c2 s2 => ?_
    have ok := movesL_mem (F := F) (R := R) (v := v) (by omega) (getD_mem (L := movesL F R v) (k := j) ⟨j0, by omega⟩)
    have so := sanW_ok hB (L := movesL F R v) ok
    refine q_aligned (sanW_ne hB ok) so.2 so.1 ?_
    refine nx c2 _ (hc.trans (s2.mono (by decide))) (hL.sim s2 (by decide) (by decide) (by decide)) (fun i i0 i1 => by rw [(s2 37 (by decide)).2]; exact hw i i0 i1) ?_
    unfold gwM
    rw [if_pos (by omega)]
/-- what gathering leaves: the list of moves, how many games go on with each, and the letters of those -/
abbrev GTR (c : cM) (F R : Int) (v : Int → Int) (g : Int → Int) : Prop := LK c F R v ∧ (∀ i : Int, 0 ≤ i → i < (movesL F R v).length → c.1 35 i = g i ∧ 0 ≤ g i ∧ g i ≤ 40) ∧ ∀ i : Int, 0 ≤ i → i < (movesL F R v).length → c.2 37 i = gwM F R v g i
theorem gtC_r (n : Int → Int) (w : Int → Int → Int → Int) (mv : Int → Int → Mv) (i : Int) (g : Nat) : 0 ≤ gtC F R v n w mv i g ∧ gtC F R v n w mv i g ≤ g := befC_sum (fun g => anyL (hitC F R v n w mv g i) 0 (n g).toNat = true) g 0
theorem q_gather {post : wS → Prop} (h : CC D S o) (hP : ∀ c, ST D (cS S o c) (D.2.2.1 1) pcsL) (hB : BG c F R) (hv : PV F R v) (hA : PAt c 11 v) (hf : few F R v) (hS : SHL D S o c yl els n w mv fr inf ys) (hl : ∀ s : Int, (s = 0 ∨ s = 1) → offK (cLs.map o) (els s) (ys s)) {s : Int} (hs : s = 0 ∨ s = 1)
    (k : ∀ c2, cSim [10, 17, 18, 19, 20, 35, 36, 37] c c2 → GTR c2 F R v (fun i => gtC F R v (n s) (w s) (mv s) i (els s).length) → post (cS S o c2)) : wp_X1_gather D post (cS S o c) (o 34) (o (sbO s)) (o 11) := by
  have hm := hB.m
  have h4 := hB.f4; have h8 := hB.f8; have r4 := hB.r4; have r8 := hB.r8
  have len : ((movesL F R v).length : Int) ≤ 320 := hf
  have h40 := (hS s hs).2.1
  have hmo : mOKL F R v := fun i i0 i1 => (movesL_mem (F := F) (R := R) (v := v) (by omega) (getD_mem (L := movesL F R v) (k := i) ⟨i0, i1⟩)).m hm.2
  unfold wp_X1_gather wp_X1_gather_0
  refine ⟨o 17, c_r h rfl, (c_m h (by decide)).mpr trivial, c_k h (by decide), ?_⟩
  refine q_lookL h hB isP11 (by decide) (PV.k h4 h8 r4 r8 hv) hA (by omega) ?_
  have s1 := lkM_sim c F R v
  have hL1 := lkM_LK c F R v
  generalize lkM c F R v = c1 at s1 hL1 ⊢
  refine ⟨o 35, c_r h rfl, (c_m h (by decide)).mpr trivial, c_k h (by decide), ?_⟩
  rw [show (0 : Int32) = iI 0 from rfl, show (-1 : Int32) = iI (-1) from rfl]
  refine q_fillC h (r := 35) (by decide) (by decide) ?_
  refine ⟨o 36, c_r h rfl, (c_m h (by decide)).mpr trivial, c_k h (by decide), ?_⟩
  refine q_fillC h (r := 36) (by decide) (by decide) ?_
  have s2 : cSim [35, 36] c1 (filR (filR c1 35 (cln 35) 0) 36 (cln 36) (-1)) := ((filR_sim c1 35 _ 0).mono (by decide)).trans ((filR_sim _ 36 _ _).mono (by decide))
  have e35 : ∀ i : Int, 0 ≤ i → i < 1728 → (filR (filR c1 35 (cln 35) 0) 36 (cln 36) (-1)).1 35 i = 0 := fun i i0 i1 => by
    rw [((filR_sim (filR c1 35 (cln 35) 0) 36 (cln 36) (-1)) 35 (by decide)).1]
    exact filR_at c1 35 _ 0 i0 (by have : ((cln 35 : Nat) : Int) = 1728 := rfl; omega)
  have e36 : ∀ i : Int, 0 ≤ i → i < 1728 → (filR (filR c1 35 (cln 35) 0) 36 (cln 36) (-1)).1 36 i = -1 := fun i i0 i1 => filR_at _ 36 _ _ i0 (by have : ((cln 36 : Nat) : Int) = 1728 := rfl; omega)
  generalize filR (filR c1 35 (cln 35) 0) 36 (cln 36) (-1) = c2 at s2 e35 e36 ⊢
  have hL2 := hL1.sim s2 (by decide) (by decide) (by decide)
  have sA : cSim [10, 17, 18, 20, 35, 36] c c2 := (s1.mono (by decide)).trans (s2.mono (by decide))
  refine ⟨(els s).length + 1, ?_⟩
  refine q_gather_26 h (SHL.over h c c2 hl hS) hl hs hmo hf (hv.1.rg hm.2) hL2 (sA.P (by decide) hA) ((els s).length + 1) (els s).length 0 c2 (by omega) (by omega) (cSim.refl _ _) (fun i i0 i1 => ?_) fun c3 s3 hI3 => ?_
  · refine ⟨?_, fun q => absurd q (by simp [anyL]), fun _ => by rw [e36 i i0 i1]; omega⟩
    rw [e35 i i0 i1]; simp [gtC, sumL, anyL]
  · refine ⟨(movesL F R v).length + 1, ?_⟩
    have sB : cSim [10, 17, 18, 20, 35, 36] c c3 := sA.trans (s3.mono (by decide))
    have hg : ∀ i : Int, 0 ≤ i → i < (movesL F R v).length → c3.1 35 i = gtC F R v (n s) (w s) (mv s) i (els s).length ∧ 0 ≤ gtC F R v (n s) (w s) (mv s) i (els s).length ∧ gtC F R v (n s) (w s) (mv s) i (els s).length ≤ 40 := fun i i0 i1 => by
      have a := (hI3 i i0 (by omega)).1
      have b := gtC_r (F := F) (R := R) (v := v) (n s) (w s) (mv s) i (els s).length
      refine ⟨?_, b.1, by omega⟩
      rw [a]; simp [anyL]
    refine q_gather_106 h hP hv hf (c0 := c3) (sB.B (fun m hm => by simp; omega) hB) hg ((movesL F R v).length + 1) (movesL F R v).length 0 c3 (by omega) (by omega) (by decide) (cSim.refl _ _) (hL2.sim s3 (by decide) (by decide) (by decide)) (fun i i0 i1 => absurd i1 (by omega)) fun c4 s4 hL4 hw => ?_
    exact k c4 ((sB.mono (by decide)).trans (s4.mono (by decide))) ⟨hL4, fun i i0 i1 => by rw [(s4 35 (by decide)).1]; exact hg i i0 i1, hw⟩
end
