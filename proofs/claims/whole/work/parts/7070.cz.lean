/-! PHASE 3, the class generates the reference's moves -/
/-- a position in which moves can be asked -/
abbrev PK (F R : Int) (v : Int → Int) : Prop := okV F R v ∧ clV v ∧ brd F R v ∧ epS F R v ∧ soundB F R v = true ∧ kingB F R v (v 64) < F * R ∧ oneK F R v (v 64)
def tgtA (F R : Int) (v : Int → Int) (a b : Int) : Bool := tgtB F R v a b || (decide (a = kingB F R v (v 64)) && castC F R v b)
theorem castC_lt {F R b : Int} {v : Int → Int} (h4 : 4 ≤ F) (h8 : F ≤ 8) (r4 : 4 ≤ R) (r8 : R ≤ 8) (hv : PK F R v) (h : castC F R v b = true) : 0 ≤ b ∧ b < F * R := by
  rw [castC_iff h4 h8 r4 r8 hv.1 hv.2.2.2.2.1 hv.2.2.2.2.2.2] at h
  unfold castB at h
  simp only [Bool.and_eq_true, Bool.or_eq_true, decide_eq_true_eq] at h
  obtain ⟨⟨rfl, hb⟩, -⟩ := h
  rcases hb with e | e <;> rw [e]
  · have := homeB_r (F := 8) (R := R) (its := v 64) (f := 6) h4 h8 r4 r8 (by decide); exact ⟨this.1, this.2.1⟩
  · have := homeB_r (F := 8) (R := R) (its := v 64) (f := 2) h4 h8 r4 r8 (by decide); exact ⟨this.1, this.2.1⟩
theorem tgtA_iff {F R a b : Int} {v : Int → Int} (h4 : 4 ≤ F) (h8 : F ≤ 8) (r4 : 4 ≤ R) (r8 : R ≤ 8) (hv : PK F R v) (ha : 0 ≤ a ∧ a < F * R) (hb : 0 ≤ b ∧ b < 64) (ho : isOfB (v a) (v 64) = true) : tgtA F R v a b = (decide (b < F * R) && legB F R v a b) := by
  have hm := FR_r h4 h8 r4 r8
  obtain ⟨v1, v2, v3, v4, v5, v6, v7⟩ := id hv
  have hs := v1.s
  by_cases hbl : b < F * R
  · rw [decide_eq_true hbl, Bool.true_and]
    unfold tgtA
    rw [tgt_leg h4 h8 r4 r8 v1 v3 v4 v5 v6 v7 ha ⟨hb.1, hbl⟩ ho]
    by_cases hK : a = kingB F R v (v 64)
    · rw [decide_eq_true hK, Bool.true_and, castC_iff h4 h8 r4 r8 v1 v5 v7, ← hK]
      have hk1 : kindO (v a) = 1 := by rw [hK, king_at (by omega) v6]; exact kindO_of (by decide)
      rw [← cast_leg h4 h8 r4 r8 v1 v3 v5 v6 v7 ha ⟨hb.1, hbl⟩ ho hk1]
      cases legB F R v a b <;> cases castingB F v a b <;> rfl
    · rw [decide_eq_false hK, Bool.false_and, Bool.or_false]
      have hk1 : kindO (v a) ≠ 1 := fun e => hK (v7 a ha.1 ha.2 (isOfB_king (v1.p a ha.1 (by omega)) hs ho e))
      have : castingB F v a b = false := by unfold castingB; rw [decide_eq_false hk1]; rfl
      rw [this]; simp
  · rw [decide_eq_false hbl, Bool.false_and]
    unfold tgtA
    have h1 : tgtB F R v a b = false := by
      cases q : tgtB F R v a b
      · rfl
      · exfalso
        apply hbl
        refine aims_lt h4 h8 r4 r8 hm.2 ha hb ?_ (v := v) (a := a)
        unfold tgtB at q
        split at q
        · exact q
        · rw [Bool.and_eq_true] at q; exact q.1
    have h2 : castC F R v b = false := by
      cases q : castC F R v b
      · rfl
      · exact absurd (castC_lt h4 h8 r4 r8 hv q).2 hbl
    rw [h1, h2]; simp
/-- a pawn comes to an edge just by becoming another piece -/
theorem edge_bec {F R a b : Int} {v : Int → Int} (h4 : 4 ≤ F) (h8 : F ≤ 8) (r4 : 4 ≤ R) (r8 : R ≤ 8) (hv : okV F R v) (ha : 0 ≤ a ∧ a < F * R) (hb : 0 ≤ b ∧ b < F * R) (ho : isOfB (v a) (v 64) = true) (hl : legB F R v a b = true) :
    (decide (kindO (v a) = 6) && edgeB F R b) = becB F R v a b := by
  have hm := FR_r h4 h8 r4 r8
  have hs := hv.s
  unfold becB
  by_cases hk : kindO (v a) = 6
  · rw [decide_eq_true hk, Bool.true_and, Bool.true_and]
    unfold edgeB
    rw [decide_eq_true hb.2, Bool.true_and]
    have hg : goB F R v a b = true := by unfold legB at hl; simp only [Bool.and_eq_true] at hl; exact hl.1
    have hp := pawn_go h4 h8 hv ⟨ha.1, by omega⟩ ⟨hb.1, by omega⟩ ho hk hg
    have har : 0 ≤ a / F ∧ a / F < R ∧ 0 ≤ b / F ∧ b / F < R := by rcases F_cases h4 h8 with rfl | rfl | rfl | rfl | rfl <;> omega
    unfold firstB
    rcases (show v 64 = 0 ∨ v 64 = 1 by omega) with e | e <;> rw [e] at hp ⊢
    · have hu : upB 0 = -1 := rfl
      rw [hu] at hp
      rw [if_pos (by decide)]
      have : ¬ b / F = R - 1 := by omega
      rw [decide_eq_false this, Bool.or_false]
    · have hu : upB 1 = 1 := rfl
      rw [hu] at hp
      rw [if_neg (by decide)]
      have : ¬ b / F = 0 := by omega
      rw [decide_eq_false this, Bool.false_or]
  · rw [decide_eq_false hk]; rfl
section
variable {D : wD} {S : wS} {o : Nat → Nat} {c : cM} {F R : Int} {p r : Nat} {v : Int → Int}
theorem q_generate_10 {post : Int32 → wS → Prop} (h : CC D S o) (hr : isR r) (hB : BG c F R) (hp : isP p) (hv : PK F R v) (hA : PAt c p v) (hR : RA c F R v) (hL : ((movesL F R v).length : Int) ≤ 1728)
    (k : post (iI (movesL F R v).length) (cS S o (putR c r (movesL F R v)))) : ∀ (n d : Nat) (a : Int) (L : List Mv), d < n → a + d = F * R → 0 ≤ a → L ++ mFrom F R v a d = movesL F R v →
    wp_X8_generate_10 D post n (cS S o (putR c r L)) (o 10) (o p) (o r) (iI L.length) (iI a) := by
  have hm := hB.m
  have h4 := hB.f4; have h8 := hB.f8; have r4 := hB.r4; have r8 := hB.r8
  obtain ⟨v1, v2, v3, v4, v5, v6, v7⟩ := id hv
  have hs := v1.s
  have hkr := kingB_r v (v 64) (show 0 ≤ F * R by omega)
  intro n
  induction n with
  | zero => intro d a L hd; omega
  | succ n ih =>
    intro d a L hd had ha0 hLG
    have hB' := putR_BG (L := L) hr hB
    have hA' := putR_P (L := L) hr hp hA
    have hR' := putR_RA (L := L) hr hR
    have sz : sI (cS S o (putR c r L)) (o 1) 2 = iI (F * R) := by rw [c_i1 h (by decide) (show ((2 : Nat) : Int) = 2 from rfl)]; exact congrArg iI hB'.n
    have sk : sI (cS S o (putR c r L)) (o 10) 1 = iI (kingB F R v (v 64)) := by rw [c_i1 h (by decide) (show ((1 : Nat) : Int) = 1 from rfl)]; exact congrArg iI hR'.1
    have z3 : sJ (cS S o (putR c r L)) (o 10) 3 = zS (fun k => isOfB (v k) (v 64)) := by rw [c_j1 h (by decide) (show ((3 : Nat) : Int) = 3 from rfl)]; exact hR'.2.2.1
    have ze : sJ (cS S o (putR c r L)) (o 1) 3 = zS (edgeB F R) := by rw [c_j1 h (by decide) (show ((3 : Nat) : Int) = 3 from rfl)]; exact hB'.e
    unfold wp_X8_generate_10
    refine ⟨o 1, c_r h rfl, (c_m h (by decide)).mpr trivial, c_k h (by decide), ?_⟩
    have lsz : (iI (F * R) ≤ iI a) = (F * R ≤ a) := by rw [iI_le (by omega) (by omega) (by omega) (by omega)]
    rw [sz, lsz]
    refine ⟨fun q => ?_, fun q => ?_⟩
    · have : d = 0 := by omega
      subst this
      have e : L = movesL F R v := by rw [← hLG]; exact (List.append_nil _).symm
      rw [e]; exact k
    · obtain ⟨e, rfl⟩ : ∃ e : Nat, d = e + 1 := ⟨d - 1, by omega⟩
      have ha64 : 0 ≤ a ∧ a < 64 := ⟨ha0, by omega⟩
      have haF : 0 ≤ a ∧ a < F * R := ⟨ha0, by omega⟩
      have hF1 : mFrom F R v a (e + 1) = (if isOfB (v a) (v 64) then mTo F R v a 0 (F * R).toNat else []) ++ mFrom F R v (a + 1) e := rfl
      rw [z3, q_contains _ ha64, bF]
      have at110 : ∀ L' : List Mv, L' ++ mFrom F R v (a + 1) e = movesL F R v → wp_X8_generate_110 D post (wp_X8_generate_10 D post n) (cS S o (putR c r L')) (o 10) (o p) (o r) (iI L'.length) (iI a) := by
        intro L' hL'
        unfold wp_X8_generate_110
        intro x1 ex
        rw [ex, show (1 : Int32) = iI 1 from rfl, iI_add]
        exact ih e (a + 1) L' (by omega) (by push_cast at had; omega) (by omega) hL'
      refine ⟨fun q2 => at110 L (by rw [← hLG, hF1, q2]; rfl), fun q2 => ?_⟩
      have ho : isOfB (v a) (v 64) = true := by simpa using q2
      rw [hF1, ho, if_pos rfl, ← List.append_assoc] at hLG
      refine q_targets h hB' hp v1 v3 v4 hA' hR' v6 haF ?_
      have hkd := kindO_r (v1.p a ha0 (by omega))
      -- the moves of this piece are laid
      have lay : ∀ (T Ch : Int → Bool), (∀ b : Int, 0 ≤ b → b < 64 → T b = tgtA F R v a b) → (∀ b : Int, 0 ≤ b → b < 64 → Ch b = (T b && (decide (kindO (v a) = 6) && edgeB F R b))) →
          wp_X8_generate_106 D post (wp_X8_generate_10 D post n) (cS S o (putR c r L)) (o 10) (o p) (o r) (iI a) (o 10) (o r) (iI L.length) (iI a) (zS T) (zS Ch) := by
        intro T Ch hT hCh
        have eG : mToG T Ch a 0 64 = mTo F R v a 0 (F * R).toNat := by
          have e64 : (64 : Nat) = (F * R).toNat + (64 - (F * R).toNat) := by omega
          have cut := mToG_cut (T := T) (Ch := Ch) (a := a) (F * R).toNat (64 - (F * R).toNat) 0 (fun j g1 g2 => by
            rw [hT j (by omega) (by omega), tgtA_iff h4 h8 r4 r8 hv haF ⟨by omega, by omega⟩ ho, decide_eq_false (show ¬ j < F * R by omega)]; rfl)
          rw [← e64] at cut
          rw [cut, mTo_G]
          refine mToG_congr _ _ fun j g1 g2 => ?_
          have ej : T j = legB F R v a j := by
            rw [hT j g1 (by omega), tgtA_iff h4 h8 r4 r8 hv haF ⟨g1, by omega⟩ ho, decide_eq_true (show j < F * R by omega), Bool.true_and]
          refine ⟨ej, fun z => ?_⟩
          rw [hCh j g1 (by omega), z, Bool.true_and]
          rw [ej] at z
          exact edge_bec h4 h8 r4 r8 v1 haF ⟨g1, by omega⟩ ho z
        unfold wp_X8_generate_106
        have hle : ((L ++ mToG T Ch a 0 64).length : Int) ≤ 1728 := by
          rw [eG]
          rw [← hLG, List.length_append] at hL
          push_cast at hL ⊢
          omega
        refine q_addMoves h hr ha64 hle ?_
        rw [eG]
        exact at110 _ hLG
      have at62 : ∀ T : Int → Bool, (∀ b : Int, 0 ≤ b → b < 64 → T b = tgtA F R v a b) → wp_X8_generate_62 D post (wp_X8_generate_10 D post n) (cS S o (putR c r L)) (o 10) (o p) (o r) (iI L.length) (iI a) (zS T) := by
        intro T hT
        unfold wp_X8_generate_62 wp_X8_generate_78
        have lk6 : (iI (kindO (v a)) = (6 : Int32)) = (kindO (v a) = 6) := by rw [show (6 : Int32) = iI 6 from rfl, iI_eq (by omega) (by omega) (by decide) (by decide)]
        rw [q_kindOn h hp v1.p hA' ha64, lk6]
        refine ⟨fun z => ⟨fun _ => ?_, fun z2 => absurd rfl z2⟩, fun z => ⟨fun z2 => absurd z2 (by decide), fun _ => ⟨o 1, c_r h rfl, (c_m h (by decide)).mpr trivial, c_k h (by decide), ?_⟩⟩⟩
        · rw [zS_f]
          exact lay T _ hT (fun b _ _ => by rw [decide_eq_false z]; simp)
        · rw [ze, zS_and]
          exact lay T _ hT (fun b _ _ => by rw [decide_eq_true z, Bool.true_and])
      have lK : (iI a = iI (kingB F R v (v 64))) = (a = kingB F R v (v 64)) := by rw [iI_eq (by omega) (by omega) (by omega) (by omega)]
      rw [sk, lK]
      refine ⟨fun z => at62 _ fun b _ _ => ?_, fun z => q_castlings h hB' hp v1 v3 v5 hA' hR' ?_⟩
      · unfold tgtA; rw [decide_eq_false z]; simp
      · intro x11 e11
        rw [zS_or] at e11
        rw [e11]
        exact at62 _ fun b _ _ => by unfold tgtA; rw [decide_eq_true z]; simp
theorem q_generate {post : Int32 → wS → Prop} (h : CC D S o) (hr : isR r) (hB : BG c F R) (hp : isP p) (hv : PK F R v) (hA : PAt c p v) (hL : ((movesL F R v).length : Int) ≤ 1728)
    (k : post (iI (movesL F R v).length) (cS S o (putR (lookM c F R v) r (movesL F R v)))) : wp_X8_generate D post (cS S o c) (o 10) (o p) (o r) := by
  have hm := hB.m
  unfold wp_X8_generate wp_X8_generate_0
  refine q_look h hB hp hv.1 hv.2.2.1 hA hv.2.2.2.2.2.1 ?_
  refine ⟨(F * R).toNat + 1, ?_⟩
  have := q_generate_10 (D := D) (S := S) (o := o) (post := post) h hr (hB.look v) hp hv (lookM_P hp hA) (lookM_RA c F R v) hL k ((F * R).toNat + 1) (F * R).toNat 0 [] (by omega) (by omega) (by decide) rfl
  rw [putR_nil] at this
  exact this
/-- how many moves there are, by the sets -/
theorem mTo_len {T Ch : Int → Bool} {a : Int} : ∀ (d : Nat) (b : Int), ((mToG T Ch a b d).length : Int) = sumL (fun k => if T k then (if Ch k then 4 else 1) else 0) b d
  | 0, b => rfl
  | d + 1, b => by
    rw [sumL_S]
    show (((if T b then bec4 a b (Ch b) else []) ++ mToG T Ch a (b + 1) d).length : Int) = _
    rw [List.length_append]
    push_cast
    rw [mTo_len d (b + 1)]
    congr 1
    cases T b
    · rfl
    · cases Ch b <;> rfl
end
