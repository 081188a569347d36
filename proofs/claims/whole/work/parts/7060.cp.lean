section
variable {D : wD} {S : wS} {o : Nat → Nat} {c : cM} {F R : Int} {p : Nat} {v w : Int → Int}
theorem beside_set (hB : BG c F R) (hw : okP w) (hb : brd F R w) {b s : Int} (hbq : 0 ≤ b ∧ b < F * R) (hs : s = 0 ∨ s = 1) :
    (zS (besB F R b) &&& (zS (fun k => decide (kindO (w k) = 6)) &&& zS (fun k => isOfB (w k) s)) = 0) = (besideB F w b (pieceOfB 6 s) = false) := by
  have hm := hB.m
  have h4 := hB.f4; have h8 := hB.f8; have r4 := hB.r4; have r8 := hB.r8
  rw [zS_and, zS_and, zS_0]
  have hpc : ∀ k : Int, 0 ≤ k → k < 64 → (decide (kindO (w k) = 6) && isOfB (w k) s) = decide (w k = pieceOfB 6 s) := fun k h0 h1 => by
    rcases hs with rfl | rfl <;> rcases kind_cases (hw k h0 h1) with e | e | e | e | e | e | e | e | e | e | e | e | e <;> rw [e] <;> rfl
  apply propext
  have p6 : pieceOfB 6 s ≠ 0 := by rcases hs with rfl | rfl <;> decide
  constructor
  · intro hh
    cases hq : besideB F w b (pieceOfB 6 s)
    · rfl
    · exfalso
      unfold besideB at hq
      simp only [Bool.or_eq_true, Bool.and_eq_true, decide_eq_true_eq] at hq
      rcases hq with ⟨q1, q2⟩ | ⟨q1, q2⟩
      · have hb1 : 0 ≤ b - 1 ∧ b - 1 < F * R ∧ (b - 1) % F = b % F - 1 ∧ (b - 1) / F = b / F := by rcases F_cases h4 h8 with rfl | rfl | rfl | rfl | rfl <;> omega
        have := hh (b - 1) hb1.1 (by omega)
        rw [hpc _ hb1.1 (by omega), decide_eq_true q2, Bool.and_true] at this
        have hset : besB F R b (b - 1) = true := by
          unfold besB
          rw [(setB_iff h4 h8 r4 r8 hb1.1).mpr ⟨hb1.2.1, hb1.2.2.1, hb1.2.2.2⟩]; rfl
        rw [hset] at this
        exact absurd this (by decide)
      · have hb1 : 0 ≤ b + 1 ∧ b + 1 < F * R ∧ (b + 1) % F = b % F + 1 ∧ (b + 1) / F = b / F := by rcases F_cases h4 h8 with rfl | rfl | rfl | rfl | rfl <;> omega
        have := hh (b + 1) hb1.1 (by omega)
        rw [hpc _ hb1.1 (by omega), decide_eq_true q2, Bool.and_true] at this
        have hset : besB F R b (b + 1) = true := by
          unfold besB
          rw [(setB_iff h4 h8 r4 r8 hb1.1 (f := b % F + 1)).mpr ⟨hb1.2.1, hb1.2.2.1, hb1.2.2.2⟩, Bool.or_true]
        rw [hset] at this
        exact absurd this (by decide)
  · intro hh k h0 h1
    rw [hpc k h0 h1]
    cases hq : (besB F R b k && decide (w k = pieceOfB 6 s))
    · rfl
    · exfalso
      simp only [Bool.and_eq_true, decide_eq_true_eq] at hq
      obtain ⟨q1, q2⟩ := hq
      unfold besB at q1
      rw [Bool.or_eq_true, setB_iff h4 h8 r4 r8 h0, setB_iff h4 h8 r4 r8 h0] at q1
      have : besideB F w b (pieceOfB 6 s) = true := by
        unfold besideB
        simp only [Bool.or_eq_true, Bool.and_eq_true, decide_eq_true_eq]
        have hkm := Int.emod_nonneg k (show F ≠ 0 by omega)
        have hkl := Int.emod_lt_of_pos k (show 0 < F by omega)
        rcases q1 with ⟨a1, a2, a3⟩ | ⟨a1, a2, a3⟩
        · left
          have e : k = b - 1 := by rcases F_cases h4 h8 with rfl | rfl | rfl | rfl | rfl <;> omega
          exact ⟨by omega, by rw [← e]; exact q2⟩
        · right
          have e : k = b + 1 := by rcases F_cases h4 h8 with rfl | rfl | rfl | rfl | rfl <;> omega
          exact ⟨by omega, by rw [← e]; exact q2⟩
      rw [hh] at this
      exact absurd this (by decide)
theorem q_apply {post : wS → Prop} (h : CC D S o) (hB : BG c F R) (hp : isP p) (hv : okV F R v) (hc : clV v) (hb : brd F R v) (he : epS F R v) (hsn : soundB F R v = true) (hA : PAt c p v) {t : Mv} (ok : okMv F R v t)
    (k : post (cS S o (putP c p (mkT F R v t)))) : wp_X7_apply D post (cS S o c) (o p) (iI (mcode t)) := by
  have hm := hB.m
  have h4 := hB.f4; have h8 := hB.f8; have r4 := hB.r4; have r8 := hB.r8
  obtain ⟨a, b, e⟩ := t
  obtain ⟨ha, hbq, hec, hof, hleg, hbec⟩ := ok
  dsimp only at ha hbq hec hof hleg hbec
  have hmo : mOK (a, b, e) := ⟨⟨ha.1, by omega⟩, ⟨hbq.1, by show b < 64; omega⟩, ⟨hec.1, by show e < 8; omega⟩⟩
  have hg : goB F R v a b = true := by unfold legB at hleg; simp only [Bool.and_eq_true] at hleg; exact hleg.1
  have hs : v 64 = 0 ∨ v 64 = 1 := by have := hv.s; omega
  have ha64 : 0 ≤ a ∧ a < 64 := ⟨ha.1, by omega⟩
  have hb64 : 0 ≤ b ∧ b < 64 := ⟨hbq.1, by omega⟩
  have hva := hv.p a ha64.1 ha64.2
  have hkr := kindO_r hva
  have hbp := fun w => hB.put hp w
  have e5 : ∀ (w : Int → Int), sI (cS S o (putP c p w)) (o p) 5 = iI (w 64) := fun w => by rw [c_i1 h hp.1 (show ((5 : Nat) : Int) = 5 from rfl)]; exact congrArg iI (putP_at c p w).2.2.2.2.1
  have e6 : ∀ (w : Int → Int), sI (cS S o (putP c p w)) (o p) 6 = iI (w 65) := fun w => by rw [c_i1 h hp.1 (show ((6 : Nat) : Int) = 6 from rfl)]; exact congrArg iI (putP_at c p w).2.2.2.2.2.1
  have e7 : ∀ (w : Int → Int), sI (cS S o (putP c p w)) (o p) 7 = iI (w 66) := fun w => by rw [c_i1 h hp.1 (show ((7 : Nat) : Int) = 7 from rfl)]; exact congrArg iI (putP_at c p w).2.2.2.2.2.2
  -- the ranges of what the spec lays
  have o1 := mk1_ok (F := F) (R := R) (v := v) (a := a) (b := b) h4 h8 r4 r8 hv hc ha hbq.1
  have o2 := mk2_ok (F := F) (R := R) (v := v) (a := a) (b := b) h4 h8 r4 r8 hv hc ha hbq.1
  obtain ⟨o4, c4, o6, c6, -⟩ := mk6_ok (F := F) (R := R) (v := v) (a := a) (b := b) (bec := e) h4 h8 r4 r8 hv hc ha hbq ⟨hec.1, by omega⟩
  have hmR : 0 ≤ mkR F R v a b ∧ mkR F R v a b ≤ 15 := by
    have := o6.r
    have e65 : mk6 F R v a b e 65 = mkR F R v a b := by unfold mk6; exact if_pos rfl
    rw [e65] at this; exact this
  have m4 : ∀ j : Int, 64 ≤ j → mk4 F R v a b e j = v j := by
    intro j hj
    have h1 : mk1 F v a b j = v j := by
      unfold mk1; split
      · have := ep_r (F := F) (R := R) (a := a) (b := b) h4 h8 r4 r8 ha hbq.1
        exact if_neg (by omega)
      · rfl
    have h2 : mk2 F R v a b j = v j := by
      unfold mk2; split
      · have a1 := homeB_r2 (F := F) (R := R) (its := v 64) (f := if a < b then 7 else 0) h4 h8 r4 r8 (by split <;> decide)
        have a2 := homeB_r2 (F := F) (R := R) (its := v 64) (f := if a < b then 5 else 3) h4 h8 r4 r8 (by split <;> decide)
        unfold upV
        rw [if_neg (by omega), if_neg (by omega)]; exact h1
      · exact h1
    unfold mk4 upV
    rw [if_neg (by omega), if_neg (by omega)]; exact h2
  -- the passing square and the side
  have step203 : wp_X7_apply_203 D post (cS S o (putP c p (upV (mk4 F R v a b e) 65 (mkR F R v a b)))) (o p) (iI a) (iI b) (iI (kindO (v a))) (iI (upB (v 64) * F)) := by
    generalize hw5 : upV (mk4 F R v a b e) 65 (mkR F R v a b) = w5
    have w64 : w5 64 = v 64 := by rw [← hw5]; unfold upV; rw [if_neg (by decide)]; exact m4 64 (by decide)
    have wlow : ∀ j : Int, j < 64 → w5 j = mk4 F R v a b e j := fun j hj => by rw [← hw5]; unfold upV; rw [if_neg (by omega)]
    have ow5 : okP w5 := fun j h0 h1 => by rw [wlow j h1]; exact o4.p j h0 h1
    have bw5 : brd F R w5 := by
      intro j h0 h1
      rw [wlow j h1]
      have h1v : mk1 F v a b j = 0 := by
        unfold mk1; split
        · unfold upV; split
          · rfl
          · exact hb j h0 h1
        · exact hb j h0 h1
      have h2v : mk2 F R v a b j = 0 := by
        unfold mk2; split
        · rename_i hcs
          have hk1 : kindO (v a) = 1 := by unfold castingB at hcs; simp only [Bool.and_eq_true, decide_eq_true_eq] at hcs; exact hcs.1
          have hcb := (king_go h4 h8 r4 r8 hv hsn ha64 hb64 hk1 hg).1.mp hcs
          have h8e := (cast_data r4 r8 hv hsn hcb).1
          have a1 := homeB_r (F := F) (R := R) (its := v 64) (f := if a < b then 7 else 0) h4 h8 r4 r8 (by rw [h8e]; split <;> decide)
          have a2 := homeB_r (F := F) (R := R) (its := v 64) (f := if a < b then 5 else 3) h4 h8 r4 r8 (by rw [h8e]; split <;> decide)
          unfold upV
          rw [if_neg (by omega), if_neg (by omega)]; exact h1v
        · exact h1v
      unfold mk4 upV
      rw [if_neg (by omega), if_neg (by omega)]; exact h2v
    -- how it ends, with the passing square told
    have fin : ∀ x : Int, x = mkE F R v a b e → wp_X7_apply_282 D post (cS S o (putP c p w5)) (o p) (o p) (iI x) := by
      intro x hx
      unfold wp_X7_apply_282
      intro S1 es
      rw [c_u1 h hp.1 (show ((7 : Nat) : Int) = 7 from rfl), cI_put c p w5 (Or.inr (Or.inr rfl))] at es
      rw [es, e5, show upV w5 (7 + 59) x 64 = v 64 from (if_neg (by decide)).trans w64]
      have last : wp_X7_apply_298 D post (cS S o (putP c p (upV w5 (7 + 59) x))) (o p) (iI (1 - v 64)) := by
        unfold wp_X7_apply_298
        refine ⟨(bool_fit (by omega)).1, (bool_fit (by omega)).2, fun S2 es2 => ?_⟩
        rw [c_u1 h hp.1 (show ((5 : Nat) : Int) = 5 from rfl), cI_put c p _ (Or.inl rfl)] at es2
        rw [es2]
        have : upV (upV w5 (7 + 59) x) (5 + 59) (1 - v 64) = mkT F R v (a, b, e) := by
          unfold mkT mkV mk6
          rw [← hw5, hx]
          funext j
          unfold upV
          by_cases j64 : j = 64
          · rw [if_pos (by omega), if_neg (by omega), if_neg (by omega), if_pos j64]
          · rw [if_neg (by omega)]
            by_cases j66 : j = 66
            · rw [if_pos (by omega), if_pos j66]
            · rw [if_neg (by omega), if_neg j66]
              by_cases j65 : j = 65
              · rw [if_pos j65, if_pos j65]
              · rw [if_neg j65, if_neg j65, if_neg j64]
        rw [this]; exact k
      rcases hs with hh | hh
      · rw [hh] at last ⊢
        exact ⟨fun q => absurd rfl q, fun _ => last⟩
      · rw [hh] at last ⊢
        exact ⟨fun _ => last, fun q => absurd q (by decide)⟩
    have finN : -1 = mkE F R v a b e → wp_X7_apply_282 D post (cS S o (putP c p w5)) (o p) (o p) (-1 : Int32) := fun hx => by
      have := fin (-1) hx
      rw [show (-1 : Int32) = iI (-1) from rfl]; exact this
    have bes6 : besideB F (mk6 F R v a b e) b (pieceOfB 6 (1 - v 64)) = besideB F w5 b (pieceOfB 6 (1 - v 64)) := by
      have hl : ∀ j : Int, j < 64 → mk6 F R v a b e j = w5 j := fun j hj => by
        rw [wlow j hj]; unfold mk6 upV; rw [if_neg (by omega), if_neg (by omega)]
      unfold besideB
      rw [hl (b - 1) (by omega)]
      by_cases q : b + 1 < 64
      · rw [hl (b + 1) q]
      · have : b % F = F - 1 := by
          have e1 := Int.emod_add_mul_ediv b F
          rcases F_cases h4 h8 with rfl | rfl | rfl | rfl | rfl <;> omega
        rw [decide_eq_false (show ¬ b % F < F - 1 by omega)]; rfl
    -- whether it is a first step, decided
    have at225 : ∀ fs : Bool, (fs = true ↔ kindO (v a) = 6 ∧ b - a = 2 * (upB (v 64) * F)) → wp_X7_apply_225 D post (cS S o (putP c p w5)) (o p) (iI a) (iI b) (iI (upB (v 64) * F)) (iI (bI fs)) := by
      intro fs hfs
      unfold wp_X7_apply_225
      rw [show (6 : Int32) = iI 6 from rfl, q_ofKind h hp ow5 (putP_at c p w5) (by decide), e5, w64]
      have at246 : wp_X7_apply_246 D post (cS S o (putP c p w5)) (o p) (iI a) (iI b) (iI (upB (v 64) * F)) (iI (bI fs)) (zS fun k => decide (kindO (w5 k) = 6)) (o p) (iI (1 - v 64)) := by
        unfold wp_X7_apply_246
        rw [q_ofSide h hp ow5 (putP_at c p w5) (by omega)]
        intro x3 ex3
        unfold wp_X7_apply_281
        by_cases f : fs = true
        · obtain ⟨f1, f2⟩ := hfs.mp f
          rw [f]
          refine ⟨fun hh => absurd hh (by decide), fun _ => ⟨o 1, c_r h hp.2.2.1, (c_m h (by decide)).mpr trivial, c_k h (by decide), ?_⟩⟩
          rw [q_besidesOf h (hbp w5) hbq, ex3]
          simp only [lg_cmp_eq]
          rw [beside_set (hbp w5) ow5 bw5 hbq (by omega)]
          have hd : dist (a / F) (b / F) = 2 := by
            unfold dist
            rcases upB_ne (v 64) with hu | hu <;> rw [hu] at f2 <;> rcases F_cases h4 h8 with rfl | rfl | rfl | rfl | rfl <;> omega
          refine ⟨fun hbs => ?_, fun hbs => ?_⟩
          · refine finN ?_
            unfold mkE
            rw [if_neg (by rw [bes6, hbs]; simp)]
          · rw [iI_add]
            refine fin _ ?_
            unfold mkE
            rw [if_pos ⟨f1, hd, by rw [bes6]; simpa using hbs⟩]
            omega
        · have f0 : fs = false := by simpa using f
          rw [f0]
          refine ⟨fun _ => finN ?_, fun hh => absurd rfl hh⟩
          unfold mkE
          rw [if_neg]
          rintro ⟨q1, q2, -⟩
          apply f
          refine hfs.mpr ⟨q1, ?_⟩
          rcases pawn_go h4 h8 hv ha64 hb64 hof q1 hg with ⟨g1, g2, -⟩ | ⟨g1, g2, g3⟩ | ⟨g1, g2, g3, -⟩
          · exfalso; unfold dist at q2; rcases upB_ne (v 64) with hu | hu <;> omega
          · exfalso; unfold dist at q2; rcases upB_ne (v 64) with hu | hu <;> omega
          · rcases upB_ne (v 64) with hu | hu <;> rw [hu] at g3 ⊢ <;> rcases F_cases h4 h8 with rfl | rfl | rfl | rfl | rfl <;> omega
      rcases hs with hh | hh
      · rw [hh] at at246 ⊢
        exact ⟨fun q => absurd rfl q, fun _ => at246⟩
      · rw [hh] at at246 ⊢
        exact ⟨fun _ => at246, fun q => absurd q (by decide)⟩
    unfold wp_X7_apply_203 wp_X7_apply_224
    have l6 : (iI (kindO (v a)) = (6 : Int32)) = (kindO (v a) = 6) := by rw [show (6 : Int32) = iI 6 from rfl, iI_eq (by omega) (by omega) (by decide) (by decide)]
    have hfr : -8 ≤ upB (v 64) * F ∧ upB (v 64) * F ≤ 8 := by rcases upB_ne (v 64) with hu | hu <;> rw [hu] <;> omega
    have l2 : (iI b - iI a = (2 : Int32) * iI (upB (v 64) * F)) = (b - a = 2 * (upB (v 64) * F)) := by
      rw [show (2 : Int32) = iI 2 from rfl, iI_sub, iI_mul, iI_eq (by omega) (by omega) (by omega) (by omega)]
    rw [l6, l2]
    refine ⟨fun q => at225 false ⟨fun z => absurd z (by decide), fun z => absurd z.1 q⟩, fun q => ⟨fun q2 => at225 false ⟨fun z => absurd z (by decide), fun z => absurd z.2 q2⟩, fun q2 => at225 true ⟨fun _ => ⟨q, q2⟩, fun _ => rfl⟩⟩⟩
  -- the piece laid, the rights
  have step185 : ∀ x : Int, x = (if e = 0 then v a else pieceOfB e (v 64)) → wp_X7_apply_185 D post (cS S o (putP c p (upV (mk2 F R v a b) a 0))) (o p) (iI a) (iI b) (iI (kindO (v a))) (iI (upB (v 64) * F)) (o p) (iI b) (iI x) := by
    intro x hx
    have hxr : 0 ≤ x ∧ x ≤ 12 := by rw [hx]; split; exact hva; exact pieceOfB_r (by omega)
    unfold wp_X7_apply_185
    refine q_placeP h hp hb64 hxr ?_
    have e4 : upV (upV (mk2 F R v a b) a 0) b x = mk4 F R v a b e := by rw [hx]; rfl
    rw [e4, e6, m4 65 (by decide)]
    have l0 : (iI (v 65) = 0) = (v 65 = 0) := by have := hv.r; rw [show (0 : Int32) = iI 0 from rfl, iI_eq (by omega) (by omega) (by decide) (by decide)]
    rw [l0]
    refine ⟨fun q => ?_, fun q => ?_⟩
    · have : mkR F R v a b = 0 := by
        unfold mkR
        rw [q]
        have z : ∀ k : Int, 0 ≤ k → k ≤ 15 → clr 0 k = 0 := by
          intro k k0 k1
          unfold clr
          simp
        rw [z _ lostB_r.1 lostB_r.2, z _ lostB_r.1 lostB_r.2, z _ (by omega) (by omega)]
      have e5 : upV (mk4 F R v a b e) 65 (mkR F R v a b) = mk4 F R v a b e := upV_self (by rw [m4 65 (by decide), q, this])
      rw [e5] at step203
      exact step203
    · have hF := rights_8 hv.r hsn q
      refine q_loseRights h hB hF hp (by rw [m4 65 (by decide)]; exact hv.r) (by rw [m4 64 (by decide)]; exact hs) ha64 hb64 hkr ?_
      rw [m4 65 (by decide), m4 64 (by decide)]
      exact step203
  have step151 : wp_X7_apply_151 D post (cS S o (putP c p (mk2 F R v a b))) (o p) (iI a) (iI b) (iI e) (iI (v a)) (iI (kindO (v a))) (iI (upB (v 64) * F)) := by
    unfold wp_X7_apply_151
    rw [show (0 : Int32) = iI 0 from rfl]
    refine q_placeP h hp ha64 (by decide) ?_
    have l0 : (iI e = iI 0) = (e = 0) := by rw [iI_eq (by omega) (by omega) (by decide) (by decide)]
    have w64 : upV (mk2 F R v a b) a 0 64 = v 64 := by
      have := m4 64 (by decide)
      unfold mk4 at this
      have u : ∀ (w : Int → Int) (x : Int), upV w b x 64 = w 64 := fun w x => if_neg (by omega)
      rw [u] at this; exact this
    rw [l0, e5, w64]
    refine ⟨fun q => ?_, fun q => step185 (v a) (if_pos q).symm⟩
    unfold wp_X7_apply_184
    have hx : ∀ y : Int, y = (if v 64 = 1 then 0 else 6) → wp_X7_apply_185 D post (cS S o (putP c p (upV (mk2 F R v a b) a 0))) (o p) (iI a) (iI b) (iI (kindO (v a))) (iI (upB (v 64) * F)) (o p) (iI b) (iI e + iI y) := by
      intro y hy
      rw [iI_add]
      refine step185 _ ?_
      rw [if_neg q, hy]
      unfold pieceOfB
      split <;> omega
    rcases hs with hh | hh
    · rw [hh] at hx ⊢
      exact ⟨fun _ => hx 6 rfl, fun z => absurd rfl z⟩
    · rw [hh] at hx ⊢
      exact ⟨fun z => absurd z (by decide), fun _ => hx 0 rfl⟩
  have l1 : (iI (kindO (v a)) = (1 : Int32)) = (kindO (v a) = 1) := by rw [show (1 : Int32) = iI 1 from rfl, iI_eq (by omega) (by omega) (by decide) (by decide)]
  have lba : (iI b - iI a = (2 : Int32)) = (b - a = 2) := by rw [show (2 : Int32) = iI 2 from rfl, iI_sub, iI_eq (by omega) (by omega) (by decide) (by decide)]
  have lab : (iI a - iI b = (2 : Int32)) = (a - b = 2) := by rw [show (2 : Int32) = iI 2 from rfl, iI_sub, iI_eq (by omega) (by omega) (by decide) (by decide)]
  have mk1k : kindO (v a) = 1 → mk1 F v a b = v := fun q => if_neg (by omega)
  -- castling
  have step81 : wp_X7_apply_81 D post (cS S o (putP c p (mk1 F v a b))) (o p) (iI a) (iI b) (iI e) (iI (v a)) (iI (kindO (v a))) (iI (upB (v 64) * F)) := by
    have no116 : castingB F v a b = false → wp_X7_apply_116 D post (cS S o (putP c p (mk1 F v a b))) (o p) (iI a) (iI b) (iI e) (iI (v a)) (iI (kindO (v a))) (iI (upB (v 64) * F)) := by
      intro hcs
      have e2 : mk2 F R v a b = mk1 F v a b := if_neg (by rw [hcs]; decide)
      rw [e2] at step151
      unfold wp_X7_apply_116
      rw [l1, lab]
      refine ⟨fun _ => step151, fun q => ⟨fun _ => step151, fun q2 => ?_⟩⟩
      have := (king_go h4 h8 r4 r8 hv hsn ha64 hb64 q hg).2.2.mp q2
      rw [hcs] at this
      exact absurd this.1 (by decide)
    unfold wp_X7_apply_81
    rw [l1, lba]
    refine ⟨fun q => no116 ?_, fun q => ⟨fun q2 => ?_, fun q2 => ?_⟩⟩
    · unfold castingB; rw [decide_eq_false q]; rfl
    · cases hcs : castingB F v a b
      · exact no116 hcs
      · -- the long one
        obtain ⟨g0, g1, g2⟩ := king_go h4 h8 r4 r8 hv hsn ha64 hb64 q hg
        have hlt : ¬ a < b := fun z => q2 (g1.mpr ⟨hcs, z⟩)
        have hd := g2.mpr ⟨hcs, hlt⟩
        obtain ⟨rfl, ea, hdat⟩ := cast_data r4 r8 hv hsn (g0.mp hcs)
        obtain ⟨eb, z1, z2, z3, z4⟩ := hdat.resolve_left (by omega)
        unfold wp_X7_apply_116
        rw [l1, lab]
        refine ⟨fun z => absurd q z, fun _ => ⟨fun z => absurd hd z, fun _ => ?_⟩⟩
        have hh4 : 4 ≤ a ∧ a < 61 := by
          rw [ea]; unfold homeB
          rcases hs with e | e <;> rw [e] <;> simp <;> omega
        rw [show (4 : Int32) = iI 4 from rfl, show (1 : Int32) = iI 1 from rfl, iI_sub, iI_sub, mk1k q]
        rw [q_pieceOn h hp hv.p (putP_at c p v) (show 0 ≤ a - 4 ∧ a - 4 < 64 by omega), z4]
        refine q_placeP h hp (by omega) (pieceOfB_r (by decide)) ?_
        rw [show (0 : Int32) = iI 0 from rfl]
        refine q_placeP h hp (by omega) (by decide) ?_
        have e2 : upV (upV v (a - 1) (pieceOfB 3 (v 64))) (a - 4) 0 = mk2 8 R v a b := by
          unfold mk2
          rw [if_pos hcs, mk1k q, if_neg hlt, if_neg hlt, upV_comm (show a - 1 ≠ a - 4 by omega)]
          have e0 : homeB 8 R (v 64) 0 = a - 4 := by rw [ea]; unfold homeB; omega
          have e3 : homeB 8 R (v 64) 3 = a - 1 := by rw [ea]; unfold homeB; omega
          rw [e0, e3]
        rw [e2]
        exact step151
    · -- the short one
      obtain ⟨g0, g1, g2⟩ := king_go h4 h8 r4 r8 hv hsn ha64 hb64 q hg
      obtain ⟨hcs, hlt⟩ := g1.mp q2
      obtain ⟨rfl, ea, hdat⟩ := cast_data r4 r8 hv hsn (g0.mp hcs)
      obtain ⟨eb, z1, z2, z3⟩ := hdat.resolve_right (by omega)
      have hh4 : 4 ≤ a ∧ a < 61 := by
        rw [ea]; unfold homeB
        rcases hs with e | e <;> rw [e] <;> simp <;> omega
      rw [show (3 : Int32) = iI 3 from rfl, show (1 : Int32) = iI 1 from rfl, iI_add, iI_add, mk1k q]
      rw [q_pieceOn h hp hv.p (putP_at c p v) (show 0 ≤ a + 3 ∧ a + 3 < 64 by omega), z3]
      refine q_placeP h hp (by omega) (pieceOfB_r (by decide)) ?_
      rw [show (0 : Int32) = iI 0 from rfl]
      refine q_placeP h hp (by omega) (by decide) ?_
      have e2 : upV (upV v (a + 1) (pieceOfB 3 (v 64))) (a + 3) 0 = mk2 8 R v a b := by
        unfold mk2
        rw [if_pos hcs, mk1k q, if_pos hlt, if_pos hlt, upV_comm (show a + 1 ≠ a + 3 by omega)]
        have e0 : homeB 8 R (v 64) 7 = a + 3 := by rw [ea]; unfold homeB; omega
        have e3 : homeB 8 R (v 64) 5 = a + 1 := by rw [ea]; unfold homeB; omega
        rw [e0, e3]
      rw [e2]
      unfold wp_X7_apply_116
      rw [l1, lab]
      exact ⟨fun z => absurd q z, fun _ => ⟨fun _ => step151, fun z => absurd z (by omega)⟩⟩
  -- taking in passing
  have step55 : wp_X7_apply_55 D post (cS S o c) (o p) (iI a) (iI b) (iI e) (iI (v a)) (iI (kindO (v a))) (iI (upB (v 64) * F)) := by
    unfold wp_X7_apply_55
    have l6 : (iI (kindO (v a)) = (6 : Int32)) = (kindO (v a) = 6) := by rw [show (6 : Int32) = iI 6 from rfl, iI_eq (by omega) (by omega) (by decide) (by decide)]
    have s7 : sI (cS S o c) (o p) 7 = iI (v 66) := by rw [c_i1 h hp.1 (show ((7 : Nat) : Int) = 7 from rfl)]; exact congrArg iI hA.2.2.2.2.2.2
    have lb : (iI b = iI (v 66)) = (b = v 66) := by have := hv.e; rw [iI_eq (by omega) (by omega) (by omega) (by omega)]
    rw [l6, s7, lb]
    have same : mk1 F v a b = v → wp_X7_apply_81 D post (cS S o c) (o p) (iI a) (iI b) (iI e) (iI (v a)) (iI (kindO (v a))) (iI (upB (v 64) * F)) := by
      intro q
      rw [q, putP_self hA] at step81
      exact step81
    refine ⟨fun q => same (if_neg (fun z => q z.1)), fun q => ⟨fun q2 => same (if_neg (fun z => q2 ((ep_iff h4 h8 hv he ha64 hb64 hof q hg).1.mpr ⟨z.2.1, z.2.2⟩))), fun q2 => ?_⟩⟩
    obtain ⟨g1, g2⟩ := ep_iff h4 h8 hv he ha64 hb64 hof q hg
    have hsq := g2 q2
    have hr := ep_r (F := F) (R := R) (a := a) (b := b) h4 h8 r4 r8 ha hbq.1
    rw [iI_sub, show (0 : Int32) = iI 0 from rfl, ← hsq]
    refine q_place h hp hA hr (by decide) ?_
    have : mk1 F v a b = upV v (F * (a / F) + b % F) 0 := if_pos ⟨q, (g1.mp q2).1, (g1.mp q2).2⟩
    rw [this] at step81
    exact step81
  unfold wp_X7_apply wp_X7_apply_0
  rw [q_fromOf hmo, q_toOf hmo, q_becomesOf hmo]
  dsimp only
  rw [q_pieceOn h hp hv.p hA ha64, q_kindOn h hp hv.p hA ha64]
  have s5 : sI (cS S o c) (o p) 5 = iI (v 64) := by rw [c_i1 h hp.1 (show ((5 : Nat) : Int) = 5 from rfl)]; exact congrArg iI hA.2.2.2.2.1
  have s0 : sI (cS S o c) (o 1) 0 = iI F := by rw [c_i1 h (by decide) (show ((0 : Nat) : Int) = 0 from rfl)]; exact congrArg iI hB.f
  rw [s5]
  rcases hs with hh | hh
  · rw [hh] at step55 ⊢
    refine ⟨fun _ => ⟨o 1, c_r h hp.2.2.1, (c_m h (by decide)).mpr trivial, c_k h (by decide), ?_⟩, fun z => absurd rfl z⟩
    rw [s0, iI_neg]
    rw [show upB 0 * F = -F by unfold upB; simp] at step55
    exact step55
  · rw [hh] at step55 ⊢
    refine ⟨fun z => absurd z (by decide), fun _ => ⟨o 1, c_r h hp.2.2.1, (c_m h (by decide)).mpr trivial, c_k h (by decide), ?_⟩⟩
    rw [s0]
    rw [show upB 1 * F = F by unfold upB; simp] at step55
    exact step55
end
