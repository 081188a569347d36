/-- a proper position behind a move is one -/
theorem PV_mk {F R : Int} {v : Int → Int} {t : Mv} (h4 : 4 ≤ F) (h8 : F ≤ 8) (r4 : 4 ≤ R) (r8 : R ≤ 8) (hv : PV F R v) (ok : okMv F R v t) : PV F R (mkT F R v t) := by
  have hm := FR_r h4 h8 r4 r8
  obtain ⟨v1, v2, v3, v4, v5⟩ := id hv
  obtain ⟨p1, p2, p3, p4, p5⟩ := proper_parts v5
  have hs := v1.s
  have hs2 : v 64 = 0 ∨ v 64 = 1 := by omega
  obtain ⟨a, b, c⟩ := t
  have hnk := no_king h4 h8 r4 r8 hv ok
  have hnew := mk_new v1 hm.2 ok
  have hany := fun j h0 hj hjb => mk_any h4 h8 r4 r8 hv ok (j := j) h0 hj hjb
  have hcl := mkT_clV h4 h8 r4 r8 v1 v2 ok
  have hkO := kings_of (F := F) (R := R) (by omega) v5 (s := v 64) (by omega)
  have ok0 := ok
  obtain ⟨ha, hb, hc, ho, hl, hbc⟩ := ok
  dsimp only at ha hb hc ho hl hbc
  have ha64 : 0 ≤ a ∧ a < 64 := ⟨ha.1, by omega⟩
  have hb64 : 0 ≤ b ∧ b < 64 := ⟨hb.1, by omega⟩
  have hva := v1.p a ha64.1 ha64.2
  have hown := own_opp hva hs2 ho
  have hg : goB F R v a b = true := by unfold legB at hl; simp only [Bool.and_eq_true] at hl; exact hl.1
  have hchk0 : chkB F R (mkV F R v a b 0) (v 64) = false := by unfold legB at hl; simp only [Bool.and_eq_true, Bool.not_eq_true'] at hl; exact hl.2
  have hck : c = 0 ∨ kindO (v a) = 6 := by
    split at hbc
    · rename_i e; unfold becB at e; simp only [Bool.and_eq_true, decide_eq_true_eq] at e; exact Or.inr e.1
    · exact Or.inl hbc
  have hgood := goodG_of h4 h8 r4 r8 v1 v2 v4.w hkO.1
  have okm := (hgood a b c ha.1 ha.2 hb.1 hb.2 hc.1 hc.2 hck ho hg).1
  have hk0 := (hgood a b 0 ha.1 ha.2 hb.1 hb.2 (by decide) (by decide) (Or.inl rfl) ho hg).2
  have hhi := mk_hi (F := F) (R := R) (a := a) (b := b) (c := c) (v := v)
  show PV F R (mkV F R v a b c)
  -- the new piece
  have hX : kindO (v a) ≠ 1 → kindO (mkV F R v a b c b) ≠ 1 := by
    intro hk1
    rw [mk_to hb64.2]
    by_cases c0 : c = 0
    · rw [if_pos c0]; exact hk1
    · rw [if_neg c0]
      have c2 : 2 ≤ c := by
        split at hbc
        · exact hbc
        · exact absurd hbc c0
      rw [kindO_of ⟨by omega, by omega⟩]; omega
  refine ⟨okm, hcl, ?_, ?_, ?_⟩
  · -- nothing off the board
    intro j j0 j1
    rcases hany j (by omega) j1 (by omega) with ⟨e, -⟩ | ⟨e, -⟩ | ⟨e, -, -, ecb, e5⟩
    · rw [e]; exact v3 j j0 j1
    · exact e
    · exfalso
      have e8 : F = 8 := by
        unfold castB at ecb; simp only [Bool.and_eq_true, decide_eq_true_eq] at ecb; exact ecb.1.1
      have a1 := homeB_r (F := F) (R := R) (its := v 64) (f := 5) h4 h8 r4 r8 (by omega)
      have a2 := homeB_r (F := F) (R := R) (its := v 64) (f := 3) h4 h8 r4 r8 (by omega)
      omega
  · -- the passing square
    unfold epS
    rw [hhi.1, hhi.2.2]
    unfold mkE
    split
    · rename_i hE
      obtain ⟨g1, g2, g3⟩ := hE
      right
      have hu := upB_ne (v 64)
      have hu2 : upB (1 - v 64) = - upB (v 64) := by rcases hs2 with e | e <;> rw [e] <;> rfl
      rcases pawn_go h4 h8 v1 ha64 hb64 ho g1 hg with ⟨q1, q2, -⟩ | ⟨q1, q2, q3⟩ | ⟨q1, q2, q3, q4, q5, q6⟩
      · exfalso; unfold dist at g2; rcases hu with hu | hu <;> omega
      · exfalso; unfold dist at g2; rcases hu with hu | hu <;> omega
      · have hmid : (a + b) / 2 = a + upB (v 64) * F := by
          rcases hu with hu | hu <;> rw [hu] at q3 ⊢ <;> rcases F_cases h4 h8 with rfl | rfl | rfl | rfl | rfl <;> omega
        have hbe : a + upB (v 64) * F - upB (1 - v 64) * F = b := by
          rw [hu2]
          rcases hu with hu | hu <;> rw [hu] at q3 ⊢ <;> rcases F_cases h4 h8 with rfl | rfl | rfl | rfl | rfl <;> omega
        have hne : a + upB (v 64) * F ≠ b ∧ a + upB (v 64) * F ≠ a ∧ 0 ≤ a + upB (v 64) * F ∧ a + upB (v 64) * F < F * R := by
          rcases hu with hu | hu <;> rw [hu] at q3 ⊢ <;> rcases F_cases h4 h8 with rfl | rfl | rfl | rfl | rfl <;> omega
        rw [hmid, hbe]
        refine ⟨⟨⟨hne.2.2.1, hne.2.2.2⟩, hb.1, hb.2⟩, ?_, ?_⟩
        · rcases hany (a + upB (v 64) * F) hne.2.2.1 (by omega) hne.1 with ⟨e, -⟩ | ⟨e, -⟩ | ⟨-, -, e, -⟩
          · rw [e]; exact q6
          · exact e
          · omega
        · have c0 : c = 0 := by
            rcases (Classical.em (c = 0)) with z | z
            · exact z
            · exfalso
              split at hbc
              · rename_i e
                unfold becB firstB at e
                simp only [Bool.and_eq_true, decide_eq_true_eq] at e
                unfold firstB at q5
                rcases hs2 with z2 | z2 <;> rw [z2] at e q5 q3 <;> simp [upB] at e q5 q3 <;> omega
              · exact z hbc
          rw [mk_to hb64.2, if_pos c0, show 1 - (1 - v 64) = v 64 by omega]
          exact (pawn_up hva hs ho g1).1
    · exact Or.inl rfl
  · -- proper
    have kind_pawn : ∀ s : Int, kindO (pieceOfB 6 s) = 6 := fun s => kindO_of (by decide)
    have kind_rook : ∀ s : Int, kindO (pieceOfB 3 s) = 3 := fun s => kindO_of (by decide)
    have kind_king : ∀ s : Int, kindO (pieceOfB 1 s) = 1 := fun s => kindO_of (by decide)
    -- the other king
    have cntE : cntB F R (mkV F R v a b c) (pieceOfB 1 (1 - v 64)) = 1 := by
      have hE := kings_of (F := F) (R := R) (by omega) v5 (s := 1 - v 64) (by omega)
      have hEk := king_at (show 0 ≤ F * R by omega) hE.1
      have hEr := kingB_r (F := F) (R := R) v (1 - v 64) (by omega)
      have same : ∀ j : Int, 0 ≤ j → j < F * R → (mkV F R v a b c j = pieceOfB 1 (1 - v 64) ↔ v j = pieceOfB 1 (1 - v 64)) := by
        intro j j0 j1
        by_cases e : j = b
        · rw [e]
          constructor
          · intro z; exact absurd z ((own_opp hnew.2 hs2 hnew.1).2.2 1 (by decide) (by decide))
          · intro z; exact absurd z hnk.2
        · rcases hany j j0 (by omega) e with ⟨z, -⟩ | ⟨z, y⟩ | ⟨z, y, -⟩
          · rw [z]
          · rw [z]
            constructor
            · intro x; exfalso; have := kind_king (1 - v 64); rw [← x] at this; exact absurd this (by decide)
            · intro x; exfalso
              rcases y with y | y | ⟨y, -⟩
              · rw [y] at x; exact hown.2.2 1 (by decide) (by decide) x
              · rw [x] at y; have := kind_king (1 - v 64); rw [y, kind_pawn] at this; exact absurd this (by decide)
              · rw [x] at y; have := kind_king (1 - v 64); rw [y, kind_rook] at this; exact absurd this (by decide)
          · rw [z, y]
            constructor
            · intro x; exfalso; have := kind_king (1 - v 64); rw [← x, kind_rook] at this; exact absurd this (by decide)
            · intro x; exfalso; have := kind_king (1 - v 64); rw [← x] at this; exact absurd this (by decide)
      exact (cnt_one (by omega)).mpr ⟨_, hEr.1, hE.1, (same _ hEr.1 hE.1).mpr hEk, fun i i0 i1 i2 => hE.2 i i0 i1 ((same i i0 i1).mp i2)⟩
    -- the own king
    have cntO : cntB F R (mkV F R v a b c) (pieceOfB 1 (v 64)) = 1 := by
      have hOk := king_at (show 0 ≤ F * R by omega) hkO.1
      have hOr := kingB_r (F := F) (R := R) v (v 64) (by omega)
      have zero : ∀ x : Int, x = 0 → x ≠ pieceOfB 1 (v 64) := fun x e z => by have := kind_king (v 64); rw [← z, e] at this; exact absurd this (by decide)
      by_cases hk1 : kindO (v a) = 1
      · have c0 : c = 0 := by rcases hck with z | z; exact z; omega
        have hvk := isOfB_king hva hs ho hk1
        refine (cnt_one (by omega)).mpr ⟨b, hb.1, hb.2, by rw [mk_to hb64.2, if_pos c0, hvk], fun i i0 i1 i2 => ?_⟩
        apply Classical.byContradiction
        intro e
        rcases hany i i0 (by omega) e with ⟨z, y⟩ | ⟨z, y⟩ | ⟨z, y, -⟩
        · rw [z] at i2
          have := hkO.2 i i0 i1 i2
          have := hkO.2 a ha.1 ha.2 hvk
          omega
        · exact zero _ z i2
        · rw [z] at i2; have := kind_king (v 64); rw [← i2, kind_rook] at this; exact absurd this (by decide)
      · have same : ∀ j : Int, 0 ≤ j → j < F * R → (mkV F R v a b c j = pieceOfB 1 (v 64) ↔ v j = pieceOfB 1 (v 64)) := by
          intro j j0 j1
          by_cases e : j = b
          · rw [e]
            constructor
            · intro z; exact absurd (by rw [z]; exact kind_king _) (hX hk1)
            · intro z; exfalso; have := hnk.1; rw [z, isOfB_of (by decide) hs] at this; exact absurd this (by decide)
          · rcases hany j j0 (by omega) e with ⟨z, -⟩ | ⟨z, y⟩ | ⟨-, -, z, -⟩
            · rw [z]
            · constructor
              · intro x; exact absurd x (zero _ z)
              · intro x; exfalso
                rcases y with y | y | ⟨y, -⟩
                · rw [y] at x; exact hk1 (by rw [x]; exact kind_king _)
                · rw [x] at y; have := kind_king (v 64); rw [y, kind_pawn] at this; exact absurd this (by decide)
                · rw [x] at y; have := kind_king (v 64); rw [y, kind_rook] at this; exact absurd this (by decide)
            · exact absurd z hk1
        exact (cnt_one (by omega)).mpr ⟨_, hOr.1, hkO.1, (same _ hOr.1 hkO.1).mpr hOk, fun i i0 i1 i2 => hkO.2 i i0 i1 ((same i i0 i1).mp i2)⟩
    have cnts : cntB F R (mkV F R v a b c) 1 = 1 ∧ cntB F R (mkV F R v a b c) 7 = 1 := by
      rcases hs2 with e | e
      · rw [e] at cntE cntO; exact ⟨cntE, cntO⟩
      · rw [e] at cntE cntO; exact ⟨cntO, cntE⟩
    -- the rights
    have snd : soundB F R (mkV F R v a b c) = true := by
      refine allL_iff.mpr fun i i0 i1 => ?_
      unfold soundAt
      rw [hhi.2.1]
      split
      · rename_i hbit
        have hkm : 0 ≤ (if kindO (v a) = 1 then (if v 64 = 1 then 3 else 12) else 0 : Int) ∧ (if kindO (v a) = 1 then (if v 64 = 1 then 3 else 12) else 0 : Int) ≤ 15 := by omega
        have r1 := (clr_I v1.r (lostB_r (F := F) (R := R) (a := a))).2
        have r2 := (clr_I r1 (lostB_r (F := F) (R := R) (a := b))).2
        unfold mkR at hbit
        obtain ⟨h1, hk⟩ := clr_bit r2 hkm ⟨i0, by omega⟩ hbit
        obtain ⟨h2, hlb⟩ := clr_bit r1 lostB_r ⟨i0, by omega⟩ h1
        obtain ⟨h3, hla⟩ := clr_bit v1.r lostB_r ⟨i0, by omega⟩ h2
        obtain ⟨e8, sk, sr⟩ := sound_at p3 i0 (by omega) h3
        have hmover : kindO (v a) = 1 → (if i < 2 then (1 : Int) else 0) ≠ v 64 := by
          intro hk1 e
          rw [if_pos hk1] at hk
          rcases (show i = 0 ∨ i = 1 ∨ i = 2 ∨ i = 3 by omega) with rfl | rfl | rfl | rfl <;> rcases hs2 with z | z <;> rw [z] at e hk <;> first | exact absurd e (by decide) | exact absurd hk (by decide)
        generalize hits : (if i < 2 then (1 : Int) else 0) = its at *
        have hits2 : its = 0 ∨ its = 1 := by rw [← hits]; split <;> omega
        subst e8
        have ca := corner_lost r4 r8 ⟨i0, by omega⟩ hla
        have cb := corner_lost r4 r8 ⟨i0, by omega⟩ hlb
        rw [hits] at ca cb
        generalize hcr : (if i % 2 = 0 then (7 : Int) else 0) = cr at *
        have hcr2 : 0 ≤ cr ∧ cr < 8 := by rw [← hcr]; split <;> omega
        have h4r := homeB_r (F := 8) (R := R) (its := its) (f := 4) h4 h8 r4 r8 (by decide)
        have hcrr := homeB_r (F := 8) (R := R) (its := its) (f := cr) h4 h8 r4 r8 hcr2
        have stayK : mkV 8 R v a b c (homeB 8 R its 4) = pieceOfB 1 its := by
          have hne : homeB 8 R its 4 ≠ b := fun e => by
            rcases (Classical.em (its = v 64)) with z | z
            · have := hnk.1; rw [← e, sk, z, isOfB_of (by decide) hs] at this; exact absurd this (by decide)
            · have z2 : its = 1 - v 64 := by omega
              exact hnk.2 (by rw [← e, sk, z2])
          rcases hany _ h4r.1 (by omega) hne with ⟨z, -⟩ | ⟨z, y⟩ | ⟨-, y, -⟩
          · rw [z]; exact sk
          · exfalso
            rcases y with y | y | ⟨y, -⟩
            · rw [y] at sk
              have hk1 : kindO (v a) = 1 := by rw [sk]; exact kind_king _
              have := isOfB_king hva hs ho hk1
              rw [this] at sk
              have hne2 := hmover hk1
              unfold pieceOfB at sk
              rcases hits2 with z1 | z1 <;> rcases hs2 with z2 | z2 <;> rw [z1, z2] at sk hne2 <;> first | exact hne2 rfl | exact absurd sk (by decide)
            · rw [sk] at y; have := kind_king its; rw [y, kind_pawn] at this; exact absurd this (by decide)
            · rw [sk] at y; have := kind_king its; rw [y, kind_rook] at this; exact absurd this (by decide)
          · exfalso; rw [sk] at y; have := kind_king its; rw [y] at this; exact absurd this (by decide)
        have stayR : mkV 8 R v a b c (homeB 8 R its cr) = pieceOfB 3 its := by
          rcases hany _ hcrr.1 (by omega) (fun e => cb e.symm) with ⟨z, -⟩ | ⟨z, y⟩ | ⟨-, y, -⟩
          · rw [z]; exact sr
          · exfalso
            rcases y with y | y | ⟨y, yk⟩
            · exact ca y.symm
            · rw [sr] at y; have := kind_rook its; rw [y, kind_pawn] at this; exact absurd this (by decide)
            · rw [sr] at y
              have hne2 := hmover yk
              rcases hits2 with z1 | z1 <;> rcases hs2 with z2 | z2 <;> rw [z1, z2] at y hne2 <;> first | exact hne2 rfl | exact absurd y (by decide)
          · exfalso; rw [sr] at y; have := kind_rook its; rw [y] at this; exact absurd this (by decide)
        rw [stayK, stayR]; simp
      · rfl
    -- the pawns
    have pf : allL (pawnFree F R (mkV F R v a b c)) 0 F.toNat = true := by
      rw [← edge_pawns h4 h8 r4 r8] at p4 ⊢
      intro j j0 j1
      cases q : (decide (kindO (mkV F R v a b c j) = 6) && edgeB F R j)
      · rfl
      · exfalso
        simp only [Bool.and_eq_true, decide_eq_true_eq] at q
        obtain ⟨q1, q2⟩ := q
        by_cases e : j = b
        · rw [e] at q1 q2
          rw [mk_to hb64.2] at q1
          by_cases c0 : c = 0
          · rw [if_pos c0] at q1
            have hbec := edge_bec h4 h8 r4 r8 v1 ha hb ho hl
            rw [decide_eq_true q1, q2] at hbec
            rw [← hbec] at hbc
            simp only [Bool.and_self, if_true] at hbc
            omega
          · rw [if_neg c0] at q1
            rw [kindO_of (by omega)] at q1; omega
        · rcases hany j j0 j1 e with ⟨z, -⟩ | ⟨z, -⟩ | ⟨z, -⟩
          · rw [z] at q1
            have := p4 j j0 j1
            rw [decide_eq_true q1, q2] at this
            exact absurd this (by decide)
          · rw [z] at q1; exact absurd q1 (by decide)
          · rw [z, kind_rook] at q1; omega
    unfold properB
    rw [cnts.1, cnts.2, snd, pf, hhi.1, show 1 - (1 - v 64) = v 64 by omega, chk_bec h4 h8 r4 r8 v1 ok0 hk0, hchk0]
    rfl
