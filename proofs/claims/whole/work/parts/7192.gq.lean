/-! PHASE 3: texts of moves read -/
section
variable {D : wD} {S : wS} {o : Nat → Nat} {c : cM} {F R : Int} {L : List Int} {y b : Nat}
/-- the positions of the reader's open lines are proper -/
abbrev RI (F R : Int) (s : RD) (a : Int) : Prop := ∀ d : Int, 0 ≤ d → d ≤ s.1 → PV F R (s.2.1 d) ∧ (s.2.2.2.1 d ≠ 0 → PV F R (s.2.2.1 d)) ∧ s.2.2.2.1 d ≤ a
theorem RI.tak {s s' : RD} {k a e : Int} (hd : 0 ≤ s.1) (h : RI F R s a) (hae : a ≤ e) (h0 : 0 ≤ a) (ht : takB k s = some s') : RI F R s' e := by
  have mono : RI F R s e := fun d d0 d1 => ⟨(h d d0 d1).1, (h d d0 d1).2.1, Int.le_trans (h d d0 d1).2.2 hae⟩
  unfold takB at ht
  split at ht
  · injection ht with ht; rw [← ht]; exact mono
  split at ht
  · exact absurd ht (by simp)
  split at ht
  · split at ht
    · rename_i q
      injection ht with ht; rw [← ht]
      intro d d0 d1
      have d1 : d ≤ s.1 + 1 := d1
      show PV F R (setR s.2.1 (s.1 + 1) (s.2.2.1 s.1) d) ∧ (setR s.2.2.2.1 (s.1 + 1) 0 d ≠ 0 → PV F R (s.2.2.1 d)) ∧ setR s.2.2.2.1 (s.1 + 1) 0 d ≤ e
      unfold setR
      by_cases z : d = s.1 + 1
      · rw [if_pos z, if_pos z]
        exact ⟨(h s.1 hd (Int.le_refl _)).2.1 q.2, fun w => absurd rfl w, by omega⟩
      · rw [if_neg z, if_neg z]; exact mono d d0 (by omega)
    · exact absurd ht (by simp)
  split at ht
  · split at ht
    · injection ht with ht; rw [← ht]
      intro d d0 d1
      have d1 : d ≤ s.1 - 1 := d1
      exact mono d d0 (by omega)
    · exact absurd ht (by simp)
  split at ht
  · split at ht
    · injection ht with ht; rw [← ht]; exact mono
    · exact absurd ht (by simp)
  split at ht
  · injection ht with ht; rw [← ht]; exact mono
  split at ht
  · split at ht
    · injection ht with ht; rw [← ht]; exact mono
    · exact absurd ht (by simp)
  · exact absurd ht (by simp)
theorem wnB_r (v : Int → Int) (a e : Int) : wnB F R L v a e = -1 ∨ (0 ≤ wnB F R L v a e ∧ wnB F R L v a e < (movesL F R v).length) := by
  unfold wnB
  by_cases z : tx L (e - 1) = 43 ∨ tx L (e - 1) = 35
  · rw [if_pos z]
    have f1 := firstL_r (fun i => decide (wdC F R v i = zI (if e - 1 - a ≤ 7 then pkT (tx L) 0 (e - 1 - a).toNat a else 0))) (movesL F R v).length 0
    generalize firstL (fun i => decide (wdC F R v i = zI (if e - 1 - a ≤ 7 then pkT (tx L) 0 (e - 1 - a).toNat a else 0))) 0 (movesL F R v).length = f at f1 ⊢
    by_cases q : f = -1
    · rw [if_pos q]; exact Or.inl rfl
    · rw [if_neg q]
      by_cases u : endC F R (mkT F R v ((movesL F R v).getD f.toNat (0, 0, 0))) = tx L (e - 1)
      · rw [if_pos u]; omega
      · rw [if_neg u]; exact Or.inl rfl
  · rw [if_neg z]
    have f1 := firstL_r (fun i => decide (wdC F R v i = zI (if e - a ≤ 7 then pkT (tx L) 0 (e - a).toNat a else 0))) (movesL F R v).length 0
    omega
theorem RI.mov {s s' : RD} {a e rm : Int} (hB : BG c F R) (hd : 0 ≤ s.1) (h : RI F R s a) (hae : a < e) (ht : movB F R rm L a e s = some s') : RI F R s' e := by
  have hm := hB.m
  have h4 := hB.f4; have h8 := hB.f8; have r4 := hB.r4; have r8 := hB.r8
  unfold movB at ht
  split at ht
  · exact absurd ht (by simp)
  split at ht
  · exact absurd ht (by simp)
  split at ht
  · exact absurd ht (by simp)
  rename_i q
  have hs := h s.1 hd (Int.le_refl _)
  have wr : 0 ≤ wnB F R L (s.2.1 s.1) a e ∧ wnB F R L (s.2.1 s.1) a e < (movesL F R (s.2.1 s.1)).length := (wnB_r (s.2.1 s.1) a e).resolve_left q
  have ok := movesL_mem (F := F) (R := R) (v := s.2.1 s.1) (by omega) (getD_mem (L := movesL F R (s.2.1 s.1)) (k := wnB F R L (s.2.1 s.1) a e) wr)
  have hv' := PV_mk h4 h8 r4 r8 hs.1 ok
  injection ht with ht; rw [← ht]
  intro d d0 d1
  have d1 : d ≤ s.1 := d1
  show PV F R (setR s.2.1 s.1 _ d) ∧ (setR s.2.2.2.1 s.1 (s.2.2.2.1 s.1 + 1) d ≠ 0 → PV F R (setR s.2.2.1 s.1 (s.2.1 s.1) d)) ∧ setR s.2.2.2.1 s.1 (s.2.2.2.1 s.1 + 1) d ≤ e
  unfold setR
  by_cases z : d = s.1
  · rw [if_pos z, if_pos z, if_pos z]
    exact ⟨hv', fun _ => hs.1, by omega⟩
  · rw [if_neg z, if_neg z, if_neg z]
    have := h d d0 d1
    exact ⟨this.1, this.2.1, by omega⟩
theorem eotB_rg {a : Int} (ha : 0 ≤ a ∧ a < L.length) : a < eotB L a ∧ eotB L a ≤ L.length + 1 ∧ (tx L a ≠ 123 → eotB L a ≤ L.length) := by
  unfold eotB
  have n := nEnd_rg (tx L) L.length ((L.length : Int) - (a + 1)).toNat (a + 1) (by omega)
  have w := wEnd_rg (tx L) L.length ((L.length : Int) - (a + 1)).toNat (a + 1) (by omega)
  split
  · refine ⟨by omega, by omega, fun q => by contradiction⟩
  · split
    · exact ⟨by omega, by omega, fun _ => by omega⟩
    · exact ⟨by omega, by omega, fun _ => by omega⟩
/-- the strings that the reader looks at -/
abbrev TKS (D : wD) (S : wS) (o : Nat → Nat) : Prop := ∀ c : cM, ST D (cS S o c) (D.2.2.1 1) pcsL ∧ ST D (cS S o c) (D.2.2.1 26) [49, 45, 48] ∧ ST D (cS S o c) (D.2.2.1 27) [48, 45, 49] ∧ ST D (cS S o c) (D.2.2.1 28) [49, 47, 50, 45, 49, 47, 50] ∧ ST D (cS S o c) (D.2.2.1 29) [42]
theorem q_read_61 {post : Int32 → wS → Prop} (h : CC D S o) (hP : TKS D S o) (hT : ∀ c, SB (cS S o c) b y L) (hc : sN S y < 1000000) (h500 : L.length ≤ 500) (h32 : ∀ x ∈ L, 32 ≤ x ∧ x ≤ 126) (hfw : ∀ v, PV F R v → few F R v) (hte : ∀ v, PV F R v → tellB F R v) {made : Int} (hmd : 0 ≤ made ∧ made ≤ 80) {c0 : cM} (hB0 : BG c0 F R) :
    ∀ (f d n : Nat) (a i : Int) (s : RD) (c : cM), d < f → d < n → a + d = L.length → 0 ≤ i → i ≤ a → RDC c s → RI F R s a → c.1 22 7 = 80 - made → cSim KRd c0 c →
    (∀ c', cSim KRd c0 c' → ((rdM F R made (tx L) L.length n a s).1 = -1 → RDC c' (rdM F R made (tx L) L.length n a s).2) → post (iI (rdM F R made (tx L) L.length n a s).1) (cS S o c')) →
    wp_X5_read_61 D post f (cS S o c) (o 22) b (iI L.length) (iI a) (iI i) := by
  -- the end of the text
  have fin : ∀ (a : Int) (s : RD) (c : cM), (0 ≤ a ∧ a ≤ 501) → RDC c s → (a ≠ L.length → post (iI L.length) (cS S o c)) → (a = L.length → post (iI (if 0 < s.1 ∨ s.2.2.2.2.2.2.1 = true then (L.length : Int) else -1)) (cS S o c)) → wp_X5_read_138 D post (cS S o c) (o 22) (iI L.length) (iI a) := by
    intro a s c ha hR k0 k1
    obtain ⟨⟨h6, hd⟩, hn, hl, hli, h8, h9, h10⟩ := id hR
    unfold wp_X5_read_138 wp_X5_read_163 wp_X5_read_164 wp_X5_read_177
    have e6 : sI (cS S o c) (o 22) 6 = iI s.1 := by rw [c_i0 h (by decide), show c.1 22 ((6 : Nat) : Int) = s.1 from h6]
    have e9 : sI (cS S o c) (o 22) 9 = iI (bI s.2.2.2.2.2.2.1) := by rw [c_i0 h (by decide), show c.1 22 ((9 : Nat) : Int) = _ from h9]
    rw [e6, e9, iI_eq (by omega) (by omega) (by omega) (by omega), show (-1 : Int32) = iI (-1) from rfl, show (0 : Int32) = iI 0 from rfl, show (1 : Int32) = iI 1 from rfl, iI_eq (a := s.1) (by omega) (by omega) (by decide) (by decide), bI_z]
    refine ⟨fun q => ⟨fun _ => k0 q, fun w => absurd rfl w⟩, fun q => ?_⟩
    have k1 := k1 q
    refine ⟨fun z => ⟨fun _ => ?_, fun w => absurd rfl w⟩, fun z => ⟨fun w => ⟨fun _ => ?_, fun w => absurd rfl w⟩, fun w => ⟨fun u => absurd u (by decide), fun _ => ?_⟩⟩⟩
    · rw [if_pos (Or.inl (by omega))] at k1; exact k1
    · rw [if_pos (Or.inr ((Bool.not_eq_false _).mp w))] at k1; exact k1
    · rw [if_neg (fun u => u.elim (fun u => by omega) (fun u => by rw [w] at u; exact absurd u (by decide)))] at k1; exact k1
  intro f
  induction f with
  | zero => intro d n a i s c hd; omega
  | succ f ih =>
    intro d n a i s c hd hn ha i0 hi hR hI h7 hS k
    obtain ⟨⟨h6, hdp⟩, hnx, hl, hli, h8, h9, h10⟩ := id hR
    obtain ⟨n, rfl⟩ : ∃ n', n = n' + 1 := ⟨n - 1, by omega⟩
    have hB : BG c F R := hS.B (fun m hm => by simp; omega) hB0
    unfold wp_X5_read_61
    rw [iI_le (by omega) (by omega) (by omega) (by omega), iI_le (by omega) (by omega) (by omega) (by omega)]
    have over : L.length ≤ a → wp_X5_read_138 D post (cS S o c) (o 22) (iI L.length) (iI a) := fun q => by
      have e : rdM F R made (tx L) L.length (n + 1) a s = (if 0 < s.1 ∨ s.2.2.2.2.2.2.1 = true then (L.length : Int) else -1, s) := by unfold rdM; rw [if_pos q]
      rw [e] at k
      exact fin a s c (by omega) hR (fun w => absurd (show a = L.length by omega) w) (fun _ => k c hS (fun _ => hR))
    refine ⟨fun q => over (by omega), fun q => ⟨over, fun z => ?_⟩⟩
    have hal : 0 ≤ a ∧ a < L.length := ⟨by omega, by omega⟩
    have er := eotB_rg (L := L) hal
    have es := eotB_spec h500 hal
    have sim0 : ∀ c', cSim KRd c c' → cSim KRd c0 c' := fun c' q => hS.trans q
    -- behind a token
    have nxt : ∀ (s' : RD) (c' : cM), cSim KRd c c' → RDC c' s' → c'.1 22 7 = 80 - made → RI F R s' (eotB L a) → eotB L a ≤ L.length → rdM F R made (tx L) L.length (n + 1) a s = rdM F R made (tx L) L.length n (eotB L a) s' → wp_X5_read_118 D post (wp_X5_read_61 D post f) (cS S o c') (o 22) b (iI L.length) (iI a) (iI i) (iI (eotB L a)) (iI 1) := by
      intro s' c' q1 q2 q3 q4 q5 q6
      unfold wp_X5_read_118
      refine ⟨fun _ x2 e2 => ?_, fun w => absurd w (by decide)⟩
      rw [e2, show (1 : Int32) = iI 1 from rfl, iI_add]
      rw [q6] at k
      exact ih ((L.length : Int) - eotB L a).toNat n (eotB L a) (i + 1) s' c' (by omega) (by omega) (by omega) (by omega) (by omega) q2 q4 q3 (sim0 c' q1) k
    have bad : ∀ c', cSim KRd c c' → (rdM F R made (tx L) L.length (n + 1) a s).1 = a → wp_X5_read_118 D post (wp_X5_read_61 D post f) (cS S o c') (o 22) b (iI L.length) (iI a) (iI i) (iI (eotB L a)) (iI 0) := by
      intro c' q1 q2
      unfold wp_X5_read_118
      refine ⟨fun w => absurd rfl w, fun _ => ?_⟩
      have := k c' (sim0 c' q1) (fun w => by rw [q2] at w; omega)
      rw [q2] at this
      exact this
    have tk := hP c
    refine q_endOfToken (hT c) hc hal ?_
    refine q_tokenAt (hT c) hc tk.2.1 tk.2.2.1 tk.2.2.2.1 tk.2.2.2.2 hal (fun q => ?_) ?_
    · have n123 : tx L a ≠ 123 := fun w => by rw [w] at q; exact absurd q (by decide)
      exact ⟨by omega, er.2.2 n123⟩
    -- what the specification does
    have hN : ¬ (L.length : Int) ≤ a := by omega
    by_cases t32 : tx L a = 32
    · have et : tokB L a (eotB L a) = 0 := by unfold tokB; rw [if_pos t32]
      have ee : eotB L a = a + 1 := by rw [es, if_neg (by omega), if_pos (Or.inl t32)]
      rw [et]
      refine ⟨fun _ => ?_, fun w => absurd w (by decide)⟩
      refine q_takesTok h hR (k := 0) (by decide) (fun w => absurd w (by unfold takB; rw [if_pos rfl]; simp)) (fun s' hs' c' q1 q2 q3 => ?_)
      have e1 : s' = s := by unfold takB at hs'; rw [if_pos rfl] at hs'; injection hs' with hs'; exact hs'.symm
      refine nxt s' c' (q1.mono (by decide)) q2 (by rw [q3]; exact h7) (hI.tak hdp.1 (by omega) (by omega) hs') (by omega) ?_
      rw [e1, ee]
      show rdM F R made (tx L) L.length (n + 1) a s = _
      rw [rdM, if_neg hN, if_pos t32]
    · by_cases tb : brkB (tx L a) = true
      · have hx : tx L a = 40 ∨ tx L a = 41 ∨ tx L a = 123 ∨ tx L a = 125 := by
          unfold brkB at tb; simp at tb; omega
        have et : tokB L a (eotB L a) = (if tx L a = 40 then 1 else if tx L a = 41 then 2 else if tx L a = 123 then 3 else -1) := by
          unfold tokB
          rcases hx with w | w | w | w <;> rw [w] <;> rfl
        have er6 : (-1 ≤ tokB L a (eotB L a) ∧ tokB L a (eotB L a) ≤ 5) := by rw [et]; rcases hx with w | w | w | w <;> rw [w] <;> decide
        have tkb := tak_brk (s := s) hdp tb
        rw [← et] at tkb
        have erd : rdM F R made (tx L) L.length (n + 1) a s = (match takB (tokB L a (eotB L a)) s with
            | none => (a, s)
            | some s1 => if tx L a = 123 then (if nEnd (tx L) L.length 501 (a + 1) = L.length then ((L.length : Int), s1) else rdM F R made (tx L) L.length n (nEnd (tx L) L.length 501 (a + 1) + 1) s1) else rdM F R made (tx L) L.length n (a + 1) s1) := by
          rw [rdM, if_neg hN, if_neg t32, if_pos tb, tkb]
          rfl
        refine ⟨fun _ => ?_, fun w => absurd w (by rw [show (6 : Int32) = iI 6 from rfl, iI_eq (by omega) (by omega) (by decide) (by decide)]; omega)⟩
        refine q_takesTok h hR er6 (fun w c' q1 => bad c' (q1.mono (by decide)) (by rw [erd, w])) (fun s' hs' c' q1 q2 q3 => ?_)
        rw [hs'] at erd
        have hI' := hI.tak hdp.1 (show a ≤ eotB L a by omega) (by omega) hs'
        by_cases w : tx L a = 123
        · rw [if_pos w] at es
          have erd : rdM F R made (tx L) L.length (n + 1) a s = (if nEnd (tx L) L.length 501 (a + 1) = L.length then ((L.length : Int), s') else rdM F R made (tx L) L.length n (nEnd (tx L) L.length 501 (a + 1) + 1) s') := by rw [erd]; exact if_pos w
          by_cases u : nEnd (tx L) L.length 501 (a + 1) = L.length
          · -- a note without an end
            rw [if_pos u] at erd
            unfold wp_X5_read_118
            refine ⟨fun _ x2 e2 => ?_, fun w => absurd w (by decide)⟩
            rw [e2, show (1 : Int32) = iI 1 from rfl, iI_add]
            obtain ⟨f, rfl⟩ : ∃ f', f = f' + 1 := ⟨f - 1, by omega⟩
            unfold wp_X5_read_61
            have last : wp_X5_read_138 D post (cS S o c') (o 22) (iI L.length) (iI (eotB L a)) := by
              refine fin (eotB L a) s' c' (by omega) q2 (fun _ => ?_) (fun w => by omega)
              have := k c' (sim0 c' (q1.mono (by decide))) (fun w => by rw [erd] at w; dsimp only at w; omega)
              rw [erd] at this
              exact this
            rw [iI_le (by omega) (by omega) (by omega) (by omega), iI_le (by omega) (by omega) (by omega) (by omega)]
            exact ⟨fun _ => last, fun _ => ⟨fun _ => last, fun w => absurd (show (L.length : Int) ≤ eotB L a by omega) w⟩⟩
          · rw [if_neg u] at erd
            have nr := nEnd_r (tx L) L.length 501 (a + 1) (by omega)
            refine nxt s' c' (q1.mono (by decide)) q2 (by rw [q3]; exact h7) hI' (by omega) ?_
            rw [erd, es]
        · rw [if_neg w, if_pos (Or.inr tb)] at es
          refine nxt s' c' (q1.mono (by decide)) q2 (by rw [q3]; exact h7) hI' (by omega) ?_
          rw [erd, es]; exact if_neg w
      · have n123 : tx L a ≠ 123 := fun w => by rw [w] at tb; exact tb (by decide)
        rw [if_neg n123, if_neg (fun w => w.elim t32 tb)] at es
        have hxb : ¬ (tx L a = 40 ∨ tx L a = 41 ∨ tx L a = 123 ∨ tx L a = 125) := fun w => tb (by unfold brkB; rcases w with w | w | w | w <;> rw [w] <;> decide)
        have et : tokB L a (eotB L a) = if numB (tx L) a (eotB L a) = true then 4 else if resB (tx L) a (eotB L a) = true then 5 else 6 := by
          unfold tokB
          rw [if_neg t32, if_neg (by omega), if_neg (by omega), if_neg (by omega), if_neg (by omega)]
        have erd : rdM F R made (tx L) L.length (n + 1) a s = (match wordS F R made (tx L) a (eotB L a) s with
            | none => (a, s)
            | some s1 => rdM F R made (tx L) L.length n (eotB L a) s1) := by
          rw [rdM, if_neg hN, if_neg t32, if_neg tb, es]
          rfl
        have el := er.2.2 n123
        rw [et]
        -- a number, a result
        have tok : ∀ k : Int, (k = 4 ∨ k = 5) → wordS F R made (tx L) a (eotB L a) s = takB k s → wp_X5_takes D (fun r_8 S_9 => wp_X5_read_118 D post (wp_X5_read_61 D post f) S_9 (o 22) b (iI L.length) (iI a) (iI i) (iI (eotB L a)) r_8) (cS S o c) (o 22) (iI k) := by
          intro k1 hk1 hw
          rw [hw] at erd
          refine q_takesTok h hR (k := k1) (by omega) (fun w c' q1 => bad c' (q1.mono (by decide)) (by rw [erd, w])) (fun s' hs' c' q1 q2 q3 => ?_)
          rw [hs'] at erd
          exact nxt s' c' (q1.mono (by decide)) q2 (by rw [q3]; exact h7) (hI.tak hdp.1 (show a ≤ eotB L a by omega) (by omega) hs') el erd
        by_cases nb : numB (tx L) a (eotB L a) = true
        · rw [if_pos nb]
          exact ⟨fun _ => tok 4 (Or.inl rfl) (tak_num nb), fun w => absurd w (by decide)⟩
        · by_cases rb : resB (tx L) a (eotB L a) = true
          · rw [if_neg nb, if_pos rb]
            exact ⟨fun _ => tok 5 (Or.inr rfl) (tak_res ((Bool.not_eq_true _).mp nb) rb), fun w => absurd w (by decide)⟩
          · rw [if_neg nb, if_neg rb]
            refine ⟨fun w => absurd rfl w, fun _ => ?_⟩
            have hs := hI s.1 hdp.1 (Int.le_refl _)
            have mw := mov_word hB (s := s) (made := made) (hte _ hs.1) h32 hal.1 ⟨er.1, el⟩ ((Bool.not_eq_true _).mp nb) ((Bool.not_eq_true _).mp rb)
            rw [← mw] at erd
            refine q_takesMove h (fun c => (hP c).1) hT hc hR hB hs.1 (hfw _ hs.1) h7 (by omega) (by omega) hal.1 ⟨er.1, el⟩ (fun w c' q1 => bad c' q1 (by rw [erd, w])) (fun s' hs' c' q1 q2 q3 => ?_)
            rw [hs'] at erd
            exact nxt s' c' q1 q2 q3 (hI.mov hB hdp.1 er.1 hs') el erd
theorem q_readC {post : Int32 → wS → Prop} {v : Int → Int} (h : CC D S o) (hP : TKS D S o) (hT : ∀ c, SB (cS S o c) b y L) (hc : sN S y < 1000000) (h500 : L.length ≤ 500) (h32 : ∀ x ∈ L, 32 ≤ x ∧ x ≤ 126) (hfw : ∀ v, PV F R v → few F R v) (hte : ∀ v, PV F R v → tellB F R v) {made : Int} (hmd : 0 ≤ made ∧ made ≤ 80) (hB : BG c F R) (hA : PAt c 11 v) (hv : PV F R v)
    (k : ∀ c', cSim KRd c c' → ((rdT F R made (tx L) L.length v).1 = -1 → RDC c' (rdT F R made (tx L) L.length v).2) → post (iI (rdT F R made (tx L) L.length v).1) (cS S o c')) :
    wp_X5_read D post (cS S o c) (o 22) b (o 11) (iI (80 - made)) := by
  have hm := hB.m
  have hr := hv.1.rg hm.2
  unfold wp_X5_read wp_X5_read_0
  rw [show (0 : Int32) = iI 0 from rfl]
  refine ⟨o 24, c_r h rfl, (c_m h (by decide)).mpr trivial, c_k h (by decide), ?_⟩
  refine q_save h isP11 (by decide) (by decide) hA hr (i := 0) (by decide) (by decide) ?_
  refine ⟨o 26, c_r h rfl, (c_m h (by decide)).mpr trivial, c_k h (by decide), (c_l h (by decide)).mpr trivial, iI_in (a := 0) (by omega) (by omega) (by rw [c_n h (by decide)]; decide), fun S6 e6 S7 e7 => ?_⟩
  rw [c_u h (by decide) (by decide) (by decide)] at e6
  rw [e6, c_u1 h (by decide) (show ((6 : Nat) : Int) = 6 from rfl)] at e7
  rw [e7]
  have n27 : ∀ c, sN (cS S o c) (o 27) = 80 := fun c => c_n h (by decide)
  refine ⟨o 27, c_r h rfl, (c_m h (by decide)).mpr trivial, c_k h (by decide), fun S9 e9 S10 e10 => ⟨rfl, rfl, fun S11 e11 => ⟨rfl, rfl, fun S13 e13 => ?_⟩⟩⟩
  have mn : (if (Int32.ofNat 80) < iI (80 - made) then (Int32.ofNat 80) else iI (80 - made)) = iI (80 - made) := by
    rw [show Int32.ofNat 80 = iI 80 from rfl]
    exact if_neg (fun z => absurd ((iI_lt (by decide) (by decide) (by omega) (by omega)).mp z) (by omega))
  rw [n27, mn, c_u1 h (by decide) (show ((7 : Nat) : Int) = 7 from rfl)] at e9
  rw [e9, c_u1 h (by decide) (show ((8 : Nat) : Int) = 8 from rfl)] at e10
  rw [e10, c_u1 h (by decide) (show ((9 : Nat) : Int) = 9 from rfl)] at e11
  rw [e11, c_u1 h (by decide) (show ((10 : Nat) : Int) = 10 from rfl)] at e13
  rw [e13]
  have u1 : ∀ {a b : cM} {n : Nat} {i x : Int}, cSim [22, 24, 26] a b → n ∈ [22, 26] → cSim [22, 24, 26] a (cI b n i x) := fun {a b n i x} q hn => q.trans ((cI_sim b n i x).mono (by simp at hn ⊢; omega))
  have s0 : cSim [22, 24, 26] c (putS c 24 0 v) := (putS_sim c 24 0 v).mono (by decide)
  have sim : cSim [22, 24, 26] c (cI (cI (cI (cI (cI (cI (putS c 24 0 v) 26 0 0) 22 6 0) 22 7 (80 - made)) 22 8 0) 22 9 0) 22 10 0) := u1 (u1 (u1 (u1 (u1 (u1 s0 (by decide)) (by decide)) (by decide)) (by decide)) (by decide)) (by decide)
  have a6 : (cI (cI (cI (cI (cI (cI (putS c 24 0 v) 26 0 0) 22 6 0) 22 7 (80 - made)) 22 8 0) 22 9 0) 22 10 0).1 22 6 = 0 := by
    rw [cI_1, up_ne _ (Or.inr (by decide)), cI_1, up_ne _ (Or.inr (by decide)), cI_1, up_ne _ (Or.inr (by decide)), cI_1, up_ne _ (Or.inr (by decide)), cI_1, up_at]
  have a7 : (cI (cI (cI (cI (cI (cI (putS c 24 0 v) 26 0 0) 22 6 0) 22 7 (80 - made)) 22 8 0) 22 9 0) 22 10 0).1 22 7 = 80 - made := by
    rw [cI_1, up_ne _ (Or.inr (by decide)), cI_1, up_ne _ (Or.inr (by decide)), cI_1, up_ne _ (Or.inr (by decide)), cI_1, up_at]
  have a8 : (cI (cI (cI (cI (cI (cI (putS c 24 0 v) 26 0 0) 22 6 0) 22 7 (80 - made)) 22 8 0) 22 9 0) 22 10 0).1 22 8 = 0 := by
    rw [cI_1, up_ne _ (Or.inr (by decide)), cI_1, up_ne _ (Or.inr (by decide)), cI_1, up_at]
  have a9 : (cI (cI (cI (cI (cI (cI (putS c 24 0 v) 26 0 0) 22 6 0) 22 7 (80 - made)) 22 8 0) 22 9 0) 22 10 0).1 22 9 = 0 := by
    rw [cI_1, up_ne _ (Or.inr (by decide)), cI_1, up_at]
  have a10 : (cI (cI (cI (cI (cI (cI (putS c 24 0 v) 26 0 0) 22 6 0) 22 7 (80 - made)) 22 8 0) 22 9 0) 22 10 0).1 22 10 = 0 := by
    rw [cI_1, up_at]
  have a26 : (cI (cI (cI (cI (cI (cI (putS c 24 0 v) 26 0 0) 22 6 0) 22 7 (80 - made)) 22 8 0) 22 9 0) 22 10 0).1 26 0 = 0 := by
    rw [cI_1, up_ne _ (Or.inl (by decide)), cI_1, up_ne _ (Or.inl (by decide)), cI_1, up_ne _ (Or.inl (by decide)), cI_1, up_ne _ (Or.inl (by decide)), cI_1, up_ne _ (Or.inl (by decide)), cI_1, up_at]
  have a24 : RS (cI (cI (cI (cI (cI (cI (putS c 24 0 v) 26 0 0) 22 6 0) 22 7 (80 - made)) 22 8 0) 22 9 0) 22 10 0) 24 0 v := putS_at c 24 0 v
  generalize cI (cI (cI (cI (cI (cI (putS c 24 0 v) 26 0 0) 22 6 0) 22 7 (80 - made)) 22 8 0) 22 9 0) 22 10 0 = c1 at sim a6 a7 a8 a9 a10 a26 a24 ⊢
  refine q_lenB (hT c1) ?_
  have hR : RDC c1 (rd0 v) := by
    refine ⟨⟨a6, Int.le_refl _, by show (0 : Int) ≤ 4; decide⟩, fun d d0 d1 => ?_, fun d d0 d1 => ?_, ⟨rfl, fun k hk => absurd hk (Nat.not_lt_zero _)⟩, a8, a9, a10⟩
    · have d1 : d ≤ 0 := d1
      rw [show d = 0 by omega]; exact ⟨a24, hr⟩
    · have d1 : d ≤ 0 := d1
      rw [show d = 0 by omega]; exact ⟨a26, ⟨Int.le_refl _, by show (0 : Int) ≤ 500; decide⟩, fun w => absurd rfl w⟩
  have sk : cSim KRd c c1 := sim.mono (by decide)
  refine ⟨L.length + 1, ?_⟩
  refine q_read_61 h hP hT hc h500 h32 hfw hte hmd (c0 := c1) (sk.B (fun m hm => by simp; omega) hB) (L.length + 1) L.length 502 0 0 (rd0 v) c1 (by omega) (by omega) (by omega) (by omega) (by omega) hR ?_ a7 (cSim.refl _ _) fun c' q1 q2 => ?_
  · intro d d0 d1
    have d1 : d ≤ 0 := d1
    exact ⟨hv, fun w => absurd rfl w, Int.le_refl _⟩
  · exact k c' (sk.trans q1) q2
end
