def rksP (F : Int) (v : Int → Int) : Nat → List Int
  | 0 => []
  | d + 1 => rankP F v d 0 0 F.toNat ++ (if 0 < d then [47] else []) ++ rksP F v d
theorem ranksP_rks (F : Int) (v : Int → Int) : ∀ d : Nat, ranksP F v (d + 1) = rksP F v (d + 1) ++ [32] := by
  intro d
  induction d with
  | zero => unfold ranksP rksP ranksP rksP; simp
  | succ d ih =>
    unfold ranksP rksP
    rw [ih, if_pos (by omega), if_pos (by omega)]
    simp
theorem paperP_rks (F R : Int) (hR : 1 ≤ R) (v : Int → Int) : paperP F R v = rksP F v R.toNat ++ ([32, (if v 64 = 1 then 119 else 98), 32] ++ (rightsP (v 65) ++ ([32] ++ passP F (v 66)))) := by
  obtain ⟨d, hd⟩ : ∃ d, R.toNat = d + 1 := ⟨R.toNat - 1, by omega⟩
  unfold paperP
  rw [hd, ranksP_rks]
  simp
theorem jc_b {x : Int} (h : 0 ≤ x ∧ x < 128) : ji2c (iI x) = iI x := by
  have e : ∀ n : Nat, n < 128 → ji2c (iI (n : Int)) = iI (n : Int) := by decide +kernel
  have := e x.toNat (by omega)
  rwa [Int.toNat_of_nonneg h.1] at this
theorem bit_u {p b : Int} (hp : 0 ≤ p ∧ p ≤ 15) (hb : 0 ≤ b ∧ b < 4) : (jiushr (iI p) (iI b)) &&& (1 : Int32) = iI (p / 2 ^ b.toNat % 2) := by
  have key : ∀ n : Nat, n < 16 → ∀ k : Nat, k < 4 → (jiushr (iI (n : Int)) (iI (k : Int))) &&& (1 : Int32) = iI ((n : Int) / 2 ^ (k : Int).toNat % 2) := by decide +kernel
  have := key p.toNat (by omega) b.toNat (by omega)
  rw [show ((p.toNat : Nat) : Int) = p by omega, show ((b.toNat : Nat) : Int) = b by omega] at this
  exact this
theorem rgt_at {b : Int} (hb : 0 ≤ b ∧ b < 4) : ([75, 81, 107, 113] : List Int).getD b.toNat 0 = (if b % 2 = 0 then 75 else 81) + (if b < 2 then 0 else 32) := by
  rcases (show b = 0 ∨ b = 1 ∨ b = 2 ∨ b = 3 by omega) with rfl | rfl | rfl | rfl <;> rfl
section
variable {D : wD} {S U : wS} {o : Nat → Nat} {c : cM} {v : Int → Int} {p a y0 y : Nat} {F R : Int} {L : List Int} {M : Nat} {post : wS → Prop}
/-- what a writing gives -/
abbrev WG1 (D : wD) (V : wS) (a y0 : Nat) (W : List Int) (M : Nat) (post : wS → Prop) : Prop := ∀ U' y', BL D V U' a y0 y' W → 16 ≤ sN U' y' → sN U' y' ≤ M → post U'
theorem bl_fileAt {post : Int32 → wS → Prop} (hc : CC D U o ∧ U = cS U o c) (hB : BG c F R) {q : Int} (hq : 0 ≤ q ∧ q < F * R) (k : post (iI (q % F)) U) : wp_X0_fileAt D post U (o 1) (iI q) := by
  have := q_fileAt (D := D) (S := U) (o := o) (c := c) (post := post) hc.1 hB hq (by rw [← hc.2]; exact k)
  rw [← hc.2] at this
  exact this
theorem bl_rankAt {post : Int32 → wS → Prop} (hc : CC D U o ∧ U = cS U o c) (hB : BG c F R) {q : Int} (hq : 0 ≤ q ∧ q < F * R) (k : post (iI (q / F)) U) : wp_X0_rankAt D post U (o 1) (iI q) := by
  have := q_rankAt (D := D) (S := U) (o := o) (c := c) (post := post) hc.1 hB hq (by rw [← hc.2]; exact k)
  rw [← hc.2] at this
  exact this
theorem q_w_78 (h : CC D S o) (hK : AP o a y0) (hB : BG c F R) (hp : isP p) (hv : okV F R v) (hA : PAt c p v) (hk : KS D (cS S o c) a y0) (hM : 180 ≤ M ∧ M < 20000) :
    ∀ (n d : Nat) (b : Int) (bc bs : Nat) (U : wS) (y : Nat) (L : List Int), d < n → b + d = 4 → 0 ≤ b → BL D (cS S o c) U a y0 y L → RBD (sN U y) bc bs M → 16 ≤ sN U y → L.length + d + 3 ≤ 90 →
    WG1 D (cS S o c) a y0 (L ++ (rightP (v 65) b d ++ ([32] ++ passP F (v 66)))) M post → wp_X6_write_78 D post n bc bs U (o 28) (o p) a (iI b) := by
  have hm := hB.m
  have h4 := hB.2.1.1; have h8 := hB.2.1.2.1; have r4 := hB.2.1.2.2.1; have r8 := hB.2.1.2.2.2
  have hr65 := hv.2.2.1
  have hp66 := hv.2.2.2
  obtain ⟨k1, k2, k3, k4, kg, kd⟩ := id hk
  intro n
  induction n with
  | zero => intro d b bc bs U y L hd; omega
  | succ n ih =>
    intro d b bc bs U y L hd hj h0 hb hr' h16 hT k
    have sm1 : ∀ need, need ≤ 90 → need ≤ sN U y ∨ 2 * sN U y + 2 ≤ M := fun need hn => by omega
    have W2 := ST.ex hb.1 k2.1 k2.2.1 k2.2.2
    unfold wp_X6_write_78
    intro y1 ey1
    rw [ey1]
    refine q_lenS W2 ?_
    rw [show ((([75, 81, 107, 113] : List Int).length : Nat) : Int) = 4 from rfl, iI_le (by decide) (by decide) (by omega) (by omega)]
    cases d with
    | zero =>
      refine ⟨fun _ => ?_, fun q => absurd (by omega) q⟩
      unfold rightP at k
      rw [List.nil_append] at k
      have sm := sm1 (L.length + 1) (by omega)
      have le := hr'.le sm
      refine ⟨_, _, le.1, le.2.1, bl_put hb hr' sm (by omega) (x := 32) (by decide) fun U' y' hb' hr2 hN => ?_⟩
      have hc := bl_c h hK hb'
      have hU := hc.2
      have hCU := hc.1
      have h16' : 16 ≤ sN U' y' := by rw [hN]; unfold capM; split <;> omega
      have e7 : sI U' (o p) 7 = iI (v 66) := by rw [hU, c_i0 hCU hp.1, show c.1 p ((7 : Nat) : Int) = v 66 from hA.2.2.2.2.2.2]
      rw [e7, show (-1 : Int32) = iI (-1) from rfl, iI_eq (by omega) (by omega) (by decide) (by decide)]
      have sm2 : ∀ (cap need : Nat), 16 ≤ cap → cap ≤ M → need ≤ 90 → need ≤ cap ∨ 2 * cap + 2 ≤ M := fun cap need _ _ _ => by omega
      unfold passP at k
      refine ⟨fun q => ?_, fun q => ?_⟩
      · rw [if_neg q] at k
        have sq : 0 ≤ v 66 ∧ v 66 < F * R := by omega
        have e1 : sR U' (o 28) 0 = some (o 1) ∧ wM D U' (o 1) ∧ sK U' (o 1) = 5 := by rw [hU]; exact ⟨c_r hCU rfl, (c_m hCU (by decide)).mpr trivial, c_k hCU (by decide)⟩
        refine ⟨o 1, e1.1, e1.2.1, e1.2.2, ?_⟩
        refine bl_fileAt hc hB sq ?_
        have fr : 0 ≤ v 66 % F ∧ v 66 % F < F := ⟨Int.emod_nonneg _ (by omega), Int.emod_lt_of_pos _ (by omega)⟩
        have rr : 0 ≤ v 66 / F ∧ v 66 / F ≤ v 66 := ⟨Int.ediv_nonneg (by omega) (by omega), Int.ediv_le_self _ (by omega)⟩
        have h64 : F * R ≤ 64 := Int.le_trans (Int.mul_le_mul_of_nonneg_right h8 (by omega)) (by omega)
        rw [show (97 : Int32) = iI 97 from rfl, iI_add, jc_b (by omega)]
        have s2 := sm2 (sN U' y') ((L ++ [32]).length + 1) h16' hr2.1 (by simp; omega)
        have le2 := hr2.le s2
        refine ⟨_, _, le2.1, le2.2.1, bl_put hb' hr2 s2 (by omega) (x := 97 + v 66 % F) (by omega) fun U2 y2 hb2 hr3 hN2 => ?_⟩
        have hc2 := bl_c h hK hb2
        have h162 : 16 ≤ sN U2 y2 := by rw [hN2]; unfold capM; split <;> omega
        have e2 : sR U2 (o 28) 0 = some (o 1) ∧ wM D U2 (o 1) ∧ sK U2 (o 1) = 5 := by rw [hc2.2]; exact ⟨c_r hc2.1 rfl, (c_m hc2.1 (by decide)).mpr trivial, c_k hc2.1 (by decide)⟩
        have e72 : sI U2 (o p) 7 = iI (v 66) := by rw [hc2.2, c_i0 hc2.1 hp.1, show c.1 p ((7 : Nat) : Int) = v 66 from hA.2.2.2.2.2.2]
        rw [e72]
        refine ⟨o 1, e2.1, e2.2.1, e2.2.2, ?_⟩
        refine bl_rankAt hc2 hB sq ?_
        rw [show (49 : Int32) = iI 49 from rfl, iI_add, jc_b (by omega)]
        have s3 := sm2 (sN U2 y2) ((L ++ [32] ++ [97 + v 66 % F]).length + 1) h162 hr3.1 (by simp; omega)
        have le3 := hr3.le s3
        refine ⟨_, _, le3.1, le3.2.1, bl_put hb2 hr3 s3 (by omega) (x := 49 + v 66 / F) (by omega) fun U3 y3 hb3 hr4 hN3 => ?_⟩
        unfold wp_X6_write_180
        refine k U3 y3 (by simpa [fileC, rankC] using hb3) ?_ hr4.1
        rw [hN3]; unfold capM; split <;> omega
      · rw [if_pos q] at k
        have s2 := sm2 (sN U' y') ((L ++ [32]).length + 1) h16' hr2.1 (by simp; omega)
        have le2 := hr2.le s2
        refine ⟨_, _, le2.1, le2.2.1, bl_put hb' hr2 s2 (by omega) (x := 45) (by decide) fun U2 y2 hb2 hr3 hN2 => ?_⟩
        unfold wp_X6_write_180
        refine k U2 y2 (by simpa using hb2) ?_ hr3.1
        rw [hN2]; unfold capM; split <;> omega
    | succ d =>
      have hd1 : ((d + 1 : Nat) : Int) = d + 1 := by omega
      refine ⟨fun q => absurd q (by omega), fun _ => ?_⟩
      have hc := bl_c h hK hb
      have hU := hc.2
      have hCU := hc.1
      have e6 : sI U (o p) 6 = iI (v 65) := by rw [hU, c_i0 hCU hp.1, show c.1 p ((6 : Nat) : Int) = v 65 from hA.2.2.2.2.2.1]
      have hbit : 0 ≤ v 65 / 2 ^ b.toNat % 2 ∧ v 65 / 2 ^ b.toNat % 2 < 2 := ⟨Int.emod_nonneg _ (by decide), Int.emod_lt_of_pos _ (by decide)⟩
      rw [e6, bit_u hr65 (by omega), show (0 : Int32) = iI 0 from rfl, iI_eq (by omega) (by omega) (by decide) (by decide)]
      unfold rightP at k
      refine ⟨fun q => ?_, fun q y29 ey29 => ?_⟩
      · rw [if_neg (by omega), List.nil_append] at k
        unfold wp_X6_write_109
        intro x1 e1
        rw [e1, show (1 : Int32) = iI 1 from rfl, iI_add]
        exact ih d (b + 1) bc bs U y L (by omega) (by omega) (by omega) hb hr' h16 (by omega) k
      · rw [if_pos (by omega)] at k
        rw [ey29]
        refine q_charS W2 ⟨by omega, by show b < 4; omega⟩ ?_
        rw [rgt_at (by omega)]
        have sm := sm1 (L.length + 1) (by omega)
        have le := hr'.le sm
        refine ⟨_, _, le.1, le.2.1, bl_put hb hr' sm (by omega) (by split <;> split <;> decide) fun U' y' hb' hr2 hN => ?_⟩
        unfold wp_X6_write_109
        intro x1 e1
        rw [e1, show (1 : Int32) = iI 1 from rfl, iI_add]
        refine ih d (b + 1) _ _ U' y' _ (by omega) (by omega) (by omega) hb' hr2 (by rw [hN]; unfold capM; split <;> omega) (by simp; omega) (fun U2 y2 q1 q2 => k U2 y2 (by simpa using q1) q2)
theorem q_w_58 (h : CC D S o) (hK : AP o a y0) (hB : BG c F R) (hp : isP p) (hv : okV F R v) (hA : PAt c p v) (hk : KS D (cS S o c) a y0) (hM : 180 ≤ M ∧ M < 20000) {bc bs s : Nat} (hb : BL D (cS S o c) U a y0 y L) (hr' : RBD (sN U y) bc bs M) (h16 : 16 ≤ sN U y) (hT : L.length ≤ 75) {w : Int}
    (hs : (s = D.2.2.1 8 ∧ w = 119) ∨ (s = D.2.2.1 9 ∧ w = 98)) (k : WG1 D (cS S o c) a y0 (L ++ ([32, w, 32] ++ (rightsP (v 65) ++ ([32] ++ passP F (v 66))))) M post) : wp_X6_write_58 D post bc bs U (o 28) (o p) a a s := by
  have hr65 := hv.2.2.1
  have r0 : rightP 0 0 4 = [] := rfl
  obtain ⟨k1, k2, k3, k4, kg, kd⟩ := id hk
  have hW : ST D (cS S o c) s [32, w, 32] ∧ s ∉ [a, y0] ∧ ∀ v, sR (cS S o c) s 0 = some v → v ∉ [a, y0] := by
    rcases hs with ⟨rfl, rfl⟩ | ⟨rfl, rfl⟩
    · exact k3
    · exact k4
  unfold wp_X6_write_58
  have sm : L.length + ([32, w, 32] : List Int).length ≤ sN U y ∨ 2 * sN U y + 2 ≤ M := by simp; omega
  have le := hr'.le sm
  refine ⟨_, _, le.1, le.2.1, bl_putS hb hr' sm (by omega) hW.1 ⟨by simp, by simp; omega⟩ hW.2.1 hW.2.2 fun U' y' hb' hr2 hN => ?_⟩
  have hc := bl_c h hK hb'
  have h16' : 16 ≤ sN U' y' := by rw [hN]; unfold capM; split <;> omega
  have e6 : sI U' (o p) 6 = iI (v 65) := by rw [hc.2, c_i0 hc.1 hp.1, show c.1 p ((6 : Nat) : Int) = v 65 from hA.2.2.2.2.2.1]
  rw [e6, show (0 : Int32) = iI 0 from rfl, iI_eq (by omega) (by omega) (by decide) (by decide)]
  unfold rightsP at k
  refine ⟨fun q => ?_, fun q => ?_⟩
  · rw [if_neg q, List.append_nil] at k
    unfold wp_X6_write_76
    exact ⟨5, q_w_78 h hK hB hp hv hA hk hM 5 4 0 _ _ U' y' _ (by omega) (by decide) (by decide) hb' hr2 h16' (by simp; omega) (fun U2 y2 q1 q2 => k U2 y2 (by simpa using q1) q2)⟩
  · rw [if_pos q, q, r0, List.nil_append] at k
    have s2 : (L ++ [32, w, 32]).length + 1 ≤ sN U' y' ∨ 2 * sN U' y' + 2 ≤ M := by simp; omega
    have le2 := hr2.le s2
    refine ⟨_, _, le2.1, le2.2.1, bl_put hb' hr2 s2 (by omega) (x := 45) (by decide) fun U2 y2 hb2 hr3 hN2 => ?_⟩
    have h162 : 16 ≤ sN U2 y2 := by rw [hN2]; unfold capM; split <;> omega
    unfold wp_X6_write_76
    refine ⟨5, q_w_78 h hK hB hp hv hA hk hM 5 4 0 _ _ U2 y2 _ (by omega) (by decide) (by decide) hb2 hr3 h162 (by simp; omega) (fun U3 y3 q1 q2 => k U3 y3 ?_ q2)⟩
    rw [q, r0] at q1
    simpa using q1
theorem q_w_15 (h : CC D S o) (hK : AP o a y0) (hB : BG c F R) (hp : isP p) (hv : okV F R v) (hA : PAt c p v) (hk : KS D (cS S o c) a y0) (hM : 180 ≤ M ∧ M < 20000) :
    ∀ (n d : Nat) (r : Int) (bc bs : Nat) (U : wS) (y : Nat) (L : List Int), d < n → r + 1 = d → r < R → BL D (cS S o c) U a y0 y L → RBD (sN U y) bc bs M → 16 ≤ sN U y → L.length + 9 * d ≤ 75 →
    WG1 D (cS S o c) a y0 (L ++ (rksP F v d ++ ([32, (if v 64 = 1 then 119 else 98), 32] ++ (rightsP (v 65) ++ ([32] ++ passP F (v 66)))))) M post → wp_X6_write_15 D post n bc bs U (o 28) (o p) a (iI r) := by
  have h4 := hB.2.1.1; have h8 := hB.2.1.2.1; have r4 := hB.2.1.2.2.1; have r8 := hB.2.1.2.2.2
  have hs64 := hv.2.1
  intro n
  induction n with
  | zero => intro d r bc bs U y L hd; omega
  | succ n ih =>
    intro d r bc bs U y L hd hj hr hb hr' h16 hT k
    unfold wp_X6_write_15
    rw [show (0 : Int32) = iI 0 from rfl, iI_lt (by omega) (by omega) (by decide) (by decide), iI_le (by omega) (by omega) (by decide) (by decide)]
    cases d with
    | zero =>
      refine ⟨fun _ => ?_, fun q => absurd (by omega) q⟩
      unfold rksP at k
      rw [List.nil_append] at k
      have hc := bl_c h hK hb
      have e5 : sI U (o p) 5 = iI (v 64) := by rw [hc.2, c_i0 hc.1 hp.1, show c.1 p ((5 : Nat) : Int) = v 64 from hA.2.2.2.2.1]
      rw [e5, iI_eq (by omega) (by omega) (by decide) (by decide)]
      refine ⟨fun q y3 ey3 => ?_, fun q y3 ey3 => ?_⟩
      · rw [if_neg (by omega)] at k
        exact q_w_58 h hK hB hp hv hA hk hM hb hr' h16 (by omega) (Or.inr ⟨ey3, rfl⟩) k
      · rw [if_pos (by omega)] at k
        exact q_w_58 h hK hB hp hv hA hk hM hb hr' h16 (by omega) (Or.inl ⟨ey3, rfl⟩) k
    | succ d =>
      have er : r = d := by omega
      have rl := rankP_len F v r F.toNat 0 0
      rw [if_neg (by decide)] at rl
      refine ⟨fun q => absurd q (by omega), fun _ => ?_⟩
      have sm : L.length + (rankP F v r 0 0 F.toNat).length ≤ sN U y ∨ 2 * sN U y + 2 ≤ M := by omega
      have le := hr'.le sm
      have hcap := hr'.1
      refine ⟨_, _, le.1, le.2.1, q_writeRank h hK hB hp hv hA hk (r := r) (by omega) hb h16 (by omega) fun U' y' hb' hN => ?_⟩
      have h16' : 16 ≤ sN U' y' := by rw [hN]; unfold capM; split <;> omega
      have hr2 : RBD (sN U' y') (bc - gmB1 (sN U y) (L.length + (rankP F v r 0 0 F.toNat).length)) (bs - gzB1 (sN U y) (L.length + (rankP F v r 0 0 F.toNat).length)) M := by rw [hN]; exact le.2.2
      have e1 : rksP F v (d + 1) = rankP F v d 0 0 F.toNat ++ (if 0 < d then [47] else []) ++ rksP F v d := rfl
      rw [e1, ← er] at k
      refine ⟨fun q => ?_, fun q => ?_⟩
      · rw [if_neg (by omega)] at k
        unfold wp_X6_write_37
        intro x1 ex1
        rw [ex1, show (-1 : Int32) = iI (-1) from rfl, iI_add]
        refine ih d (r + -1) _ _ U' y' _ (by omega) (by omega) (by omega) hb' hr2 h16' (by simp; omega) (fun U2 y2 q1 q2 => k U2 y2 (by simpa using q1) q2)
      · rw [if_pos (by omega)] at k
        have s2 : (L ++ rankP F v r 0 0 F.toNat).length + 1 ≤ sN U' y' ∨ 2 * sN U' y' + 2 ≤ M := by simp; omega
        have le2 := hr2.le s2
        refine ⟨_, _, le2.1, le2.2.1, bl_put hb' hr2 s2 (by omega) (x := 47) (by decide) fun U2 y2 hb2 hr3 hN2 => ?_⟩
        unfold wp_X6_write_37
        intro x1 ex1
        rw [ex1, show (-1 : Int32) = iI (-1) from rfl, iI_add]
        refine ih d (r + -1) _ _ U2 y2 _ (by omega) (by omega) (by omega) hb2 hr3 (by rw [hN2]; unfold capM; split <;> omega) (by simp; omega) (fun U3 y3 q1 q2 => k U3 y3 (by simpa using q1) q2)
theorem q_write (h : CC D S o) (hK : AP o a y0) (hB : BG c F R) (hp : isP p) (hv : okV F R v) (hA : PAt c p v) (hk : KS D (cS S o c) a y0) (hM : 180 ≤ M ∧ M < 20000) {bc bs : Nat} {L0 : List Int} (hb : SB (cS S o c) a y0 L0) (hr' : RBD (sN (cS S o c) y0) bc bs M) (h16 : 16 ≤ sN (cS S o c) y0)
    (k : WG1 D (cS S o c) a y0 (paperP F R v) M post) : wp_X6_write D post bc bs (cS S o c) (o 28) (o p) a := by
  have h4 := hB.2.1.1; have h8 := hB.2.1.2.1; have r4 := hB.2.1.2.2.1; have r8 := hB.2.1.2.2.2
  have hcap := hr'.1
  unfold wp_X6_write wp_X6_write_0
  refine ⟨0, 0, Nat.zero_le _, Nat.zero_le _, ?_⟩
  refine q_clearB hb (by omega) fun U' he hS => ?_
  have hb' : BL D (cS S o c) U' a y0 y0 [] := ⟨he.mono (fun b _ z => by rw [List.mem_singleton.mp z]; simp), Or.inl rfl, hS⟩
  have hc := bl_c h hK hb'
  have eN : sN U' y0 = sN (cS S o c) y0 := he.n (Or.inl hb.2.1.2.1)
  have e0 : sR U' (o 28) 0 = some (o 1) ∧ wM D U' (o 1) ∧ sK U' (o 1) = 5 := by rw [hc.2]; exact ⟨c_r hc.1 rfl, (c_m hc.1 (by decide)).mpr trivial, c_k hc.1 (by decide)⟩
  refine ⟨o 1, e0.1, e0.2.1, e0.2.2, ?_⟩
  have e1 : sI U' (o 1) 1 = iI R := by rw [hc.2, c_i0 hc.1 (by decide), show c.1 1 ((1 : Nat) : Int) = R from hB.1.2.1]
  intro x6 ex6
  rw [e1, show (1 : Int32) = iI 1 from rfl, iI_sub] at ex6
  rw [ex6, Nat.sub_zero, Nat.sub_zero]
  refine ⟨R.toNat + 1, q_w_15 h hK hB hp hv hA hk hM (R.toNat + 1) R.toNat (R - 1) bc bs U' y0 [] (by omega) (by omega) (by omega) hb' (by rw [eN]; exact hr') (by rw [eN]; exact h16) (by simp; omega) (fun U2 y2 q1 q2 => k U2 y2 ?_ q2)⟩
  rw [paperP_rks F R (by omega)]
  simpa using q1
end
