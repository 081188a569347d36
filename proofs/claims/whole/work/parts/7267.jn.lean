section
variable {D : wD} {S U : wS} {o : Nat → Nat} {c c' : cM} {x : Nat} {A : Nat → Nat} {m m' : xM} {F R F' R' : Int} {v v' : Int → Int} {n n' : Int} {w w' : Int → Int → Int} {mv mv' : Int → Mv} {L W : List Int} {yb : Nat → Nat} {yl : Int → Nat} {d : Int → SDt} {ye lw : List Nat} {q q' : Int} {b Ln : Nat} {xs : Nat → Int32} {a3 a4 : Nat} {P Q : wS → Prop} {ε : Bool}
theorem call_holds (hD : wDok D b Ln xs) (hR : RELo D S o x A lw q ε) (hP : ∀ S', RELo D S' o x A lw (q + 1) ε → P S') : wp_X11_holds D (fun r S2 => wp_X12_holds D (DIRo P Q r) S2 x) S (o 0) := by
  refine REL.elim hR fun c m F R v n w mv L W yb yl d ye hf lk ev => ?_
  obtain ⟨w1, w2, w3, w4, w5, w6, w7⟩ := hf.2.2.2.1.1.1
  have p1 := hf.2.2.2.1.2.2.2.1.1
  have hP40 : ∀ k, 0 ≤ k → k < 64 → 0 ≤ m 40 k ∧ m 40 k ≤ 15 := fun k k0 k1 => by rw [lk.2.2.2.2.1.2.2 k k0 k1]; exact p1 k k0 k1
  rw [hf.1.1.2]
  refine q_holdsC hf.1.1.1 w1 w2.1 w6 p1 ?_
  rw [← hf.1.1.2, hf.1.2.1.2]
  refine q_holds hf.1.2.1.1 hf.2.2.2.2.1 hP40 (dir_ok hD hf lk ((SIM.rf m).up0 0) hP ?_)
  have : holdsB F R (m 40) (pv m) = holdsB F R (c.1 51) v := by
    rw [ev]
    unfold holdsB
    have hm := (FR_r w1.f4 w1.2.1.2.1 w1.2.1.2.2.1 w1.2.1.2.2.2)
    exact allL_cong _ _ fun j j0 j1 => by rw [lk.2.2.2.2.1.2.2 j j0 (by omega)]
  rw [this]
theorem TX.of (lk : LKo m c F R n w mv L W d ye ε) (ht : L.length ≤ 500 ∧ ∀ z ∈ L, 32 ≤ z ∧ z ≤ 126) : TX m (tx L) L.length := by
  refine ⟨by omega, fun k k0 k1 => ⟨lk.2.2.1.2 k k0 k1, ?_⟩⟩
  have : tx L k ∈ L := by
    show L.getD k.toNat 0 ∈ L
    rw [getD_el (by omega)]
    exact List.getElem_mem _
  have := ht.2 _ this
  omega
theorem call_fault (hD : wDok D b Ln xs) (hR : RELo D S o x A [a3, a4] q ε) (hP : ∀ S', RELo D S' o x A [a3, a4] (q + 1) ε → P S') :
    wp_L_fault D (fun r1 S2 => wp_X12_fault D (fun r3 S4 => CMPo D x a3 P Q r1 r3 S4) S2 x) S (o 0) a3 := by
  refine REL.elim hR fun c m F R v n w mv L W yb yl d ye hf lk ev => ?_
  unfold wp_L_fault wp_L_fault_0
  have e1 := hf.1.1.2
  have pe := prop_eq hf lk
  have bb := bfr_of hf
  have nw := hf.2.2.2.1.1.1
  have pg := hf.2.2.2.1.1.2.1
  obtain ⟨⟨t1, t2, t3⟩, ⟨t4, t5, t6, t7⟩, t8⟩ := hf.2.2.2.1.2.1
  have hx := TX.of lk ⟨t4, t6⟩
  have h13 := lk.2.2.1.1
  have hK : properB F R (gv m 0) = true → PV F R (pv m) := fun z => by
    rw [pe] at z; rw [ev]; exact nw.pv z
  have s49 := (t8 49 (.inr (.inl rfl))).2
  rw [e1] at t1
  rw [e1]
  refine q_faultC hf.1.1.1 (CST.all hD (csts hf hD)).2.2.2.2.2.1 nw pg t1 (by omega) t4 t6 (fun v hv => hv.few bb) (fun v hv => tell_PV nw.1 hv) (fun z => ⟨rfl, ?_⟩) (fun z c' sm => ?_)
  · rw [← e1]
    show wp_X12_fault D _ S x
    rw [hf.1.2.1.2]
    exact q_fault hf.1.2.1.1 hf.2.2.2.2.1 (PV.gp bb) hK hx h13 (by omega) (fun _ m' sm h5 => err_ok hD hf lk (.inl rfl) sm h5 hP) (fun y => by rw [pe, z] at y; exact nomatch y)
  · have hf' := hf.query hD.2.2.2.2 sm (by decide)
    have lk' := lk.csim sm (by decide)
    refine store_ok hD hf' (fun S5 h5 e5 => ?_)
    show wp_X12_fault D _ S5 x
    rw [h5.1.2.1.2]
    refine q_fault h5.1.2.1.1 h5.2.2.2.2.1 (PV.gp bb) hK hx h13 (by omega) (fun y => by rw [pe, z] at y; exact nomatch y) (fun _ m' sm h0 => end_ok hD h5 lk' sm h0 hP ?_)
    rw [e5, ev, lk.2.1.1]
theorem key0_iff : keyCountB F R v = 0 ↔ matesB F R v = -1 := by
  unfold keyCountB
  constructor
  · intro h
    by_cases z : matesB F R v = -1
    · exact z
    · rw [if_neg z] at h
      unfold matesB at h z ⊢
      by_cases a : 0 < keysB F R v 1
      · rw [if_pos a] at h; omega
      · rw [if_neg a] at h z ⊢
        by_cases a3 : 0 < keysB F R v 3
        · rw [if_pos a3] at h; omega
        · rw [if_neg a3]
  · intro h; rw [if_pos h]
theorem call_firstKey (hD : wDok D b Ln xs) (hR : RELo D S o x A [a3, a4] q ε) (hP : ∀ S', RELo D S' o x A [a3, a4] (q + 1) ε → P S') :
    wp_L_firstKey D (fun r1 S2 => wp_X12_firstKey D (fun r3 S4 => CMPo D x a3 P Q r1 r3 S4) S2 x) S (o 0) a3 := by
  refine REL.elim hR fun c m F R v n w mv L W yb yl d ye hf lk ev => ?_
  unfold wp_L_firstKey wp_L_firstKey_0
  have e1 := hf.1.1.2
  have pe := prop_eq hf lk
  have hK : properB F R (gv m 0) = true → deepOK F R 3 (pv m) := fun z => by
    rw [pe] at z; rw [ev]
    exact PV.deep (bfr_of hf) 3 v (hf.2.2.2.1.1.1.pv z)
  rw [e1]
  refine q_firstKeyC hf.1.1.1 hf.2.2.2.1.1.1 (few_of hf) (fun z => .inl ⟨rfl, ?_⟩) (fun z z2 c' sm => .inr ⟨rfl, ?_⟩) (fun z z2 c' sm => ?_)
  · rw [← e1]
    show wp_X12_firstKey D _ S x
    rw [hf.1.2.1.2]
    exact q_firstKey hf.1.2.1.1 hf.2.2.2.2.1 hK (fun _ => err_ok hD hf lk (.inl rfl) ((SIM.rf m).ldm.up0 1) rfl hP) (fun y => by rw [pe, z] at y; exact nomatch y) (fun y => by rw [pe, z] at y; exact nomatch y)
  · have hf' := hf.query hD.2.2.2.2 sm (by decide)
    have lk' := lk.csim sm (by decide)
    show wp_X12_firstKey D _ _ x
    rw [hf'.1.2.1.2]
    exact q_firstKey hf'.1.2.1.1 hf'.2.2.2.2.1 hK (fun y => by rw [pe, z] at y; exact nomatch y) (fun _ _ m' hm' => err_ok hD hf' lk' (.inr (.inl rfl)) ((SIM.scM ((SIM.rf m).ldm.up0 0) hm').up0 2) (up_at _ _ _ _) hP) (fun _ y => by rw [ev] at y; exact absurd (key0_iff.mp z2) y)
  · have hf' := hf.query hD.2.2.2.2 sm (by decide)
    have lk' := lk.csim sm (by decide)
    refine store_ok hD hf' (fun S5 h5 e5 => ?_)
    show wp_X12_firstKey D _ S5 x
    rw [h5.1.2.1.2]
    refine q_firstKey h5.1.2.1.1 h5.2.2.2.2.1 hK (fun y => by rw [pe, z] at y; exact nomatch y) (fun _ y => by rw [ev] at y; exact absurd (key0_iff.mpr y) z2) (fun _ _ m1 m' h1 h2 => end_ok hD h5 lk' (SIM.scM ((SIM.scM ((SIM.rf m).ldm.up0 0) h1).up0 0) h2) ?_ hP ?_)
    · exact (h2 50 0 (by omega) (by omega) (by omega)).trans (up_at _ _ _ _)
    · rw [e5, ev]
end
