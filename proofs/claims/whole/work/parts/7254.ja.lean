section
variable {D : wD} {S U : wS} {o : Nat → Nat} {c c' : cM} {x : Nat} {A : Nat → Nat} {m m' : xM} {F R F' R' : Int} {v v' : Int → Int} {n n' : Int} {w w' : Int → Int → Int} {mv mv' : Int → Mv} {L W : List Int} {yb : Nat → Nat} {yl : Int → Nat} {d : Int → SDt} {ye lw : List Nat} {q q' kd : Int} {b Ln : Nat} {xs : Nat → Int32} {a3 a4 : Nat} {P Q : wS → Prop} {ε : Bool}
theorem lng_cong {E E' : Int → Int} : ∀ (dd : Nat) (most i : Int), 0 ≤ i → i + dd ≤ 31250 → (∀ j, 31250 * (kd - 2) ≤ j → j < 31250 * (kd - 2) + 31250 → E j = E' j) → lngL kd E most i dd = lngL kd E' most i dd
  | 0, most, i, _, _, _ => rfl
  | dd + 1, most, i, h0, h1, h => by
    unfold lngL
    rw [h _ (by omega) (by omega), lng_cong dd _ (i + 1) (by omega) (by omega) h]
theorem call_longest (hD : wDok D b Ln xs) (hR : RELo D S o x A [a3, a4] q ε) (hk : i32 kd) {r : wS → Int32} {hv : wS → Prop} (hvv : ∀ S', CST D S' → hv S' ∧ r S' = iI kd) (hP : ∀ S', RELo D S' o x A [a3, a4] (q + 1) ε → P S') :
    wp_L_longest D (fun r1 S2 => hv S2 ∧ wp_X12_longest D (fun r3 S4 => CMPo D x a3 P Q r1 r3 S4) S2 x (r S2)) S (o 0) (iI kd) a3 := by
  refine REL.elim hR fun c m F R v n w mv L W yb yl d ye hf lk ev => ?_
  unfold wp_L_longest wp_L_longest_0
  have e1 := hf.1.1.2
  have er := hf.2.2.2.1.2.2.2.2
  have hE : EN m := hf.2.2.2.2.2.2.2.2.2.1
  have h42 := hf.2.2.2.2.2.2.2.2.2.2.1
  rw [e1]
  refine q_longestC hf.1.1.1 er.1 hk (fun z => .inl ⟨rfl, ?_⟩) (fun z z2 => .inr ⟨rfl, ?_⟩) (fun z z2 => ?_)
  · rw [← e1]
    obtain ⟨h1, h2⟩ := hvv _ hf.2.1.1
    refine ⟨h1, ?_⟩
    rw [h2, hf.1.2.1.2]
    exact q_longest hf.1.2.1.1 hE h42 hk (fun _ m' s h5 => err_ok hD hf lk (.inl rfl) s h5 hP) (fun y => by rw [z] at y; exact nomatch y) (fun y => by rw [z] at y; exact nomatch y)
  · rw [← e1]
    have i2 := inB_iff.mp z
    obtain ⟨h1, h2⟩ := hvv _ hf.2.1.1
    refine ⟨h1, ?_⟩
    rw [h2, hf.1.2.1.2]
    have l42 := lk.2.2.2.2.2.2.1 kd i2.1 i2.2
    exact q_longest hf.1.2.1.1 hE h42 hk (fun y => by rw [z] at y; exact nomatch y) (fun _ _ m' s h5 => err_ok hD hf lk (.inr (.inl rfl)) s h5 hP) (fun _ y => by omega)
  · rw [← e1]
    have i2 := inB_iff.mp z
    have l42 := lk.2.2.2.2.2.2.1 kd i2.1 i2.2
    refine store_ok hD hf (fun S5 h5 e5 => ?_)
    obtain ⟨h1, h2⟩ := hvv _ h5.2.1.1
    refine ⟨h1, ?_⟩
    rw [h2, h5.1.2.1.2]
    refine q_longest h5.1.2.1.1 hE h42 hk (fun y => by rw [z] at y; exact nomatch y) (fun _ y => by omega) (fun _ y m' s h0 => end_ok hD h5 lk s h0 hP ?_)
    rw [e5, lng_cong (E' := T0 F (F * R) kd) 31250 (-1) 0 (by omega) (by omega) (fun j j0 j1 => lk.2.2.2.2.2.2.2 kd i2.1 i2.2 y j j0 j1)]
    rcases er.2 with ⟨-, -, g⟩ | ⟨y', -, -, -, g⟩
    · have := g kd i2.1 i2.2; omega
    · rw [(g kd i2.1 i2.2 z2).2.2.2]
theorem call_endingValue (hD : wDok D b Ln xs) (hR : RELo D S o x A [a3, a4] q ε) (hP : ∀ S', RELo D S' o x A [a3, a4] (q + 1) ε → P S') :
    wp_L_endingValue D (fun r1 S2 => wp_X12_endingValue D (fun r3 S4 => CMPo D x a3 P Q r1 r3 S4) S2 x) S (o 0) a3 := by
  refine REL.elim hR fun c m F R v n w mv L W yb yl d ye hf lk ev => ?_
  unfold wp_L_endingValue wp_L_endingValue_0
  have e1 := hf.1.1.2
  have er := hf.2.2.2.1.2.2.2.2
  have hE : EN m := hf.2.2.2.2.2.2.2.2.2.1
  have h42 := hf.2.2.2.2.2.2.2.2.2.2.1
  obtain ⟨w1, w2, w3, w4, w5, w6, w7⟩ := hf.2.2.2.1.1.1
  have bb := bfr_of hf
  have hn := FR_r bb.1.1 bb.1.2 bb.2.1 bb.2.2
  have ke := kof_en (sol := m 42) bb w2 w4
  have h25 : ∀ k : Int, 2 ≤ k → k ≤ 5 → c.1 46 k = 1 → F * R ≤ 25 ∧ ∃ y, EC D S o y ∧ EB (e0S S y, 0) 40000 (800000 * q) := fun k k0 k1 k2 => by
    rcases er.2 with ⟨-, -, g⟩ | ⟨y', -, y2, y3, g⟩
    · have := g k k0 k1; omega
    · exact ⟨(g k k0 k1 k2).1, y', y2, y3⟩
  have hk : properB F R (pv m) = true → kingB F R (pv m) 1 < F * R ∧ kingB F R (pv m) 0 < F * R := fun z => by
    rw [ev] at z ⊢
    exact ⟨(kings_of (by omega) z (.inr rfl)).1, (kings_of (by omega) z (.inl rfl)).1⟩
  have z42 := hf.2.2.2.2.2.2.2.2.2.2.2.2.2
  have h25' : ∀ k, 0 ≤ k → k < 6 → m 42 k = 1 → F * R ≤ 25 := fun k k0 k1 k2 => by
    by_cases l : 2 ≤ k
    · have := lk.2.2.2.2.2.2.1 k l (by omega)
      exact (h25 k l (by omega) (by omega)).1
    · rcases (show k = 0 ∨ k = 1 by omega) with rfl | rfl
      · have := z42.1; omega
      · have := z42.2; omega
  rw [e1]
  refine q_endingValueC (W0 := 800000 * q) hf.1.1.1 w1 w2 w4 w6 er.1 h25 (fun z => ⟨rfl, ?_⟩) (fun z z2 y hy => ?_)
  · have en0 : enB F R (m 42) (pv m) = 0 := by
      rw [ev, ke.1, if_neg]
      rintro ⟨y1, y2⟩
      rcases z with z | z
      · exact y1 z
      · obtain ⟨-, -, k2, k5⟩ := kofB_p y1
        rw [lk.2.2.2.2.2.2.1 _ k2 k5] at y2
        exact y2 z
    rw [← e1]
    show wp_X12_endingValue D _ S x
    rw [hf.1.2.1.2]
    exact q_endingValue hf.1.2.1.1 hf.2.2.2.2.1 hE h42 h25' hk (fun _ m' s h5 => err_ok hD hf lk (.inl rfl) s h5 hP) (fun y => absurd en0 y)
  · obtain ⟨-, -, k2, k5⟩ := kofB_p z
    have l42 := lk.2.2.2.2.2.2.1 _ k2 k5
    have en1 : enB F R (m 42) (pv m) ≠ 0 := by
      rw [ev, ke.1, if_pos ⟨z, by omega⟩]; omega
    have g25 := (h25 _ k2 k5 z2).1
    rw [← e1]
    refine store_ok hD hf (fun S5 h5 e5 => ?_)
    show wp_X12_endingValue D _ S5 x
    rw [h5.1.2.1.2]
    refine q_endingValue h5.1.2.1.1 h5.2.2.2.2.1 hE h42 h25' hk (fun y => absurd y en1) (fun _ m' s h0 => end_ok hD h5 lk s h0 hP ?_)
    rw [e5, ev]
    congr 2
    refine (ev_eq (Z := fun _ => 0) bb g25 w2 w4 z (fun i i0 i1 => lk.2.2.2.2.2.2.2 _ k2 k5 (by omega) i i0 i1) (fun i hi => ?_) (by omega)).symm
    rcases er.2 with ⟨-, -, g⟩ | ⟨y', -, y2, -, g⟩
    · have := g _ k2 k5; omega
    · rw [← T0, ← (g _ k2 k5 z2).2.1 i hi]
      have ey : y 0 = y' 0 := by
        have g1 := (hy.1 0 (by decide)).2.1
        have g2 := (y2.1 0 (by decide)).2.1
        rw [g1] at g2
        exact Option.some.inj g2
      unfold valE e0S
      rw [ey]
theorem call_errors (hD : wDok D b Ln xs) (hR : RELo D S o x A lw q ε) (hP : ∀ S', RELo D S' o x A lw (q + 1) ε → P S') : wp_X11_errors D (fun r S2 => wp_X12_errors D (DIRo P Q r) S2 x) S (o 0) := by
  refine REL.elim hR fun c m F R v n w mv L W yb yl d ye hf lk ev => ?_
  have bb := bfr_of hf
  have cs : ∀ c, CST D (cS S o c) := fun c' => hf.2.1.1.cls (fun n hn => (hf.2.2.1.2 (o n) (own_mem.mpr (.inl (by unfold clsL; rw [List.mem_append]; exact .inl (List.mem_map.mpr ⟨n, List.mem_range.mpr hn, rfl⟩))))).2) hD.2.2.2.2 hf.1.1.2 c'
  have al := CST.all hD cs
  have hSH := shl_of hf
  have e1 := hf.1.1.2
  rw [e1]
  refine q_errorsC hf.1.1.1 al.2.1 hf.2.2.2.1.1.1 (fun z => ⟨(few_of hf z).1, tell_PV hf.2.2.2.1.1.1.1 (hf.2.2.2.1.1.1.pv z)⟩) hSH (off_of hf) (fun s hs => (hf.2.2.2.1.2.2.1 s hs).2.1.2) (fun c' sm => ?_)
  have hf' := hf.query hD.2.2.2.2 sm (by decide)
  have lk' := lk.csim sm (by decide)
  rw [hf'.1.2.1.2]
  exact q_errors hf'.1.2.1.1 (dir_ok hD hf' lk' ((SIM.rf m).up0 0) hP rfl)
end
