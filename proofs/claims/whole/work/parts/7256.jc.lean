section
variable {D : wD} {S U : wS} {o : Nat → Nat} {c c' : cM} {x : Nat} {A : Nat → Nat} {m m' : xM} {F R F' R' : Int} {v v' : Int → Int} {n n' : Int} {w w' : Int → Int → Int} {mv mv' : Int → Mv} {L W : List Int} {yb : Nat → Nat} {yl : Int → Nat} {d : Int → SDt} {ye lw : List Nat} {q q' : Int} {b Ln : Nat} {xs : Nat → Int32} {a3 a4 : Nat} {P Q : wS → Prop} {ε : Bool}
theorem csts (hf : HFo D S o x A lw c m F R v n w mv L W yb yl d ye q F' R') (hD : wDok D b Ln xs) : ∀ c, CST D (cS S o c) := fun c' => hf.2.1.1.cls (fun n hn => (hf.2.2.1.2 (o n) (own_mem.mpr (.inl (by unfold clsL; rw [List.mem_append]; exact .inl (List.mem_map.mpr ⟨n, List.mem_range.mpr hn, rfl⟩))))).2) hD.2.2.2.2 hf.1.1.2 c'
theorem mvst_of (hf : HFo D S o x A lw c m F R v n w mv L W yb yl d ye q F R) (lk : LKo m c F R n w mv L W d ye ε) (ev : pv m = v) : properB F R (gv m 0) = true → mvOK F R (pv m) ∧ ∀ t ∈ movesL F R (pv m), stOK F R (mkT F R (pv m) t) := fun z => by
  rw [prop_eq hf lk] at z; rw [ev]
  have p := hf.2.2.2.1.1.1.pv z
  exact ⟨p.mv (bfr_of hf), fun t ht => (p.mk (bfr_of hf) ht).st (bfr_of hf)⟩
theorem made_of (hf : HFo D S o x A lw c m F R v n w mv L W yb yl d ye q F R) (lk : LKo m c F R n w mv L W d ye ε) (ev : pv m = v) {s : Int} (hs : s = 0 ∨ s = 1) : ∀ i : Int, 0 ≤ i → i < (movesL F R v).length → gmB m s (movesL F R v) i = gtF F R v (fun i => (d i).2.1) (fun i => (d i).2.2.1) (fun i => (d i).2.2.2.1) (fun i => (d i).1) s i := fun i i0 i1 => by
  have bb := bfr_of hf
  have hn := FR_r bb.1.1 bb.1.2 bb.2.1 bb.2.2
  rw [gmB_V, ev]
  exact (shm_of lk hs).made (hf.2.2.2.1.2.2.1 s hs).2.1.2 (by omega) hf.2.2.2.1.1.1.2.2.1 ⟨i0, i1⟩
theorem call_continuations (hD : wDok D b Ln xs) (hR : RELo D S o x A [a3, a4] q ε) {s : Int} (hs : i32 s) {r : wS → Int32} {hv : wS → Prop} (hvv : ∀ S', CST D S' → hv S' ∧ r S' = iI s) (hP : ∀ S', RELo D S' o x A [a3, a4] (q + 1) ε → P S') :
    wp_L_continuations D (fun r1 S2 => hv S2 ∧ wp_X12_continuations D (fun r3 S4 => CMPo D x a3 P Q r1 r3 S4) S2 x (r S2)) S (o 0) (iI s) a3 := by
  refine REL.elim hR fun c m F R v n w mv L W yb yl d ye hf lk ev => ?_
  unfold wp_L_continuations wp_L_continuations_0
  have e1 := hf.1.1.2
  have hSH := shl_of hf
  have pe := prop_eq hf lk
  have hK := mvst_of hf lk ev
  have hC := hf.2.2.2.2.2.2.1.2.2.1
  rw [e1]
  refine q_continuationsC hf.1.1.1 (CST.all hD (csts hf hD)).2.1 hf.2.2.2.1.1.1 (fun z => (few_of hf z).1) hSH (off_of hf) hs (fun z => .inl ⟨rfl, ?_⟩) (fun z z2 => .inr ⟨rfl, ?_⟩) (fun z z2 c' sm => ?_)
  · rw [← e1]
    obtain ⟨h1, h2⟩ := hvv _ hf.2.1.1
    refine ⟨h1, ?_⟩
    rw [h2, hf.1.2.1.2]
    exact q_continuations hf.1.2.1.1 hf.2.2.2.2.1 hf.2.2.2.2.2.1 hC hs hK (fun _ m' sm h5 => err_ok hD hf lk (.inl rfl) sm h5 hP) (fun y => by rw [z] at y; exact nomatch y) (fun y => by rw [z] at y; exact nomatch y)
  · rw [← e1]
    obtain ⟨h1, h2⟩ := hvv _ hf.2.1.1
    refine ⟨h1, ?_⟩
    rw [h2, hf.1.2.1.2]
    exact q_continuations hf.1.2.1.1 hf.2.2.2.2.1 hf.2.2.2.2.2.1 hC hs hK (fun y => by rw [z] at y; exact nomatch y) (fun _ _ m' sm h5 => err_ok hD hf lk (.inr (.inl rfl)) sm h5 hP) (fun _ y => by rw [pe, z2] at y; exact nomatch y)
  · have hf' := hf.query hD.2.2.2.2 sm (by decide)
    have lk' := lk.csim sm (by decide)
    refine store_ok hD hf' (fun S5 h5 e5 => ?_)
    obtain ⟨h1, h2⟩ := hvv _ h5.2.1.1
    refine ⟨h1, ?_⟩
    rw [h2, h5.1.2.1.2]
    refine q_continuations h5.1.2.1.1 h5.2.2.2.2.1 h5.2.2.2.2.2.1 hC hs hK (fun y => by rw [z] at y; exact nomatch y) (fun _ y => by rw [pe, z2] at y; exact nomatch y) (fun _ _ m' sm h0 => end_ok hD h5 lk' sm h0 hP ?_)
    rw [e5, ev]
    rw [cntG_cong (made_of hf lk ev (in01.mp z))]
end
