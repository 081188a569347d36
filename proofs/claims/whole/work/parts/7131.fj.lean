section
variable {D : wD} {S : wS} {o : Nat → Nat} {c : cM} {F R : Int} {post : Int32 → wS → Prop} {xp : String → wS → Prop}
theorem AL.over (h : CC D S o) (c c' : cM) {k : Nat} (hk : k < 52) (hc : cOk k = false) {y : Nat} {l : List Nat} (hA : AL D (cS S o c) (o k) y l) : AL D (cS S o c') (o k) y l := by
  refine hA.ex (c_ex c c') (fun z => ?_) (fun z => ?_)
  · obtain ⟨m, hm, e⟩ := List.mem_map.mp z
    exact o_ne h hk hc m (by simpa [cOk] using hm) e
  · obtain ⟨m, hm, e⟩ := List.mem_map.mp z
    have hm' : cOk m = true := by simpa [cOk] using hm
    have q1 := (h.1 m (cOk_lt hm')).2.1
    have q2 : sK S y = 24 := hA.2.1.2.2.1
    rw [e, q2] at q1
    have key : ∀ m ∈ cLs, ckd m ≠ 24 := by decide
    exact key m hm q1.symm
/-- the cells that clearing a list changes -/
def clK (a y : Nat) (l : List Nat) : List Nat := if l.length = 0 then [a] else [a, y]
theorem clK_a (a y : Nat) (l : List Nat) : a ∈ clK a y l := by unfold clK; split <;> simp
theorem clK_y (a y : Nat) (l : List Nat) (h : l.length ≠ 0) : y ∈ clK a y l := by unfold clK; rw [if_neg h]; simp
theorem clK_mem {a y x : Nat} {l : List Nat} (h : x ∈ clK a y l) : x = a ∨ (l.length ≠ 0 ∧ x = y) := by
  unfold clK at h
  split at h
  · exact Or.inl (by simpa using h)
  · rename_i z
    simp at h
    rcases h with h | h
    · exact Or.inl h
    · exact Or.inr ⟨z, h⟩
theorem q_newBoardC (h : CC D S o) (hw : RW D S o) {y0 y1 : Nat} {l0 l1 : List Nat} (h0 : AL D (cS S o c) (o 31) y0 l0) (h1 : AL D (cS S o c) (o 33) y1 l1) (hn : sN S y0 < 100000 ∧ sN S y1 < 100000) (hy : (l0.length ≠ 0 ∨ l1.length ≠ 0) → y0 ≠ y1) {f r : Int} (hf : i32 f) (hr : i32 r)
    (k0 : (inB f 4 8 && inB r 4 8) = false → xp "java/lang/IllegalArgumentException" (cS S o c))
    (k1 : (inB f 4 8 && inB r 4 8) = true → ∀ c1 U, cSim [1, 2, 3, 4, 5, 6, 7, 8, 9] c c1 → BG c1 f r → CC D U o → EX D (cS S o c) (cS U o (newM c1)) (cLs.map o ++ (clK (o 31) y0 l0 ++ clK (o 33) y1 l1)) → AL D (cS U o (newM c1)) (o 31) y0 [] → AL D (cS U o (newM c1)) (o 33) y1 [] → post (iI (f * r)) (cS U o (newM c1))) :
    wp_X11_newBoard D post xp (cS S o c) (o 0) (iI f) (iI r) := by
  unfold wp_X11_newBoard wp_X11_newBoard_0 wp_X11_newBoard_22
  rw [show (4 : Int32) = iI 4 from rfl, show (8 : Int32) = iI 8 from rfl, iI_lt hf.1 hf.2 (by decide) (by decide), iI_lt (by decide) (by decide) hf.1 hf.2]
  have l3 : (iI r < iI 4) = (r < 4) := by rw [iI_lt hr.1 hr.2 (by decide) (by decide)]
  have l4 : (iI r ≤ iI 8) = (r ≤ 8) := by rw [iI_le hr.1 hr.2 (by decide) (by decide)]
  rw [l3, l4]
  refine ⟨fun q => k0 ?_, fun q1 => ⟨fun q => k0 ?_, fun q2 => ⟨fun q => k0 ?_, fun q3 => ⟨fun q4 => ?_, fun q => k0 ?_⟩⟩⟩⟩
  · unfold inB; rw [decide_eq_false (by omega)]; rfl
  · unfold inB; rw [decide_eq_false (show ¬ f ≤ 8 by omega)]; simp
  · unfold inB; rw [decide_eq_false (show ¬ 4 ≤ r by omega)]; simp
  rotate_left
  · unfold inB; rw [decide_eq_false (show ¬ r ≤ 8 from q)]; simp
  have k1 := k1 (by rw [inB_iff.mpr ⟨by omega, by omega⟩, inB_iff.mpr ⟨by omega, q4⟩]; rfl)
  refine ⟨o 1, c_r h rfl, (c_m h (by decide)).mpr trivial, c_k h (by decide), ?_⟩
  refine q_layB h hw ⟨by omega, by omega, by omega, q4⟩ fun c1 s1 hB => ?_
  refine ⟨o 11, c_r h rfl, (c_m h (by decide)).mpr trivial, c_k h (by decide), ?_⟩
  refine q_clearP h isP11 ?_
  refine ⟨o 13, c_r h rfl, (c_m h (by decide)).mpr trivial, c_k h (by decide), o 11, c_r h rfl, (c_m h (by decide)).mpr trivial, c_k h (by decide), ?_⟩
  refine q_begin h isP11 (putP_at c1 11 _) emptyV_rg ?_
  generalize hc3 : putS (cI (putP c1 11 emptyV) 13 3 0) 14 0 emptyV = c3
  have nk24 : ∀ m, cOk m = true → ∀ y l k, AL D (cS S o c) (o k) y l → o m ≠ y := fun m hm y l k hA e => by
    have q1 := (h.1 m (cOk_lt hm)).2.1
    have q2 : sK S y = 24 := hA.2.1.2.2.1
    rw [e, q2] at q1
    have key : ∀ m ∈ cLs, ckd m ≠ 24 := by decide
    exact key m (by simpa [cOk] using hm) q1.symm
  refine ⟨o 30, c_r h rfl, (c_m h (by decide)).mpr trivial, c_k h (by decide), ?_⟩
  have a0 := h0.over h c c3 (by decide) (by decide)
  have a1 := h1.over h c c3 (by decide) (by decide)
  have ne31 : o 31 ≠ o 33 := fun e => absurd (h.2.1 31 (by decide) 33 (by decide) e) (by decide)
  have ny : ∀ k, k = 31 ∨ k = 33 → o k ≠ y0 ∧ o k ≠ y1 := fun k hk => by
    have kk : sK S (o k) = 4 := by rcases hk with e | e <;> rw [e] <;> exact (h.1 _ (by decide)).2.1
    refine ⟨fun e => ?_, fun e => ?_⟩
    · have q2 : sK S y0 = 24 := h0.2.1.2.2.1
      rw [e, q2] at kk; exact absurd kk (by decide)
    · have q2 : sK S y1 = 24 := h1.2.1.2.2.1
      rw [e, q2] at kk; exact absurd kk (by decide)
  refine q_clearS h (s := 0) (Or.inl rfl) a0 hn.1 (K := clK (o 31) y0 l0) (clK_a _ _ _) (clK_y _ _ _) fun U1 hE1 hA1 => ?_
  obtain ⟨h', hU1⟩ := ex_c h hE1 (fun m hm z => by
    rcases clK_mem z with e | ⟨_, e⟩
    · exact o_ne h (k := 31) (by decide) (by decide) m hm e
    · exact nk24 m hm y0 l0 31 h0 e)
  have b1 : AL D U1 (o 33) y1 l1 := a1.ex hE1 (fun z => by
    rcases clK_mem z with e | ⟨_, e⟩
    · exact ne31 e.symm
    · exact (ny 33 (Or.inr rfl)).1 e) (fun z => by
    rcases clK_mem z with e | ⟨w, e⟩
    · exact (ny 31 (Or.inl rfl)).2 e.symm
    · exact hy (Or.inl w) e.symm)
  have n1 : sN U1 y1 < 100000 := by rw [hE1.n a1.2.1.2.1]; exact hn.2
  rw [hU1] at hA1 b1 hE1 ⊢
  refine ⟨o 32, c_r h' rfl, (c_m h' (by decide)).mpr trivial, c_k h' (by decide), ?_⟩
  refine q_clearS h' (s := 1) (Or.inr rfl) b1 n1 (K := clK (o 33) y1 l1) (clK_a _ _ _) (clK_y _ _ _) fun U2 hE2 hA2 => ?_
  obtain ⟨h'', hU2⟩ := ex_c h' hE2 (fun m hm z => by
    rcases clK_mem z with e | ⟨_, e⟩
    · exact o_ne h (k := 33) (by decide) (by decide) m hm e
    · exact nk24 m hm y1 l1 33 h1 e)
  have b0 : AL D U2 (o 31) y0 [] := hA1.ex hE2 (fun z => by
    rcases clK_mem z with e | ⟨_, e⟩
    · exact ne31 e
    · exact (ny 31 (Or.inl rfl)).2 e) (fun z => by
    rcases clK_mem z with e | ⟨w, e⟩
    · exact (ny 33 (Or.inr rfl)).1 e.symm
    · exact hy (Or.inr w) e)
  have hE12 : EX D (cS S o c3) U2 (clK (o 31) y0 l0 ++ clK (o 33) y1 l1) := hE1.trans hE2 (fun x _ hx => List.mem_append_left _ hx) (fun x _ hx => List.mem_append_right _ hx)
  rw [hU2] at hA2 b0 hE12 ⊢
  intro S21 e21
  rw [show (0 : Int32) = iI 0 from rfl, c_u1 h'' (by decide) (show ((17 : Nat) : Int) = 17 from rfl)] at e21
  rw [e21]
  refine ⟨o 45, c_r h'' rfl, (c_m h'' (by decide)).mpr trivial, c_k h'' (by decide), ?_⟩
  refine q_forget h'' ?_
  refine ⟨o 51, c_r h'' rfl, (c_m h'' (by decide)).mpr trivial, c_k h'' (by decide), ?_⟩
  rw [show (15 : Int32) = iI 15 from rfl]
  refine q_fillC h'' (r := 51) (by decide) (by decide) ?_
  have en : filR (forgM (cI c3 0 17 0)) 51 ((cln 51 : Nat) : Int) 15 = newM c1 := by rw [← hc3]; rfl
  rw [en]
  refine ⟨o 1, c_r h'' rfl, (c_m h'' (by decide)).mpr trivial, c_k h'' (by decide), ?_⟩
  have hsim : cSim [0, 11, 13, 14, 46, 47, 48, 51] c1 (newM c1) := by
    unfold newM
    exact (((((putP_sim c1 11 _).mono (by decide)).trans ((cI_sim _ 13 _ _).mono (by decide))).trans ((putS_sim _ 14 _ _).mono (by decide))).trans ((cI_sim _ 0 _ _).mono (by decide))).trans (((forgM_sim _).mono (by decide)).trans ((filR_sim _ 51 _ _).mono (by decide)))
  have e2 : sI (cS U2 o (newM c1)) (o 1) 2 = iI (f * r) := by
    rw [c_i1 h'' (by decide) (show ((2 : Nat) : Int) = 2 from rfl), (hsim 1 (by decide)).1]; exact congrArg iI hB.n
  rw [e2]
  refine k1 c1 U2 s1 hB h'' ?_ (b0.over h'' c3 _ (by decide) (by decide)) (hA2.over h'' c3 _ (by decide) (by decide))
  have x1 : EX D (cS S o c) (cS U2 o c3) (cLs.map o ++ (clK (o 31) y0 l0 ++ clK (o 33) y1 l1)) := (c_ex c c3).trans hE12 (fun x _ hx => List.mem_append_left _ hx) (fun x _ hx => List.mem_append_right _ hx)
  exact x1.trans (c_ex c3 (newM c1)) (fun x _ hx => hx) (fun x _ hx => List.mem_append_left _ hx)
end
