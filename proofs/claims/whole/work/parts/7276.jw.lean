section
variable {D : wD} {S : wS} {o : Nat → Nat} {c : cM} {F R : Int} {post : Int32 → wS → Prop} {xp : String → wS → Prop}
theorem q_newBoardC2 (h : CC D S o) (hw : RW D S o) {y0 y1 : Nat} {l0 l1 : List Nat} (h0 : AL D (cS S o c) (o 31) y0 l0) (h1 : AL D (cS S o c) (o 33) y1 l1) (hn : sN S y0 < 100000 ∧ sN S y1 < 100000) (hy : (l0.length ≠ 0 ∨ l1.length ≠ 0) → y0 ≠ y1) {f r : Int} (hf : i32 f) (hr : i32 r)
    (k0 : (inB f 4 8 && inB r 4 8) = false → xp "java/lang/IllegalArgumentException" (cS S o c))
    (k1 : (inB f 4 8 && inB r 4 8) = true → ∀ c1 U, cSim [1, 2, 3, 4, 5, 6, 7, 8, 9] c c1 → BG c1 f r → CC D U o → (∀ k, cOk k = true → sR U (o k) = sR S (o k)) → EX D (cS S o c) (cS U o (newM c1)) (cLs.map o ++ (clK (o 31) y0 l0 ++ clK (o 33) y1 l1)) → AL D (cS U o (newM c1)) (o 31) y0 [] → AL D (cS U o (newM c1)) (o 33) y1 [] → post (iI (f * r)) (cS U o (newM c1))) :
    wp_X11_newBoard D post xp (cS S o c) (o 0) (iI f) (iI r) := by
  unfold wp_X11_newBoard wp_X11_newBoard_0 wp_X11_newBoard_22
  rw [show (4 : Int32) = iI 4 from rfl, show (8 : Int32) = iI 8 from rfl, iI_lt hf.1 hf.2 (by decide) (by decide), iI_lt (by decide) (by decide) hf.1 hf.2]
  have l3 : (iI r < iI 4) = (r < 4) := by rw [iI_lt hr.1 hr.2 (by decide) (by decide)]
  have l4 : (iI r ≤ iI 8) = (r ≤ 8) := by rw [iI_le hr.1 hr.2 (by decide) (by decide)]
  rw [l3, l4]
  refine ⟨fun q => k0 ?_, fun q1 => ⟨fun q => k0 ?_, fun q2 => ⟨fun q => k0 ?_, fun q3 => ⟨fun q4 => ?_, fun q => k0 ?_⟩⟩⟩⟩
  · unfold inB; rw [decide_eq_false (by omega)]; rfl
  · unfold inB; rw [decide_eq_false (show ¬ f ≤ 8 by omega)]; simp
  · unfold inB; rw [decide_eq_false (show ¬ 4 ≤ r by omega)]; simp
  rotate_left
  · unfold inB; rw [decide_eq_false (show ¬ r ≤ 8 from q)]; simp
  have k1 := k1 (by rw [inB_iff.mpr ⟨by omega, by omega⟩, inB_iff.mpr ⟨by omega, q4⟩]; rfl)
  refine ⟨o 1, c_r h rfl, (c_m h (by decide)).mpr trivial, c_k h (by decide), ?_⟩
  refine q_layB h hw ⟨by omega, by omega, by omega, q4⟩ fun c1 s1 hB => ?_
  refine ⟨o 11, c_r h rfl, (c_m h (by decide)).mpr trivial, c_k h (by decide), ?_⟩
  refine q_clearP h isP11 ?_
  refine ⟨o 13, c_r h rfl, (c_m h (by decide)).mpr trivial, c_k h (by decide), o 11, c_r h rfl, (c_m h (by decide)).mpr trivial, c_k h (by decide), ?_⟩
  refine q_begin h isP11 (putP_at c1 11 _) emptyV_rg ?_
  generalize hc3 : putS (cI (putP c1 11 emptyV) 13 3 0) 14 0 emptyV = c3
  have nk24 : ∀ m, cOk m = true → ∀ y l k, AL D (cS S o c) (o k) y l → o m ≠ y := fun m hm y l k hA e => by
    have q1 := (h.1 m (cOk_lt hm)).2.1
    have q2 : sK S y = 24 := hA.2.1.2.2.1
    rw [e, q2] at q1
    have key : ∀ m ∈ cLs, ckd m ≠ 24 := by decide
    exact key m (by simpa [cOk] using hm) q1.symm
  refine ⟨o 30, c_r h rfl, (c_m h (by decide)).mpr trivial, c_k h (by decide), ?_⟩
  have a0 := h0.over h c c3 (by decide) (by decide)
  have a1 := h1.over h c c3 (by decide) (by decide)
  have ne31 : o 31 ≠ o 33 := fun e => absurd (h.2.1 31 (by decide) 33 (by decide) e) (by decide)
  have ny : ∀ k, k = 31 ∨ k = 33 → o k ≠ y0 ∧ o k ≠ y1 := fun k hk => by
    have kk : sK S (o k) = 4 := by rcases hk with e | e <;> rw [e] <;> exact (h.1 _ (by decide)).2.1
    refine ⟨fun e => ?_, fun e => ?_⟩
    · have q2 : sK S y0 = 24 := h0.2.1.2.2.1
      rw [e, q2] at kk; exact absurd kk (by decide)
    · have q2 : sK S y1 = 24 := h1.2.1.2.2.1
      rw [e, q2] at kk; exact absurd kk (by decide)
  refine q_clearS h (s := 0) (Or.inl rfl) a0 hn.1 (K := clK (o 31) y0 l0) (clK_a _ _ _) (clK_y _ _ _) fun U1 hE1 hA1 => ?_
  obtain ⟨h', hU1⟩ := ex_c h hE1 (fun m hm z => by
    rcases clK_mem z with e | ⟨_, e⟩
    · exact o_ne h (k := 31) (by decide) (by decide) m hm e
    · exact nk24 m hm y0 l0 31 h0 e)
  have b1 : AL D U1 (o 33) y1 l1 := a1.ex hE1 (fun z => by
    rcases clK_mem z with e | ⟨_, e⟩
    · exact ne31 e.symm
    · exact (ny 33 (Or.inr rfl)).1 e) (fun z => by
    rcases clK_mem z with e | ⟨w, e⟩
    · exact (ny 31 (Or.inl rfl)).2 e.symm
    · exact hy (Or.inl w) e.symm)
  have n1 : sN U1 y1 < 100000 := by rw [hE1.n a1.2.1.2.1]; exact hn.2
  rw [hU1] at hA1 b1 hE1 ⊢
  refine ⟨o 32, c_r h' rfl, (c_m h' (by decide)).mpr trivial, c_k h' (by decide), ?_⟩
  refine q_clearS h' (s := 1) (Or.inr rfl) b1 n1 (K := clK (o 33) y1 l1) (clK_a _ _ _) (clK_y _ _ _) fun U2 hE2 hA2 => ?_
  obtain ⟨h'', hU2⟩ := ex_c h' hE2 (fun m hm z => by
    rcases clK_mem z with e | ⟨_, e⟩
    · exact o_ne h (k := 33) (by decide) (by decide) m hm e
    · exact nk24 m hm y1 l1 33 h1 e)
  have b0 : AL D U2 (o 31) y0 [] := hA1.ex hE2 (fun z => by
    rcases clK_mem z with e | ⟨_, e⟩
    · exact ne31 e
    · exact (ny 31 (Or.inl rfl)).2 e) (fun z => by
    rcases clK_mem z with e | ⟨w, e⟩
    · exact (ny 33 (Or.inr rfl)).1 e.symm
    · exact hy (Or.inr w) e)
  have hE12 : EX D (cS S o c3) U2 (clK (o 31) y0 l0 ++ clK (o 33) y1 l1) := hE1.trans hE2 (fun x _ hx => List.mem_append_left _ hx) (fun x _ hx => List.mem_append_right _ hx)
  rw [hU2] at hA2 b0 hE12 ⊢
  intro S21 e21
  rw [show (0 : Int32) = iI 0 from rfl, c_u1 h'' (by decide) (show ((17 : Nat) : Int) = 17 from rfl)] at e21
  rw [e21]
  refine ⟨o 45, c_r h'' rfl, (c_m h'' (by decide)).mpr trivial, c_k h'' (by decide), ?_⟩
  refine q_forget h'' ?_
  refine ⟨o 51, c_r h'' rfl, (c_m h'' (by decide)).mpr trivial, c_k h'' (by decide), ?_⟩
  rw [show (15 : Int32) = iI 15 from rfl]
  refine q_fillC h'' (r := 51) (by decide) (by decide) ?_
  have en : filR (forgM (cI c3 0 17 0)) 51 ((cln 51 : Nat) : Int) 15 = newM c1 := by rw [← hc3]; rfl
  rw [en]
  refine ⟨o 1, c_r h'' rfl, (c_m h'' (by decide)).mpr trivial, c_k h'' (by decide), ?_⟩
  have hsim : cSim [0, 11, 13, 14, 46, 47, 48, 51] c1 (newM c1) := by
    unfold newM
    exact (((((putP_sim c1 11 _).mono (by decide)).trans ((cI_sim _ 13 _ _).mono (by decide))).trans ((putS_sim _ 14 _ _).mono (by decide))).trans ((cI_sim _ 0 _ _).mono (by decide))).trans (((forgM_sim _).mono (by decide)).trans ((filR_sim _ 51 _ _).mono (by decide)))
  have e2 : sI (cS U2 o (newM c1)) (o 1) 2 = iI (f * r) := by
    rw [c_i1 h'' (by decide) (show ((2 : Nat) : Int) = 2 from rfl), (hsim 1 (by decide)).1]; exact congrArg iI hB.n
  rw [e2]
  refine k1 c1 U2 s1 hB h'' (fun k hk => ?_) ?_ (b0.over h'' c3 _ (by decide) (by decide)) (hA2.over h'' c3 _ (by decide) (by decide))
  · have nk : o k ∉ clK (o 31) y0 l0 ++ clK (o 33) y1 l1 := fun z => by
      rcases List.mem_append.mp z with z | z
      · rcases clK_mem z with e | ⟨_, e⟩
        · exact o_ne h (k := 31) (by decide) (by decide) k hk e
        · exact nk24 k hk y0 l0 31 h0 e
      · rcases clK_mem z with e | ⟨_, e⟩
        · exact o_ne h (k := 33) (by decide) (by decide) k hk e
        · exact nk24 k hk y1 l1 33 h1 e
    exact hE12.r (Or.inl (h.1 k (cOk_lt hk)).1) nk
  · have x1 : EX D (cS S o c) (cS U2 o c3) (cLs.map o ++ (clK (o 31) y0 l0 ++ clK (o 33) y1 l1)) := (c_ex c c3).trans hE12 (fun x _ hx => List.mem_append_left _ hx) (fun x _ hx => List.mem_append_right _ hx)
    exact x1.trans (c_ex c3 (newM c1)) (fun x _ hx => hx) (fun x _ hx => List.mem_append_left _ hx)
end
section
variable {m : xM} {f r : Int}
theorem boardM_r {k : Nat} (h : k ≠ 8 ∧ k ≠ 30 ∧ k ≠ 40 ∧ k ≠ 42 ∧ k ≠ 50) : boardM m f r k = m k := funext fun j => by
  unfold boardM resM
  rw [fil_f _ _ (by simpa using h.2.2.2.1), fil_f _ _ (by simpa using h.2.2.1), up_ne _ (Or.inl h.2.2.2.2), up_ne _ (Or.inl h.2.1), up_ne _ (Or.inl h.2.1), up_ne _ (Or.inl h.2.2.2.2), up_ne _ (Or.inl h.1), up_ne _ (Or.inl h.1), fil_f _ _ (by simpa using h.1), up_ne _ (Or.inl h.2.2.2.2), up_ne _ (Or.inl h.2.2.2.2), up_ne _ (Or.inl h.2.2.2.2)]
theorem boardM_o {j : Int} (h : j ≠ 11 ∧ j ≠ 39 ∧ j ≠ 0 ∧ j ≠ 1 ∧ j ≠ 2) : boardM m f r 50 j = m 50 j := by
  unfold boardM
  rw [resM_50 _ h.1 h.2.1, up_ne _ (Or.inr h.2.2.2.2), up_ne _ (Or.inr h.2.2.2.1), up_ne _ (Or.inr h.2.2.1)]
theorem boardM_1 : boardM m f r 50 1 = f := by
  unfold boardM
  rw [resM_50 _ (by decide) (by decide), up_ne _ (Or.inr (by decide)), up_at]
theorem boardM_2 : boardM m f r 50 2 = r := by
  unfold boardM
  rw [resM_50 _ (by decide) (by decide), up_at]
theorem boardM_0 : boardM m f r 50 0 = 0 := by
  unfold boardM
  rw [resM_50 _ (by decide) (by decide), up_ne _ (Or.inr (by decide)), up_ne _ (Or.inr (by decide)), up_at]
theorem boardM_11 : boardM m f r 50 11 = 0 := by
  unfold boardM resM
  rw [fil_f _ _ rfl, fil_f _ _ rfl, up_ne _ (Or.inr (by decide)), up_ne _ (Or.inl (by decide)), up_ne _ (Or.inl (by decide)), up_at]
theorem boardM_39 : boardM m f r 50 39 = 0 := by
  unfold boardM resM
  rw [fil_f _ _ rfl, fil_f _ _ rfl, up_at]
theorem boardM_30 {s : Int} (hs : s = 0 ∨ s = 1) : boardM m f r 30 s = 0 := by
  unfold boardM resM
  rw [fil_f _ _ rfl, fil_f _ _ rfl, up_ne _ (Or.inl (by decide))]
  rcases hs with rfl | rfl
  · rw [up_ne _ (Or.inr (by decide)), up_at]
  · rw [up_at]
theorem boardM_40 {k : Int} (h0 : 0 ≤ k) (h1 : k < 64) : boardM m f r 40 k = 15 := by
  unfold boardM resM
  rw [fil_f _ _ rfl]
  unfold fil
  rw [if_pos ⟨rfl, h0, h1⟩]
theorem boardM_42 {k : Int} (h0 : 0 ≤ k) (h1 : k < 6) : boardM m f r 42 k = 0 := by
  unfold boardM resM
  unfold fil
  rw [if_pos ⟨rfl, h0, h1⟩]
theorem boardM_gv : gv (boardM m f r) 0 = emptyV := by
  funext j
  unfold gv vec
  by_cases y : 0 ≤ j ∧ j < 67
  · rw [if_pos y, show 67 * (0 : Int) + j = j by omega]
    unfold boardM resM
    rw [fil_f _ _ rfl, fil_f _ _ rfl, up_ne _ (Or.inl (by decide)), up_ne _ (Or.inl (by decide)), up_ne _ (Or.inl (by decide)), up_ne _ (Or.inl (by decide))]
    unfold emptyV
    by_cases j66 : j = 66
    · rw [j66, up_at]; rfl
    · rw [up_ne _ (Or.inr j66), if_neg j66]
      by_cases j64 : j = 64
      · rw [j64, up_at]; rfl
      · rw [up_ne _ (Or.inr j64), if_neg j64]
        unfold fil
        rw [if_pos ⟨rfl, y.1, y.2⟩]
  · rw [if_neg y]
    unfold emptyV
    rw [if_neg (by omega), if_neg (by omega)]
end
