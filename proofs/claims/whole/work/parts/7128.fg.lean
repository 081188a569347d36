section
variable {D : wD} {S : wS} {o : Nat → Nat} {c : cM} {F R : Int} {v : Int → Int} {post : Int32 → wS → Prop}
/-- the letters tell the moves apart -/
abbrev tellB (F R : Int) (v : Int → Int) : Prop := ∀ i : Int, 0 ≤ i → i < (movesL F R v).length → firstL (fun j => decide (wdC F R v j = wdC F R v i)) 0 (movesL F R v).length = i
theorem q_misread_15 (h : CC D S o) (hP : ∀ c, ST D (cS S o c) (D.2.2.1 1) pcsL) (hv : PV F R v) (hf : few F R v) (hu : tellB F R v) {c0 : cM} (hB : BG c0 F R) (k : ∀ c', cSim [10, 17, 18, 20, 21] c0 c' → post (iI 0) (cS S o c')) :
    ∀ (n d : Nat) (j : Int) (c : cM), d < n → j + d = (movesL F R v).length → 0 ≤ j → cSim [10, 17, 18, 20, 21] c0 c → LK c F R v → (c.1 17 6 = 0 ∨ (c.1 17 6 = 1 ∧ WDS c F R v)) → wp_X11_misreadMoves_15 D post n (cS S o c) (o 0) (iI 0) (iI j) := by
  have len : ((movesL F R v).length : Int) ≤ 320 := hf
  intro n
  induction n with
  | zero => intro d j c hd; omega
  | succ n ih =>
    intro d j c hd hj h0 hs hL h6
    have hB' : BG c F R := hs.B (fun m hm => by simp; omega) hB
    unfold wp_X11_misreadMoves_15
    refine ⟨o 17, c_r h rfl, (c_m h (by decide)).mpr trivial, c_k h (by decide), ?_⟩
    rw [c_i1 h (by decide) (show ((7 : Nat) : Int) = 7 from rfl), hL.2.2, iI_le (by omega) (by omega) (by omega) (by omega)]
    refine ⟨fun _ => k c hs, fun q => ⟨o 17, c_r h rfl, (c_m h (by decide)).mpr trivial, c_k h (by decide), o 17, c_r h rfl, (c_m h (by decide)).mpr trivial, c_k h (by decide), ?_⟩⟩
    refine q_plainWord h hB' hP hv hL hf (i := j) ⟨h0, by omega⟩ ?_
    refine q_numberOfWord h hB' hP hv hL hf h6 fun c' a1 a2 a3 a4 => ?_
    have e := hu j h0 (by omega)
    unfold wdC at e
    unfold wdC
    rw [e]
    refine ⟨fun _ => ?_, fun z => absurd rfl z⟩
    unfold wp_X11_misreadMoves_48
    intro x1 e1
    rw [e1, show (1 : Int32) = iI 1 from rfl, iI_add]
    exact ih (d - 1) (j + 1) c' (by omega) (by omega) (by omega) (hs.trans (a1.mono (by decide))) a2 (Or.inr ⟨a3, a4⟩)
theorem q_misread (h : CC D S o) (hB : BG c F R) (hP : ∀ c, ST D (cS S o c) (D.2.2.1 1) pcsL) (hv : PV F R v) (hA : PAt c 11 v) (hf : few F R v) (hu : tellB F R v) (k : ∀ c', cSim [10, 17, 18, 20, 21] c c' → post (iI 0) (cS S o c')) : wp_X11_misreadMoves D post (cS S o c) (o 0) := by
  have h4 := hB.f4; have h8 := hB.f8; have r4 := hB.r4; have r8 := hB.r8
  have len : ((movesL F R v).length : Int) ≤ 320 := hf
  unfold wp_X11_misreadMoves wp_X11_misreadMoves_0
  refine ⟨o 17, c_r h rfl, (c_m h (by decide)).mpr trivial, c_k h (by decide), o 11, c_r h rfl, (c_m h (by decide)).mpr trivial, c_k h (by decide), ?_⟩
  refine q_lookL h hB isP11 (by decide) (PV.k h4 h8 r4 r8 hv) hA (by omega) ?_
  refine ⟨(movesL F R v).length + 1, ?_⟩
  exact q_misread_15 h hP hv hf hu hB k ((movesL F R v).length + 1) (movesL F R v).length 0 _ (by omega) (by omega) (by decide) ((lkM_sim c F R v).mono (by decide)) (lkM_LK c F R v) (Or.inl (by unfold lkM; rw [cI_1, up_at]))
end
