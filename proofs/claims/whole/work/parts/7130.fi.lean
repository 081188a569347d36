section
variable {D : wD} {S : wS} {o : Nat → Nat} {c : cM} {F R : Int} {v : Int → Int} {post : Int32 → wS → Prop} {yl : Int → Nat} {els : Int → List Nat} {n : Int → Int → Int} {w : Int → Int → Int → Int → Int} {mv : Int → Int → Int → Mv} {fr : Int → Int → Int → Bool} {inf : Int → Int → Nat → Int} {ys : Int → Int → Nat × Nat × Nat}
theorem q_replaysS (h : CC D S o) (hS : SHL D S o c yl els n w mv fr inf ys) (hl : ∀ s : Int, (s = 0 ∨ s = 1) → offK (cLs.map o) (els s) (ys s)) {s : Int} (hs : s = 0 ∨ s = 1) (hR : RUL F R (els s).length (n s) (w s) (mv s)) (hB : BG c F R) (hA : PAt c 11 v) (hv : rgV v)
    (k : ∀ c', cSim [12] c c' → post (iI (passN (n s) (w s) (inf s) v (-1) (els s).length)) (cS S o c')) : wp_X10_replaysPassing D post (cS S o c) (o (sbO s)) (o 11) (o 12) := by
  have h40 := (hS s hs).2.1
  refine ⟨41, ?_⟩
  refine q_replay_5 h (fun c => shb h hs) (fun c' => SHL.over h c c' hl hS s hs) (hl s hs) hR hB hA hv 41 (els s).length 0 0 c (by omega) (by omega) (by decide) (cSim.refl _ _) fun c' hc' => ?_
  rw [Int.zero_add]
  have e : passN (n s) (w s) (inf s) v (-1) (els s).length = sumL (fun g => if thruC (n s) (w s) v g then 1 else 0) 0 (els s).length := rfl
  rw [← e]
  exact k c' hc'
/-- the second look finds nothing -/
theorem q_errorsC (h : CC D S o) (hP : ∀ c, ST D (cS S o c) (D.2.2.1 1) pcsL) (hN : NOW c F R v) (hf : properB F R v = true → few F R v ∧ tellB F R v) (hS : SHL D S o c yl els n w mv fr inf ys) (hl : ∀ s : Int, (s = 0 ∨ s = 1) → offK (cLs.map o) (els s) (ys s)) (hR : ∀ s : Int, (s = 0 ∨ s = 1) → RUL F R (els s).length (n s) (w s) (mv s))
    (k : ∀ c', cSim [10, 12, 17, 18, 20, 21] c c' → post (iI 0) (cS S o c')) : wp_X11_errors D post (cS S o c) (o 0) := by
  obtain ⟨hB, hv, hc, hb, he, hA, hL⟩ := id hN
  have hm := hB.m
  have hrg := hv.rg hm.2
  have pass : ∀ (s : Int) (hs : s = 0 ∨ s = 1) (c' : cM) (p : Int32 → wS → Prop), cSim [12] c c' → p (iI (passN (n s) (w s) (inf s) v (-1) (els s).length)) (cS S o c') → wp_X10_passing D p (cS S o c') (o (sbO s)) (o 11) (-1 : Int32) := fun s hs c' p hc' kk =>
    q_passingS (shb h hs) (SHL.over h c c' hl hS s hs) (PAt.po h isP11 (hc'.P (by decide) hA)) hrg (r := -1) (by decide) kk
  have at68 : ∀ c', cSim [12] c c' → wp_X11_errors_68 D post (cS S o c') (o 0) (iI 0) := by
    intro c' hc'
    have hB' : BG c' F R := hc'.B (fun m hm => by simp; omega) hB
    have hA' : PAt c' 11 v := hc'.P (by decide) hA
    have hL' : GL c' F R v := by unfold GL; rw [(hc' 13 (by decide)).1]; exact hL
    unfold wp_X11_errors_68 wp_X11_errors_85
    refine q_isFirstLawful h hB' hv hb hA' hL' ?_
    rw [bI_0]
    refine ⟨fun _ => k c' (hc'.mono (by decide)), fun z => ?_⟩
    have z : properB F R v = true := by simpa using z
    refine q_misread h hB' hP (hN.pv z) hA' (hf z).1 (hf z).2 fun c'' hc'' => ?_
    exact k c'' ((hc'.mono (by decide)).trans (hc''.mono (by decide)))
  have at35 : ∀ c', cSim [12] c c' → wp_X11_errors_35 D post (cS S o c') (o 0) (iI 0) := by
    intro c' hc'
    have hB' : BG c' F R := hc'.B (fun m hm => by simp; omega) hB
    have hA' : PAt c' 11 v := hc'.P (by decide) hA
    unfold wp_X11_errors_35
    refine ⟨o 32, c_r h rfl, (c_m h (by decide)).mpr trivial, c_k h (by decide), o 11, c_r h rfl, (c_m h (by decide)).mpr trivial, c_k h (by decide), ?_⟩
    refine pass 1 (Or.inr rfl) c' _ hc' ?_
    refine ⟨o 32, c_r h rfl, (c_m h (by decide)).mpr trivial, c_k h (by decide), o 11, c_r h rfl, (c_m h (by decide)).mpr trivial, c_k h (by decide), o 12, c_r h rfl, (c_m h (by decide)).mpr trivial, c_k h (by decide), ?_⟩
    refine q_replaysS h (SHL.over h c c' hl hS) hl (s := 1) (Or.inr rfl) (hR 1 (Or.inr rfl)) hB' hA' hrg fun c'' hc'' => ?_
    exact ⟨fun _ => at68 c'' (hc'.trans hc''), fun z => absurd rfl z⟩
  unfold wp_X11_errors wp_X11_errors_0
  refine ⟨o 30, c_r h rfl, (c_m h (by decide)).mpr trivial, c_k h (by decide), o 11, c_r h rfl, (c_m h (by decide)).mpr trivial, c_k h (by decide), ?_⟩
  refine pass 0 (Or.inl rfl) c _ (cSim.refl _ _) ?_
  refine ⟨o 30, c_r h rfl, (c_m h (by decide)).mpr trivial, c_k h (by decide), o 11, c_r h rfl, (c_m h (by decide)).mpr trivial, c_k h (by decide), o 12, c_r h rfl, (c_m h (by decide)).mpr trivial, c_k h (by decide), ?_⟩
  refine q_replaysS h hS hl (s := 0) (Or.inl rfl) (hR 0 (Or.inl rfl)) hB hA hrg fun c'' hc'' => ?_
  exact ⟨fun _ => at35 c'' hc'', fun z => absurd rfl z⟩
end
