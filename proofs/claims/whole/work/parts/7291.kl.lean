section
variable {D : wD} {S U V : wS} {o : Nat → Nat} {x : Nat} {A : Nat → Nat} {b L : Nat} {xs : Nat → Int32} {c : cM} {m : xM}
theorem x_ex0 (S : wS) (x : Nat) (A : Nat → Nat) (m : xM) : EX D S (xS S x A m) (xCs x A) := ⟨⟨fun _ z => z, fun _ _ => ⟨rfl, rfl⟩⟩, fun a ha hk => ⟨funext fun j => by
  show (match xRow x A m a with | some r => iI (r (j : Int)) | none => S.2.2.2.1 a j) = _
  rw [xRow_no hk], rfl, rfl⟩⟩
theorem map_nd {f : Nat → Nat} {l : List Nat} (hl : l.Nodup) (h : ∀ a ∈ l, ∀ b ∈ l, f a = f b → a = b) : (l.map f).Nodup := by
  induction l with
  | nil => exact List.nodup_nil
  | cons a l ih =>
    rw [List.nodup_cons] at hl
    rw [List.map_cons, List.nodup_cons]
    refine ⟨fun z => ?_, ih hl.2 fun p hp q hq e => h p (List.mem_cons_of_mem _ hp) q (List.mem_cons_of_mem _ hq) e⟩
    obtain ⟨k, hk, e⟩ := List.mem_map.mp z
    have := h k (List.mem_cons_of_mem _ hk) a List.mem_cons_self e
    rw [this] at hk
    exact hl.1 hk
/-- an empty shelf -/
def d00 : Int → SDt := fun _ => ([], fun _ => 0, fun _ _ _ => 0, fun _ _ => (0, 0, 0), fun _ _ => false, fun _ _ => 0, fun _ => (0, 0, 0))
def yb0 (adr : Nat → Nat) : Nat → Nat := fun r => if r = 29 then adr 52 else if r = 49 then adr 53 else adr 54
/-- THE START: the relation behind no call -/
theorem rel_start (hD : wDok D b L xs) {S2 U : wS} {adr : Nat → Nat} {y1 y8 y14 y17 : Nat} {c1 : cM} {U2 S9 S15 S18 : wS} (hy1 : ¬ wM D D.2.2.2 y1) (x2 : EX D D.2.2.2 S2 []) (hN : NEWC D S2 U adr y1) (s1 : cSim [11, 13, 14, 51] c1 c) (s0 : cSim [1, 2, 3, 4, 5, 6, 7, 8, 9] (c0U U adr) c1) (hB : BG c 8 8) (pa : PAt c 11 usualV) (pg : PG c 0 (fun _ => usualV) (fun _ => (0, 0, 0))) (c51 : ∀ j : Int, 0 ≤ j → j < 64 → c.1 51 j = 15) (c16 : c.1 0 16 = 0) (c17 : c.1 0 17 = 0)
    (hy8 : ¬ wM D (cS U adr c) y8) (x9 : EX D (cS U adr c) S9 []) (hX : XC D U2 y8 A) (x9' : EX D S9 U2 [y8]) (hA : ∀ f, xIn f = true → ¬ wM D S9 (A f)) (hm : REF0 m) (hy14 : ¬ wM D (xS U2 y8 A m) y14) (e15 : S15 = nA (xS U2 y8 A m) y14 22 1) (hy17 : ¬ wM D S15 y17) (e18 : S18 = nA S15 y17 25 1) : RELo D S18 adr y8 A [y14, y17] 0 false := by
  obtain ⟨a0, ccU, xU, sbs, szs, als, eno, fr, inj, z46⟩ := hN
  have h0 := hD.2.2.2.2
  have no := fun z : Nat => (List.not_mem_nil : z ∉ ([] : List Nat))
  have adrD : ∀ n, n < 58 → adr n ∉ D.2.1 := fun n hn z => by
    by_cases e : n = 0
    · rw [e, a0] at z; exact hy1 (Or.inr z)
    · exact fr n hn e (Or.inr z)
  have x5 : EX D U (cS U adr c) (cLs.map adr) := bookX (c0U_self U adr) c
  have x12 := x_ex0 (D := D) U2 y8 A m
  have x15 : EX D (xS U2 y8 A m) S15 [] := by rw [e15]; exact EX.rf.nA hy14 22 1
  have x18 : EX D S15 S18 [] := by rw [e18]; exact EX.rf.nA hy17 25 1
  have xt : EX D (xS U2 y8 A m) S18 [] := x15.trans x18 (fun _ _ z => z) (fun _ _ z => z)
  have frA : ∀ a, wM D (cS U adr c) a → a ∉ xCs y8 A := fun a ha z => by
    rcases List.mem_cons.mp z with e | e
    · exact hy8 (e ▸ ha)
    · obtain ⟨f, hf, e⟩ := List.mem_map.mp e
      exact hA f (by simpa [xIn] using hf) (x9.M (e ▸ ha))
  have xa2 : EX D (cS U adr c) U2 [] := x9.trans x9' (fun _ _ z => z) (fun a ha z => absurd ha (by rw [List.mem_singleton.mp z]; exact hy8))
  have xa3 : EX D (cS U adr c) (xS U2 y8 A m) [] := xa2.trans x12 (fun _ _ z => z) (fun a ha z => absurd z (frA a ha))
  have xa : EX D (cS U adr c) S18 [] := xa3.trans xt (fun _ _ z => z) (fun _ _ z => z)
  have hc := ex_c ccU xa (fun n _ => no _)
  have hx := ex_x hX xt (fun a _ => no a)
  have cs : CST D S18 := by
    have e1 : EX D D.2.2.2 U [y1] := x2.trans xU (fun _ _ z => absurd z (no _)) (fun _ _ z => z)
    have e2 : EX D D.2.2.2 (cS U adr c) (y1 :: cLs.map adr) := e1.trans x5 (fun a _ z => by rw [List.mem_singleton.mp z]; exact List.mem_cons_self) (fun a _ z => List.mem_cons_of_mem _ z)
    have e3 : EX D D.2.2.2 S18 (y1 :: cLs.map adr) := e2.trans xa (fun _ _ z => z) (fun _ _ z => absurd z (no _))
    refine CST.fresh e3 (fun a ha => ?_)
    rcases List.mem_cons.mp ha with e | e
    · rw [e]; exact hy1
    · obtain ⟨n, hn, e⟩ := List.mem_map.mp e
      intro w
      rcases w with w | w
      · rw [h0] at w; exact no _ w
      · exact adrD n (by have := cOk_lt (show cOk n = true by simpa [cOk] using hn); omega) (by rw [e]; exact w)
  -- the cells' levels
  have aU : ∀ n, n < 52 ∨ n = 52 ∨ n = 53 ∨ n = 54 → adr n ∈ sL U := fun n hn => by
    rcases hn with hn | rfl | rfl | rfl
    · exact (ccU.1 n hn).1
    · exact sbs.1.2.1.2.1
    · exact sbs.2.1.2.1.2.1
    · exact sbs.2.2.2.1.2.1
  have a5 : ∀ n, n < 52 ∨ n = 52 ∨ n = 53 ∨ n = 54 → wM D (cS U adr c) (adr n) := fun n hn => Or.inl (aU n hn)
  have aL : ∀ n, n < 52 ∨ n = 52 ∨ n = 53 ∨ n = 54 → adr n ∈ sL S18 ∧ adr n ∉ D.2.1 := fun n hn => ⟨xa.L (aU n hn), adrD n (by omega)⟩
  have xL : ∀ a ∈ xCs y8 A, wM D (xS U2 y8 A m) a ∧ a ∈ sL S18 ∧ a ∉ D.2.1 := fun a ha => by
    rcases List.mem_cons.mp ha with e | e
    · rw [e]; exact ⟨Or.inl hX.1, xt.L hX.1, fun z => hy8 (Or.inr z)⟩
    · obtain ⟨f, hf, e⟩ := List.mem_map.mp e
      have hf : xIn f = true := by simpa [xIn] using hf
      rw [← e]
      exact ⟨Or.inl (hX.2.2.1 f hf).2.1, xt.L (hX.2.2.1 f hf).2.1, fun z => hA f hf (Or.inr z)⟩
  have m14 : wM D S15 y14 ∧ y14 ∈ sL S18 ∧ sN S18 y14 = 1 := by
    have l : y14 ∈ sL S15 := by rw [e15]; exact nA_l _ _ _ _
    exact ⟨Or.inl l, x18.L l, by rw [x18.n (Or.inl l), e15]; exact nA_n _ _ _ _⟩
  have m17 : y17 ∈ sL S18 ∧ sN S18 y17 = 1 := by
    have l : y17 ∈ sL S18 := by rw [e18]; exact nA_l _ _ _ _
    exact ⟨l, by rw [e18]; exact nA_n _ _ _ _⟩
  have ndL : (ownL D adr y8 A (yb0 adr) (fun _ => D.2.2.1 106) d00 [] [y14, y17]).Nodup := by
    have ey : ylC D (fun _ => D.2.2.1 106) = [] := by unfold ylC; rw [if_pos rfl]; rfl
    have eg : gmC (d00 0) = [] ∧ gmC (d00 1) = [] := ⟨rfl, rfl⟩
    unfold ownL
    rw [ey, eg.1, eg.2]
    have eb : [yb0 adr 29, yb0 adr 49, yb0 adr 50] = [52, 53, 54].map adr := rfl
    rw [eb]
    have n1 : ((List.range 52).map adr).Nodup := map_nd List.nodup_range (fun p hp q hq e => inj p (by have := List.mem_range.mp hp; omega) q (by have := List.mem_range.mp hq; omega) e)
    have n2 : (xCs y8 A).Nodup := by
      unfold xCs
      rw [List.nodup_cons]
      refine ⟨fun z => ?_, map_nd (by decide) (fun p hp q hq e => hX.2.2.2 p (by simpa [xIn] using hp) q (by simpa [xIn] using hq) e)⟩
      obtain ⟨f, hf, e⟩ := List.mem_map.mp z
      exact (hX.2.2.1 f (by simpa [xIn] using hf)).2.2.2.2 e
    have n3 : ([52, 53, 54].map adr).Nodup := map_nd (by decide) (fun p hp q hq e => inj p (by simp at hp; omega) q (by simp at hq; omega) e)
    have w3 : ∀ a ∈ [52, 53, 54].map adr, wM D (cS U adr c) a := fun a ha => by
      obtain ⟨n, hn, e⟩ := List.mem_map.mp ha
      rw [← e]
      exact a5 n (by simp at hn; omega)
    have w1 : ∀ a ∈ (List.range 52).map adr, wM D (cS U adr c) a := fun a ha => by
      obtain ⟨n, hn, e⟩ := List.mem_map.mp ha
      rw [← e]
      exact a5 n (.inl (List.mem_range.mp hn))
    have n4 : [y14, y17].Nodup := by
      simp only [List.nodup_cons, List.mem_cons, List.not_mem_nil, or_false, not_false_eq_true, and_true, List.nodup_nil]
      exact fun e => hy17 (e ▸ m14.1)
    have w4 : ∀ a, wM D (xS U2 y8 A m) a → a ∉ [y14, y17] := fun a ha z => by
      simp only [List.mem_cons, List.not_mem_nil, or_false] at z
      rcases z with z | z
      · exact hy14 (z ▸ ha)
      · exact hy17 (z ▸ x15.M ha)
    simp only [List.nil_append]
    refine List.nodup_append.mpr ⟨n1, List.nodup_append.mpr ⟨n2, List.nodup_append.mpr ⟨n3, n4, fun a ha k hk e => w4 a (xa3.M (w3 a ha)) (e ▸ hk)⟩, fun a ha k hk e => ?_⟩, fun a ha k hk e => ?_⟩
    · rcases List.mem_append.mp hk with z | z
      · exact frA k (w3 k z) (e ▸ ha)
      · exact w4 a (xL a ha).1 (e ▸ z)
    · rcases List.mem_append.mp hk with z | z
      · exact frA a (w1 a ha) (e ▸ z)
      rcases List.mem_append.mp z with z | z
      · obtain ⟨n, hn, e1⟩ := List.mem_map.mp ha
        obtain ⟨k2, hk2, e2⟩ := List.mem_map.mp z
        have hn := List.mem_range.mp hn
        simp at hk2
        have := inj n (by omega) k2 (by omega) (e1.trans (e.trans e2.symm))
        omega
      · exact w4 a (xa3.M (w1 a ha)) (e ▸ z)
  have hp : HPo D S18 (ownL D adr y8 A (yb0 adr) (fun _ => D.2.2.1 106) d00 [] [y14, y17]) := ⟨ndL, fun a ha => by
    unfold ownL at ha
    simp only [List.mem_append] at ha
    rcases ha with z | z | z | z | z | z | z | z
    · obtain ⟨n, hn, e⟩ := List.mem_map.mp z
      rw [← e]; exact aL n (.inl (List.mem_range.mp hn))
    · exact (xL a z).2
    · have eb : [yb0 adr 29, yb0 adr 49, yb0 adr 50] = [52, 53, 54].map adr := rfl
      rw [eb] at z
      obtain ⟨n, hn, e⟩ := List.mem_map.mp z
      rw [← e]; exact aL n (by simp at hn; omega)
    · unfold ylC at z; rw [if_pos rfl] at z; exact absurd z (by simp)
    · exact absurd z (no _)
    · exact absurd z (no _)
    · exact absurd z (no _)
    · simp only [List.mem_cons, List.not_mem_nil, or_false] at z
      rcases z with z | z
      · rw [z]; exact ⟨m14.2.1, fun w => hy14 (Or.inr w)⟩
      · rw [z]; exact ⟨m17.1, fun w => hy17 (Or.inr w)⟩⟩
  -- the class's side
  have noC : ∀ n, n < 58 → cOk n = false → adr n ∉ cLs.map adr := fun n hn hc z => by
    obtain ⟨k, hk, e⟩ := List.mem_map.mp z
    have hk : cOk k = true := by simpa [cOk] using hk
    have := inj k (by have := cOk_lt hk; omega) n hn e
    rw [this, hc] at hk
    exact nomatch hk
  have c46 : ∀ k : Int, 0 ≤ k → c.1 46 k = 0 := fun k k0 => by
    rw [(s1 46 (by decide)).1, (s0 46 (by decide)).1]
    show (sI U (adr 46) k.toNat).toInt = 0
    rw [z46]; rfl
  have sb : ∀ p r, p < 58 → r < 58 → cOk p = false → cOk r = false → SB U (adr p) (adr r) [] → SB S18 (adr p) (adr r) [] := fun p r hp hr cp cr h => (h.ex x5 (noC p hp cp) (noC r hr cr)).ex xa (no _) (no _)
  have h106 : D.2.2.1 106 ∉ cLs.map adr := fun z => by
    obtain ⟨n, hn, e⟩ := List.mem_map.mp z
    exact adrD n (by have := cOk_lt (show cOk n = true by simpa [cOk] using hn); omega) (by rw [e]; exact hD.2.2.1.1)
  have al : ∀ p, p < 58 → cOk p = false → AL D U (adr p) (D.2.2.1 106) [] → AL D S18 (adr p) (D.2.2.1 106) [] := fun p hp cp h => (h.ex x5 (noC p hp cp) h106).ex xa (no _) (no _)
  have n106 : sN S18 (D.2.2.1 106) = 0 := by rw [cs.n (Or.inr hD.2.2.1.1)]; exact hD.2.2.1.2.2
  have nS : ∀ n, n = 52 ∨ n = 53 ∨ n = 54 → sN S18 (adr n) = 16 := fun n hn => by
    rw [xa.n (a5 n (.inr hn))]
    show sN U (adr n) = 16
    rcases hn with rfl | rfl | rfl
    · exact szs.1
    · exact szs.2.1
    · exact szs.2.2
  have uo := usual_ok
  have nw : NOW c 8 8 usualV := ⟨hB, uo.1, uo.2.1, uo.2.2.1, uo.2.2.2, pa, ⟨by rw [pg.1]; decide, fun z => by rw [pg.1] at z; exact absurd z (by decide)⟩⟩
  have eno' : ENo D S18 adr := by
    obtain ⟨z, z1, z2, z3, z4⟩ := eno
    have zm : wM D (cS U adr c) z := z2
    refine ⟨z, ?_, xa.M zm, by rw [xa.k zm]; exact z3, by rw [xa.n zm]; exact z4⟩
    rw [xa.r (a5 45 (.inl (by decide))) (no _)]
    exact z1
  have cl : CLo D S18 adr c 8 8 usualV 0 (fun _ => usualV) (fun _ => (0, 0, 0)) [] [] (yb0 adr) (fun _ => D.2.2.1 106) d00 [] 0 := by
    refine ⟨⟨nw, pg, rfl, fun k k0 k1 => by omega, fun k k0 k1 => ⟨uo.2.1, uo.1⟩⟩, ⟨⟨sb 49 53 (by decide) (by decide) (by decide) (by decide) sbs.2.1, sb 50 54 (by decide) (by decide) (by decide) (by decide) sbs.2.2, [], sb 29 52 (by decide) (by decide) (by decide) (by decide) sbs.1⟩, ⟨by decide, by decide, by simp, by simp⟩, fun r hr => ?_⟩, fun s hs => ⟨⟨?_, ⟨by simp [d00], by rw [n106]; decide⟩, fun g g0 g1 => absurd g1 (by simp [d00]; omega)⟩, ⟨fun g g0 g1 => absurd g1 (by simp [d00]; omega), fun g g0 g1 => absurd g1 (by simp [d00]; omega)⟩, fun g g0 g1 => absurd g1 (by simp [d00]; omega)⟩, ⟨fun k k0 k1 => by rw [c51 k k0 k1]; decide, by rw [c16]; decide, by rw [c17]; decide, by rw [c17]; decide⟩, ⟨fun k k0 k1 => .inl (c46 k k0), .inl ⟨rfl, eno', fun k k0 k1 => c46 k (by omega)⟩⟩⟩
    · rcases hr with rfl | rfl | rfl
      · show 16 ≤ sN S18 (adr 52) ∧ sN S18 (adr 52) ≤ 1002; rw [nS 52 (.inl rfl)]; decide
      · show 16 ≤ sN S18 (adr 53) ∧ sN S18 (adr 53) ≤ 1002; rw [nS 53 (.inr (.inl rfl))]; decide
      · show 16 ≤ sN S18 (adr 54) ∧ sN S18 (adr 54) ≤ 1002; rw [nS 54 (.inr (.inr rfl))]; decide
    · rcases hs with rfl | rfl
      · exact al 31 (by decide) (by decide) als.1
      · exact al 33 (by decide) (by decide) als.2
  have xr := ref_start hm
  obtain ⟨⟨h1, h2⟩, h3, h4, h5, h6⟩ := hm
  have lk : LKo m c 8 8 0 (fun _ => usualV) (fun _ => (0, 0, 0)) [] [] d00 [] false := by
    refine ⟨⟨h1, h2, fun z => (nomatch z)⟩, ⟨h3 11 (by decide) (by decide) (by decide), fun k k0 k1 => ?_, fun k k0 k1 => by omega, fun k k0 k1 => by omega⟩, ⟨h3 13 (by decide) (by decide) (by decide), fun k k0 k1 => absurd k1 (by simp; omega)⟩, ⟨h3 15 (by decide) (by decide) (by decide), fun k k0 k1 => absurd k1 (by simp; omega)⟩, ⟨by rw [h3 16 (by decide) (by decide) (by decide), c16], by rw [h3 39 (by decide) (by decide) (by decide), c17], fun k k0 k1 => by rw [h5 k k0 k1, c51 k k0 k1]⟩, ⟨⟨h6 30 rfl (by decide) (by decide) 0 (by decide), fun g g0 g1 => absurd g1 (by simp [d00]; omega)⟩, ⟨h6 30 rfl (by decide) (by decide) 1 (by decide), fun g g0 g1 => absurd g1 (by simp [d00]; omega)⟩⟩, fun kd k0 k1 => by rw [h6 42 rfl (by decide) (by decide) kd (by omega), c46 kd (by omega)], fun kd k0 k1 k2 => by rw [h6 42 rfl (by decide) (by decide) kd (by omega)] at k2; exact absurd k2 (by decide)⟩
    have : k = 0 := by omega
    rw [this]
    funext j
    unfold gv vec
    by_cases y : 0 ≤ j ∧ j < 67
    · rw [if_pos y, show 67 * (0 : Int) + j = j by omega]; exact h4 j y.1 y.2
    · rw [if_neg y]; exact (uo.2.1 j y).symm
  exact ⟨c, m, 8, 8, usualV, 0, fun _ => usualV, fun _ => (0, 0, 0), [], [], yb0 adr, fun _ => D.2.2.1 106, d00, [], ⟨hc, hx, fun a ha n hn e => frA _ (a5 n (.inl hn)) (by rw [e]; exact ha)⟩, ⟨cs, fun a ha => by
    simp only [List.mem_cons, List.not_mem_nil, or_false] at ha
    rcases ha with z | z
    · rw [z]; exact ⟨Or.inl m14.2.1, m14.2.2⟩
    · rw [z]; exact ⟨Or.inl m17.1, m17.2⟩⟩, hp, cl, xr, lk⟩
end
