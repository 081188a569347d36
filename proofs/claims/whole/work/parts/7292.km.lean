section
variable {D : wD} {S U V : wS} {o : Nat → Nat} {x : Nat} {A : Nat → Nat} {b L : Nat} {xs : Nat → Int32} {c : cM} {m : xM}
/-- THE LAW HOLDS ON EVERY SCRIPT -/
theorem law_main (hL : L ≤ 2560) (hD : wDok D b L xs) : wp_L_law_0 D (fun r _ => r = 1) 601024 7293034 D.2.2.2 b := by
  unfold wp_L_law_0
  refine ⟨by decide, by decide, fun y1 hy1 S2 e2 => ⟨100, 20000, by decide, by decide, ?_⟩⟩
  have x2 : EX D D.2.2.2 S2 [] := by rw [e2]; exact EX.rf.nA hy1 16 0
  have n1 : y1 ∉ D.2.1 := fun z => hy1 (Or.inr z)
  have k106 := hD.2.2.1
  refine q_made ⟨by rw [e2]; exact nA_l _ _ _ _, by rw [e2]; exact nA_k _ _ _ _, by rw [e2]; exact nA_n _ _ _ _⟩ ⟨by decide, by decide⟩ ⟨k106.1, by rw [x2.k (Or.inr k106.1)]; exact k106.2.1, by rw [x2.n (Or.inr k106.1)]; exact k106.2.2, fun e => n1 (by rw [← e]; exact k106.1)⟩ (fun U o he cc e0 => ?_) (fun U adr hN c c1 s1 s0 hB pa pg c51 c16 c17 => ?_)
  · have e1 : EX D D.2.2.2 U [y1] := x2.trans he (fun _ _ z => absurd z List.not_mem_nil) (fun _ _ z => z)
    have cU : CST D U := CST.fresh e1 (fun a ha => by rw [List.mem_singleton.mp ha]; exact hy1)
    exact ⟨fun c => new_st hD cU cc c (by decide) rfl (by decide) (by decide), fun c => new_st hD cU cc c (by decide) rfl (by decide) (by decide), new_rw hD cU cc⟩
  · refine ⟨by decide, by decide, fun y8 hy8 S9 e9 => ⟨by decide, by decide, ?_⟩⟩
    have x9 : EX D (cS U adr c) S9 [] := by rw [e9]; exact EX.rf.nA hy8 17 0
    refine q_initR ⟨by rw [e9]; exact nA_l _ _ _ _, by rw [e9]; exact nA_k _ _ _ _, by rw [e9]; exact va_up_self _ _ _⟩ (fun U2 A m hX x9' hA hm => ?_)
    refine ⟨by decide, by decide, by decide, by decide, fun y14 hy14 S15 e15 => ⟨by decide, by decide, by decide, by decide, fun y17 hy17 S18 e18 => ⟨513, ?_⟩⟩⟩
    have hR := rel_start hD hy1 x2 hN s1 s0 hB pa pg c51 c16 c17 hy8 x9 hX x9' hA hm hy14 e15 hy17 e18
    have q1 : ((1 : Int32)).toNatClampNeg = 1 := rfl
    have hz : (0 : Int32) = iI (5 * ((0 : Nat) : Int)) := by decide
    have ha := hN.1
    rw [q1, ← ha]
    generalize hk : (513 : Nat) = N
    rw [hz]
    exact law_loop hD hL N (L / 5) 0 false _ _ S18 (by omega) (by omega) hR (by omega) (by show 12000 * (L / 5) + 171881 ≤ _; omega)
end
