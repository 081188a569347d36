section
variable {F R : Int} {v sol : Int → Int}
theorem eh_spec (v : Int → Int) : ∀ (d : Nat) (kind pieces k : Int), (ehL v kind pieces k d).2 = pieces + sumL (fun j => if v j = 0 then 0 else 1) k d ∧
    (((ehL v kind pieces k d).1 = kind ∧ ∀ j, k ≤ j → j < k + d → inB (v j) 2 5 = false) ∨ ∃ j, k ≤ j ∧ j < k + d ∧ inB (v j) 2 5 = true ∧ (ehL v kind pieces k d).1 = v j)
  | 0, kind, pieces, k => ⟨by show pieces = _; unfold sumL; omega, .inl ⟨rfl, fun j h1 h2 => by omega⟩⟩
  | d + 1, kind, pieces, k => by
    obtain ⟨a, b⟩ := eh_spec v d (if inB (v k) 2 5 = true then v k else kind) (pieces + if v k = 0 then 0 else 1) (k + 1)
    rw [show ehL v kind pieces k (d + 1) = ehL v (if inB (v k) 2 5 = true then v k else kind) (pieces + if v k = 0 then 0 else 1) (k + 1) d from rfl]
    refine ⟨by rw [a, show sumL (fun j => if v j = 0 then (0 : Int) else 1) k (d + 1) = (if v k = 0 then 0 else 1) + sumL (fun j => if v j = 0 then (0 : Int) else 1) (k + 1) d from rfl, Int.add_assoc], ?_⟩
    rcases b with ⟨b1, b2⟩ | ⟨j, j0, j1, j2, j3⟩
    · cases c : inB (v k) 2 5
      · rw [c, if_neg (by simp)] at b1
        refine .inl ⟨by rw [if_neg (by simp)]; exact b1, fun j j0 j1 => ?_⟩
        by_cases e : j = k
        · rw [e]; exact c
        · exact b2 j (by omega) (by omega)
      · rw [c, if_pos rfl] at b1
        exact .inr ⟨k, by omega, by omega, c, by rw [if_pos rfl]; exact b1⟩
    · exact .inr ⟨j, by omega, by omega, j2, j3⟩
theorem oth_cnt (b : BFR F R) (hv : okV F R v) (hb : brd F R v) (hp : properB F R v = true) : cntP F R v = zcnt (othB v) + 2 := by
  have hn := FR_r b.1.1 b.1.2 b.2.1 b.2.2
  have hn' : 0 ≤ F * R ∧ F * R ≤ 64 := by omega
  have pp := hp
  unfold properB at pp
  simp only [Bool.and_eq_true, decide_eq_true_eq] at pp
  obtain ⟨⟨⟨⟨c1, c7⟩, -⟩, -⟩, -⟩ := pp
  rw [← cnt_z hn' hb (by decide)] at c1 c7
  rw [← zcnt_occ hn' hb]
  have e : zcnt (occB v) = zcnt (othB v) + zcnt (fun k => decide (v k = 1)) + zcnt (fun k => decide (v k = 7)) := by
    unfold zcnt
    rw [← sumL_add, ← sumL_add]
    refine sumL_congr _ _ fun k k0 k1 => ?_
    have r := hv.p k k0 (by omega)
    have key : ∀ x : Int, 0 ≤ x → x ≤ 12 → (if (!decide (x = 0)) = true then (1 : Int) else 0) = (if (!decide (x = 0) && !decide (kindO x = 1)) = true then (1 : Int) else 0) + (if decide (x = 1) = true then (1 : Int) else 0) + (if decide (x = 7) = true then (1 : Int) else 0) := by
      intro x x0 x1
      rcases (show x = 0 ∨ x = 1 ∨ x = 2 ∨ x = 3 ∨ x = 4 ∨ x = 5 ∨ x = 6 ∨ x = 7 ∨ x = 8 ∨ x = 9 ∨ x = 10 ∨ x = 11 ∨ x = 12 by omega) with rfl | rfl | rfl | rfl | rfl | rfl | rfl | rfl | rfl | rfl | rfl | rfl | rfl <;> decide
    exact key (v k) r.1 r.2
  omega
theorem uniq_cnt {P : Int → Bool} {q j : Int} (h : zcnt P = 1) (hq : 0 ≤ q ∧ q < 64) (hj : 0 ≤ j ∧ j < 64) (h1 : P q = true) (h2 : P j = true) : j = q := by
  by_cases e : j = q
  · exact e
  · exfalso
    have s := sum_one (f := fun k => if P k = true then (1 : Int) else 0) (g := fun k => if (P k && !decide (k = q)) = true then (1 : Int) else 0) (q := q) 64 0 (fun k _ _ kq => by rw [decide_eq_false kq, Bool.not_false, Bool.and_true]) hq.1 (by omega)
    rw [decide_eq_true rfl, h1, if_pos rfl, Bool.not_true, Bool.and_false, if_neg (by simp)] at s
    have p1 := sum_pos (p := fun k => P k && !decide (k = q)) (q := j) (by rw [h2, decide_eq_false e]; rfl) 64 0 hj.1 (by omega)
    have : zcnt P = sumL (fun k => if P k = true then (1 : Int) else 0) 0 64 := rfl
    omega
/-- the ending that stands on the board, by both -/
theorem kof_en (b : BFR F R) (hv : okV F R v) (hb : brd F R v) : enB F R sol v = (if kofB F R v ≠ -1 ∧ sol (kofB F R v) ≠ 0 then kofB F R v else 0) ∧ (kofB F R v ≠ -1 → enP F R (kofB F R v) v = lowO v ∧ v (lowO v) = kofB F R v ∧ (0 ≤ lowO v ∧ lowO v < F * R)) := by
  have hn := FR_r b.1.1 b.1.2 b.2.1 b.2.2
  obtain ⟨e1, e2⟩ := eh_spec v (F * R).toNat 0 0 0
  have e1 : (ehL v 0 0 0 (F * R).toNat).2 = cntP F R v := by rw [e1, Int.zero_add]; rfl
  have inN : ∀ j, 0 ≤ j → j < 64 → othB v j = true → j < F * R := by
    intro j j0 j1 h
    by_cases l : j < F * R
    · exact l
    · unfold othB occB at h
      rw [hb j (by omega) j1] at h
      simp at h
  by_cases c : kofB F R v ≠ -1
  · obtain ⟨⟨k1, k2, k3, k4, k5⟩, k6, k7, k8⟩ := kofB_p c
    obtain ⟨o1, o2, o3, -⟩ := oth_ex (v := v) (by omega)
    have oN := inN _ o2 o1 o3
    -- the one piece is White's
    have wh : v (lowO v) = kindO (v (lowO v)) := by
      unfold noneB at k2
      have : ¬ ∀ j : Int, 0 ≤ j → j < 0 + ((64 : Nat) : Int) → (!(othB v j && isOfB (v j) 1)) = true := by
        rw [← allL_iff, k2]; simp
      have ex : ∃ j : Int, 0 ≤ j ∧ j < 64 ∧ othB v j = true ∧ isOfB (v j) 1 = true := by
        apply Classical.byContradiction
        intro ne
        apply this
        intro j j0 j1
        cases q : (othB v j && isOfB (v j) 1)
        · rfl
        · rw [Bool.and_eq_true] at q
          exact absurd ⟨j, j0, by omega, q.1, q.2⟩ ne
      obtain ⟨j, j0, j1, j2, j3⟩ := ex
      have := uniq_cnt k1 ⟨o2, o1⟩ ⟨j0, j1⟩ o3 j2
      rw [this] at j3
      unfold isOfB at j3
      unfold kindO
      split at j3
      · cases j3
      · split at j3
        · simp at j3
        · rw [if_pos (by omega)]
    have vk : v (lowO v) = kofB F R v := by rw [k6]; exact wh
    have only : ∀ j, 0 ≤ j → j < 64 → inB (v j) 2 5 = true → j = lowO v := by
      intro j j0 j1 h
      have := inB_iff.mp h
      refine uniq_cnt k1 ⟨o2, o1⟩ ⟨j0, j1⟩ o3 ?_
      unfold othB occB
      have kn : kindO (v j) ≠ 1 := by unfold kindO; split <;> omega
      rw [decide_eq_false kn]
      simp; omega
    have i25 : inB (v (lowO v)) 2 5 = true := inB_iff.mpr (by omega)
    have eh : (ehL v 0 0 0 (F * R).toNat).1 = kofB F R v := by
      rcases e2 with ⟨-, z⟩ | ⟨j, j0, j1, j2, j3⟩
      · rw [z _ o2 (by omega)] at i25; exact nomatch i25
      · rw [j3, only j j0 (by omega) j2, vk]
    have oc := oth_cnt b hv hb k5
    refine ⟨?_, fun _ => ⟨?_, vk, o2, oN⟩⟩
    · unfold enB
      rw [eh, e1]
      by_cases s : sol (kofB F R v) ≠ 0
      · rw [if_pos ⟨by omega, by omega, s, k3, k4, k5⟩, if_pos ⟨c, s⟩]
      · rw [if_neg (fun z => s z.2.2.1), if_neg (fun z => s z.2)]
    · unfold enP
      have g := findL_lt (p := fun j => decide (v j = kofB F R v)) (j := lowO v) (decide_eq_true vk) (F * R).toNat 0 o2 (by omega)
      have r := findL_r (fun j => decide (v j = kofB F R v)) 0 (F * R).toNat
      exact only _ r.1 (by omega) (by rw [of_decide_eq_true g.2]; exact inB_iff.mpr (by omega))
  · refine ⟨?_, fun z => absurd z c⟩
    rw [if_neg (fun z => c z.1)]
    unfold enB
    rw [if_neg]
    rintro ⟨h1, h2, h3, h4, h5, h6⟩
    apply c
    have oc := oth_cnt b hv hb h6
    rw [e1] at h2
    have k1 : zcnt (othB v) = 1 := by omega
    obtain ⟨o1, o2, o3, -⟩ := oth_ex (v := v) (by omega)
    rcases e2 with ⟨z, -⟩ | ⟨j, j0, j1, j2, j3⟩
    · exact absurd z h1
    · have r := inB_iff.mp j2
      have kn : kindO (v j) = v j := by unfold kindO; rw [if_pos (by omega)]
      have oj : othB v j = true := by
        unfold othB occB
        rw [kn, decide_eq_false (show ¬ v j = 1 by omega)]
        simp; omega
      have ej := uniq_cnt k1 ⟨o2, o1⟩ ⟨j0, by omega⟩ o3 oj
      have nn : noneB (fun k => othB v k && isOfB (v k) 1) = false := by
        cases q : noneB (fun k => othB v k && isOfB (v k) 1)
        · rfl
        · unfold noneB at q
          rw [allL_iff] at q
          have this : (!(othB v j && isOfB (v j) 1)) = true := q j j0 (by omega)
          rw [oj] at this
          unfold isOfB at this
          rw [if_neg (by omega), if_neg (by omega)] at this
          simp at this
      unfold kofB
      rw [← ej, kn, if_pos ⟨⟨k1, nn, h4, h5, h6⟩, by omega, by omega⟩]
      omega
end
