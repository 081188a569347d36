theorem dL_forcesMate_0 : decode cL_forcesMate 0 = .ok (.aload_n 1, 1) := by decide +kernel
theorem dL_forcesMate_1 : decode cL_forcesMate 1 = .ok (.iconst 0, 1) := by decide +kernel
theorem dL_forcesMate_2 : decode cL_forcesMate 2 = .ok (.aload_n 0, 1) := by decide +kernel
theorem dL_forcesMate_3 : decode cL_forcesMate 3 = .ok (.invokevirtual 138, 3) := by decide +kernel
theorem dL_forcesMate_6 : decode cL_forcesMate 6 = .ok (.i2l, 1) := by decide +kernel
theorem dL_forcesMate_7 : decode cL_forcesMate 7 = .ok (.lastore, 1) := by decide +kernel
theorem dL_forcesMate_8 : decode cL_forcesMate 8 = .ok (.goto 6, 3) := by decide +kernel
theorem dL_forcesMate_11 : decode cL_forcesMate 11 = .ok (.astore_n 2, 1) := by decide +kernel
theorem dL_forcesMate_12 : decode cL_forcesMate 12 = .ok (.iconst 1, 1) := by decide +kernel
theorem dL_forcesMate_13 : decode cL_forcesMate 13 = .ok (.ireturn, 1) := by decide +kernel
theorem dL_forcesMate_14 : decode cL_forcesMate 14 = .ok (.iconst 0, 1) := by decide +kernel
theorem dL_forcesMate_15 : decode cL_forcesMate 15 = .ok (.ireturn, 1) := by decide +kernel
theorem dL_keyCount_0 : decode cL_keyCount 0 = .ok (.aload_n 1, 1) := by decide +kernel
theorem dL_keyCount_1 : decode cL_keyCount 1 = .ok (.iconst 0, 1) := by decide +kernel
theorem dL_keyCount_2 : decode cL_keyCount 2 = .ok (.aload_n 0, 1) := by decide +kernel
theorem dL_keyCount_3 : decode cL_keyCount 3 = .ok (.invokevirtual 141, 3) := by decide +kernel
theorem dL_keyCount_6 : decode cL_keyCount 6 = .ok (.i2l, 1) := by decide +kernel
theorem dL_keyCount_7 : decode cL_keyCount 7 = .ok (.lastore, 1) := by decide +kernel
theorem dL_keyCount_8 : decode cL_keyCount 8 = .ok (.goto 6, 3) := by decide +kernel
theorem dL_keyCount_11 : decode cL_keyCount 11 = .ok (.astore_n 2, 1) := by decide +kernel
theorem dL_keyCount_12 : decode cL_keyCount 12 = .ok (.iconst 1, 1) := by decide +kernel
theorem dL_keyCount_13 : decode cL_keyCount 13 = .ok (.ireturn, 1) := by decide +kernel
theorem dL_keyCount_14 : decode cL_keyCount 14 = .ok (.iconst 0, 1) := by decide +kernel
theorem dL_keyCount_15 : decode cL_keyCount 15 = .ok (.ireturn, 1) := by decide +kernel
theorem dL_firstKey_0 : decode cL_firstKey 0 = .ok (.aload_n 1, 1) := by decide +kernel
theorem dL_firstKey_1 : decode cL_firstKey 1 = .ok (.iconst 0, 1) := by decide +kernel
theorem dL_firstKey_2 : decode cL_firstKey 2 = .ok (.aload_n 0, 1) := by decide +kernel
theorem dL_firstKey_3 : decode cL_firstKey 3 = .ok (.invokevirtual 144, 3) := by decide +kernel
theorem dL_firstKey_6 : decode cL_firstKey 6 = .ok (.i2l, 1) := by decide +kernel
theorem dL_firstKey_7 : decode cL_firstKey 7 = .ok (.lastore, 1) := by decide +kernel
theorem dL_firstKey_8 : decode cL_firstKey 8 = .ok (.goto 9, 3) := by decide +kernel
theorem dL_firstKey_11 : decode cL_firstKey 11 = .ok (.astore_n 2, 1) := by decide +kernel
theorem dL_firstKey_12 : decode cL_firstKey 12 = .ok (.iconst 1, 1) := by decide +kernel
theorem dL_firstKey_13 : decode cL_firstKey 13 = .ok (.ireturn, 1) := by decide +kernel
theorem dL_firstKey_14 : decode cL_firstKey 14 = .ok (.astore_n 2, 1) := by decide +kernel
theorem dL_firstKey_15 : decode cL_firstKey 15 = .ok (.iconst 2, 1) := by decide +kernel
theorem dL_firstKey_16 : decode cL_firstKey 16 = .ok (.ireturn, 1) := by decide +kernel
theorem dL_firstKey_17 : decode cL_firstKey 17 = .ok (.iconst 0, 1) := by decide +kernel
theorem dL_firstKey_18 : decode cL_firstKey 18 = .ok (.ireturn, 1) := by decide +kernel
theorem dL_solve_0 : decode cL_solve 0 = .ok (.aload_n 2, 1) := by decide +kernel
theorem dL_solve_1 : decode cL_solve 1 = .ok (.iconst 0, 1) := by decide +kernel
theorem dL_solve_2 : decode cL_solve 2 = .ok (.aload_n 0, 1) := by decide +kernel
theorem dL_solve_3 : decode cL_solve 3 = .ok (.iload_n 1, 1) := by decide +kernel
theorem dL_solve_4 : decode cL_solve 4 = .ok (.invokevirtual 147, 3) := by decide +kernel
theorem dL_solve_7 : decode cL_solve 7 = .ok (.i2l, 1) := by decide +kernel
theorem dL_solve_8 : decode cL_solve 8 = .ok (.lastore, 1) := by decide +kernel
theorem dL_solve_9 : decode cL_solve 9 = .ok (.goto 9, 3) := by decide +kernel
theorem dL_solve_12 : decode cL_solve 12 = .ok (.astore_n 3, 1) := by decide +kernel
theorem dL_solve_13 : decode cL_solve 13 = .ok (.iconst 1, 1) := by decide +kernel
theorem dL_solve_14 : decode cL_solve 14 = .ok (.ireturn, 1) := by decide +kernel
theorem dL_solve_15 : decode cL_solve 15 = .ok (.astore_n 3, 1) := by decide +kernel
theorem dL_solve_16 : decode cL_solve 16 = .ok (.iconst 2, 1) := by decide +kernel
theorem dL_solve_17 : decode cL_solve 17 = .ok (.ireturn, 1) := by decide +kernel
theorem dL_solve_18 : decode cL_solve 18 = .ok (.iconst 0, 1) := by decide +kernel
theorem dL_solve_19 : decode cL_solve 19 = .ok (.ireturn, 1) := by decide +kernel
theorem dL_endingValue_0 : decode cL_endingValue 0 = .ok (.aload_n 1, 1) := by decide +kernel
theorem dL_endingValue_1 : decode cL_endingValue 1 = .ok (.iconst 0, 1) := by decide +kernel
theorem dL_endingValue_2 : decode cL_endingValue 2 = .ok (.aload_n 0, 1) := by decide +kernel
theorem dL_endingValue_3 : decode cL_endingValue 3 = .ok (.invokevirtual 150, 3) := by decide +kernel
theorem dL_endingValue_6 : decode cL_endingValue 6 = .ok (.i2l, 1) := by decide +kernel
theorem dL_endingValue_7 : decode cL_endingValue 7 = .ok (.lastore, 1) := by decide +kernel
theorem dL_endingValue_8 : decode cL_endingValue 8 = .ok (.goto 6, 3) := by decide +kernel
theorem dL_endingValue_11 : decode cL_endingValue 11 = .ok (.astore_n 2, 1) := by decide +kernel
theorem dL_endingValue_12 : decode cL_endingValue 12 = .ok (.iconst 1, 1) := by decide +kernel
theorem dL_endingValue_13 : decode cL_endingValue 13 = .ok (.ireturn, 1) := by decide +kernel
theorem dL_endingValue_14 : decode cL_endingValue 14 = .ok (.iconst 0, 1) := by decide +kernel
theorem dL_endingValue_15 : decode cL_endingValue 15 = .ok (.ireturn, 1) := by decide +kernel
theorem dL_longest_0 : decode cL_longest 0 = .ok (.aload_n 2, 1) := by decide +kernel
theorem dL_longest_1 : decode cL_longest 1 = .ok (.iconst 0, 1) := by decide +kernel
theorem dL_longest_2 : decode cL_longest 2 = .ok (.aload_n 0, 1) := by decide +kernel
theorem dL_longest_3 : decode cL_longest 3 = .ok (.iload_n 1, 1) := by decide +kernel
theorem dL_longest_4 : decode cL_longest 4 = .ok (.invokevirtual 153, 3) := by decide +kernel
theorem dL_longest_7 : decode cL_longest 7 = .ok (.i2l, 1) := by decide +kernel
theorem dL_longest_8 : decode cL_longest 8 = .ok (.lastore, 1) := by decide +kernel
theorem dL_longest_9 : decode cL_longest 9 = .ok (.goto 9, 3) := by decide +kernel
theorem dL_longest_12 : decode cL_longest 12 = .ok (.astore_n 3, 1) := by decide +kernel
theorem dL_longest_13 : decode cL_longest 13 = .ok (.iconst 1, 1) := by decide +kernel
theorem dL_longest_14 : decode cL_longest 14 = .ok (.ireturn, 1) := by decide +kernel
theorem dL_longest_15 : decode cL_longest 15 = .ok (.astore_n 3, 1) := by decide +kernel
theorem dL_longest_16 : decode cL_longest 16 = .ok (.iconst 2, 1) := by decide +kernel
theorem dL_longest_17 : decode cL_longest 17 = .ok (.ireturn, 1) := by decide +kernel
theorem dL_longest_18 : decode cL_longest 18 = .ok (.iconst 0, 1) := by decide +kernel
theorem dL_longest_19 : decode cL_longest 19 = .ok (.ireturn, 1) := by decide +kernel
theorem dL_asked_0 : decode cL_asked 0 = .ok (.aload_n 1, 1) := by decide +kernel
theorem dL_asked_1 : decode cL_asked 1 = .ok (.iconst 0, 1) := by decide +kernel
theorem dL_asked_2 : decode cL_asked 2 = .ok (.aload_n 0, 1) := by decide +kernel
theorem dL_asked_3 : decode cL_asked 3 = .ok (.invokevirtual 156, 3) := by decide +kernel
theorem dL_asked_6 : decode cL_asked 6 = .ok (.i2l, 1) := by decide +kernel
theorem dL_asked_7 : decode cL_asked 7 = .ok (.lastore, 1) := by decide +kernel
theorem dL_asked_8 : decode cL_asked 8 = .ok (.goto 6, 3) := by decide +kernel
theorem dL_asked_11 : decode cL_asked 11 = .ok (.astore_n 2, 1) := by decide +kernel
theorem dL_asked_12 : decode cL_asked 12 = .ok (.iconst 1, 1) := by decide +kernel
theorem dL_asked_13 : decode cL_asked 13 = .ok (.ireturn, 1) := by decide +kernel
theorem dL_asked_14 : decode cL_asked 14 = .ok (.iconst 0, 1) := by decide +kernel
theorem dL_asked_15 : decode cL_asked 15 = .ok (.ireturn, 1) := by decide +kernel
theorem dL_answer_0 : decode cL_answer 0 = .ok (.aload_n 2, 1) := by decide +kernel
theorem dL_answer_1 : decode cL_answer 1 = .ok (.iconst 0, 1) := by decide +kernel
theorem dL_answer_2 : decode cL_answer 2 = .ok (.aload_n 0, 1) := by decide +kernel
theorem dL_answer_3 : decode cL_answer 3 = .ok (.iload_n 1, 1) := by decide +kernel
theorem dL_answer_4 : decode cL_answer 4 = .ok (.invokevirtual 159, 3) := by decide +kernel
theorem dL_answer_7 : decode cL_answer 7 = .ok (.i2l, 1) := by decide +kernel
theorem dL_answer_8 : decode cL_answer 8 = .ok (.lastore, 1) := by decide +kernel
theorem dL_answer_9 : decode cL_answer 9 = .ok (.goto 6, 3) := by decide +kernel
theorem dL_answer_12 : decode cL_answer 12 = .ok (.astore_n 3, 1) := by decide +kernel
theorem dL_answer_13 : decode cL_answer 13 = .ok (.iconst 1, 1) := by decide +kernel
theorem dL_answer_14 : decode cL_answer 14 = .ok (.ireturn, 1) := by decide +kernel
theorem dL_answer_15 : decode cL_answer 15 = .ok (.iconst 0, 1) := by decide +kernel
theorem dL_answer_16 : decode cL_answer 16 = .ok (.ireturn, 1) := by decide +kernel
theorem dL_meanLength_0 : decode cL_meanLength 0 = .ok (.aload_n 2, 1) := by decide +kernel
theorem dL_meanLength_1 : decode cL_meanLength 1 = .ok (.iconst 0, 1) := by decide +kernel
theorem dL_meanLength_2 : decode cL_meanLength 2 = .ok (.aload_n 0, 1) := by decide +kernel
theorem dL_meanLength_3 : decode cL_meanLength 3 = .ok (.iload_n 1, 1) := by decide +kernel
theorem dL_meanLength_4 : decode cL_meanLength 4 = .ok (.invokevirtual 163, 3) := by decide +kernel
theorem dL_meanLength_7 : decode cL_meanLength 7 = .ok (.dastore, 1) := by decide +kernel
theorem dL_meanLength_8 : decode cL_meanLength 8 = .ok (.goto 6, 3) := by decide +kernel
theorem dL_meanLength_11 : decode cL_meanLength 11 = .ok (.astore_n 3, 1) := by decide +kernel
theorem dL_meanLength_12 : decode cL_meanLength 12 = .ok (.iconst 1, 1) := by decide +kernel
theorem dL_meanLength_13 : decode cL_meanLength 13 = .ok (.ireturn, 1) := by decide +kernel
theorem dL_meanLength_14 : decode cL_meanLength 14 = .ok (.iconst 0, 1) := by decide +kernel
theorem dL_meanLength_15 : decode cL_meanLength 15 = .ok (.ireturn, 1) := by decide +kernel
theorem dL_shareWon_0 : decode cL_shareWon 0 = .ok (.aload_n 2, 1) := by decide +kernel
theorem dL_shareWon_1 : decode cL_shareWon 1 = .ok (.iconst 0, 1) := by decide +kernel
theorem dL_shareWon_2 : decode cL_shareWon 2 = .ok (.aload_n 0, 1) := by decide +kernel
theorem dL_shareWon_3 : decode cL_shareWon 3 = .ok (.iload_n 1, 1) := by decide +kernel
theorem dL_shareWon_4 : decode cL_shareWon 4 = .ok (.invokevirtual 167, 3) := by decide +kernel
theorem dL_shareWon_7 : decode cL_shareWon 7 = .ok (.f2d, 1) := by decide +kernel
theorem dL_shareWon_8 : decode cL_shareWon 8 = .ok (.dastore, 1) := by decide +kernel
theorem dL_shareWon_9 : decode cL_shareWon 9 = .ok (.goto 6, 3) := by decide +kernel
theorem dL_shareWon_12 : decode cL_shareWon 12 = .ok (.astore_n 3, 1) := by decide +kernel
theorem dL_shareWon_13 : decode cL_shareWon 13 = .ok (.iconst 1, 1) := by decide +kernel
theorem dL_shareWon_14 : decode cL_shareWon 14 = .ok (.ireturn, 1) := by decide +kernel
theorem dL_shareWon_15 : decode cL_shareWon 15 = .ok (.iconst 0, 1) := by decide +kernel
theorem dL_shareWon_16 : decode cL_shareWon 16 = .ok (.ireturn, 1) := by decide +kernel
def wp_L_forcesMate_0 (D : wD) (post : Int32 → wS → Prop)  (S : wS) (a0 : Nat) (a1 : Nat) : Prop :=
wp_X11_forcesMate D (fun r_1 S_2 => 
a1 ∈ sL S_2 ∧ vp_in (0 : Int32) (sN S_2 a1) ∧
∀ S_4 : wS, S_4 = uJ S_2 a1 ((0 : Int32)).toNatClampNeg (Int32.toInt64 r_1) →
post (0 : Int32) S_4) (fun E_9 S9 => (E_9 = "java/lang/IllegalStateException" ∧ post (1 : Int32) S9)) S a0
abbrev r_L_forcesMate : Room := { frames := 8, cells := 1, slots := 6, locals := 216 }
def wp_L_forcesMate (D : wD) (post : Int32 → wS → Prop) (S : wS) (a0 : Nat) (a1 : Nat) : Prop := wp_L_forcesMate_0 D post S a0 a1
set_option maxHeartbeats 4000000 in
set_option maxRecDepth 100000 in
theorem t_L_forcesMate_0 {p : Program} {l : Launch} {e : Env} {s : State} {m : MethodId} {args : Array Value} {below : List Frame} {meth : Method} {c : Code} {D : wD} {cy : Nat → ClassId} {X : va_W} {A : Nat → Prop} {S0 : wS} {post : Int32 → wS → Prop} (F : CallFix p m c cL_forcesMate 3 s args wz_L_forcesMate RL) (hr : meth.sig.returnType = (some .int)) (hlocks : meth.locks = false) (hK : wK D cy A s) (hl0 : l.stackTraces = false) (htab : c.exceptionTable.toList.map xhF = [(0, 8, 11, 20)]) : ∀ {S : wS} {H : Heap} {locs : List Loc} {ls : Array Slot} {a0 : Nat} {a1 : Nat}, wp_L_forcesMate_0 D post S a0 a1 → wO D cy X A s.heap S H locs → wX D S0 S → lv_has ls 3 [(0, .ref a0), (1, .ref a1)] → wM D S a0 → sK S a0 = 16 → wM D S a1 → sK S a1 = 22 → W p l e r_L_forcesMate s m args below meth c H locs 0 0 (vx_MQ below (va_Qi (fun r S9 => wX D S0 S9 ∧ post r S9) (wB D cy X A) A) (wEx D cy X A (fun _ _ => False)) args s 1 6 A) (F0 m 0 ls []) := by
  obtain ⟨hx, hb, hml, hown, hts⟩ := id F
  have hwg : ∀ w ∈ WG, w.before args s = true := fun w h => hts w (List.mem_cons_of_mem _ h)
  intro S H locs ls a0 a1 hp hW hE hl hL_a0 hK_a0 hL_a1 hK_a1
  unfold wp_L_forcesMate_0 at hp
  refine lv_aload_n hx hb dL_forcesMate_0 rfl (lv_at hl 1 rfl) ?_
  refine lv_iconst (v := 0) hx hb dL_forcesMate_1 (by decide) ?_
  refine lv_aload_n hx hb dL_forcesMate_2 rfl (lv_at hl 0 rfl) ?_
  refine x_callI (vx_runV (As := []) (rest := [.int (0 : Int32), .ref a1]) F (c_X11_forcesMate l hl0 hL_a0 hK_a0 hp H.size) (cwV (C := RX11) 0 hts (wg_V wm_RL_138 wy_X11_forcesMate) rfl rfl rfl (by decide +kernel) ⟨Nat.le_of_ble_eq_true rfl, Nat.le_of_ble_eq_true rfl⟩) (w_preV hK hW hL_a0 hK_a0 (by decide) rfl) rfl rfl hl.1 rfl (lv_room (Nat.le_of_ble_eq_true rfl)) dL_forcesMate_3 ⟨Nat.le_of_ble_eq_true rfl, Nat.le_of_ble_eq_true rfl⟩) hW (fun E ce q9 S9 H locs hp hW h1 h2 h3 => ?_) (fun r_1 S_2 H locs hp hW => ?_)
  · obtain ⟨hX_9, hp⟩ := hp
    have hE := hE.trans hX_9
    obtain ⟨z0, htl, ez0⟩ := x_tab1 htab
    rcases hp with ⟨hEe, hp⟩
    · subst hEe
      refine x_catch (nm := "java/lang/IllegalStateException") F hK [] z0 [] (by rw [htl]; rfl) ez0 (by decide) (by decide) (fun z hz => nomatch hz) (hwg _ wc_RL_20) (by decide +kernel) h1 h2 h3 ?_
      refine W.widen (k := 1) (n := 6) (by decide) (by decide) ?_
      refine lv_astore_n (lv' := [(2, .ref q9), (0, .ref a0), (1, .ref a1)]) hx hb dL_forcesMate_11 rfl hl (by decide) rfl (fun ls hl => ?_)
      refine lv_iconst (v := 1) hx hb dL_forcesMate_12 (by decide) ?_
      refine vx_ret ?_
      exact w_iret hx hb hr hlocks hW ⟨hE, hp⟩ dL_forcesMate_13
  · obtain ⟨hX_S_2, hp⟩ := hp
    refine W.widen (k := 1) (n := 6) (by decide) (by decide) ?_
    have hE := hE.trans hX_S_2
    have hK_a0 : sK S_2 a0 = 16 := (hX_S_2.2 a0 hL_a0).1.trans hK_a0
    have hL_a0 : wM D S_2 a0 := hX_S_2.M hL_a0
    have hK_a1 : sK S_2 a1 = 22 := (hX_S_2.2 a1 hL_a1).1.trans hK_a1
    have hL_a1 : wM D S_2 a1 := hX_S_2.M hL_a1
    refine lv_i2l (v := (Int32.toInt64 r_1)) hx hb dL_forcesMate_6 rfl ?_
    obtain ⟨h_3m, h_3, hp⟩ := hp
    refine w_lst F hK hW h_3m hK_a1 h_3 dL_forcesMate_7 (fun H locs hW => ?_)
    obtain ⟨S_4, eS_4⟩ : ∃ z : wS, z = uJ S_2 a1 ((0 : Int32)).toNatClampNeg (Int32.toInt64 r_1) := ⟨_, rfl⟩
    rw [← eS_4] at hW
    replace hp := hp S_4 eS_4
    have hX_S_4 : wX D S_2 S_4 := by rw [eS_4]; exact wX_uJ
    have hE := hE.trans hX_S_4
    have hK_a0 : sK S_4 a0 = 16 := (hX_S_4.2 a0 hL_a0).1.trans hK_a0
    have hL_a0 : wM D S_4 a0 := hX_S_4.M hL_a0
    have hK_a1 : sK S_4 a1 = 22 := (hX_S_4.2 a1 hL_a1).1.trans hK_a1
    have hL_a1 : wM D S_4 a1 := hX_S_4.M hL_a1
    refine lv_goto (tgt := 14) hx hb dL_forcesMate_8 (by decide) ?_
    refine lv_iconst (v := 0) hx hb dL_forcesMate_14 (by decide) ?_
    refine vx_ret ?_
    exact w_iret hx hb hr hlocks hW ⟨hE, hp⟩ dL_forcesMate_15
set_option maxHeartbeats 4000000 in
set_option maxRecDepth 100000 in
theorem c_L_forcesMate (l : Launch) {D : wD} {cy : Nat → ClassId} {X : va_W} {S0 : wS} {post : Int32 → wS → Prop} (hl0 : l.stackTraces = false) {a0 : Nat} {a1 : Nat} (hL_a0 : wM D S0 a0) (hK_a0 : sK S0 a0 = 16) (hL_a1 : wM D S0 a1) (hK_a1 : sK S0 a1 = 22) (hp : wp_L_forcesMate D post S0 a0 a1) : xI D cy X l yL_forcesMate wz_L_forcesMate r_L_forcesMate [.ref a0, .ref a1] S0 (fun r S9 => wX D S0 S9 ∧ post r S9) (fun _ _ => False) := by
  intro sz
  refine vx_ofWH (hh := [(0, 8, 11, 20)]) (cc := cL_forcesMate) (maxL := 3) (ret := (some .int)) (by decide) rfl ?_
  intro p e s m args below meth c s₁ B hml hv
  obtain ⟨rfl, hsz, hP, hK, hD0, hRO⟩ := hv
  have hts := atoms_spec (ws := wz_L_forcesMate) B.pre
  have hown : s.vm.findClass RL = some m.cls := findClass_of_methodNamed B.named
  subst hsz
  have hD := hD0.self (sz := s.heap.size)
  have F : CallFix p m c cL_forcesMate 3 s _ wz_L_forcesMate RL := ⟨B.exec, B.bytes, hml, hown, hts⟩
  have htab : c.exceptionTable.toList.map xhF = [(0, 8, 11, 20)] := by
    obtain ⟨m9, meth9, c9, g0, g1, g2, -, -, g3, -⟩ := Cond.codeWith_spec (hts _ List.mem_cons_self)
    cases Option.some.inj (g0.symm.trans B.named)
    cases Option.some.inj (g1.symm.trans B.method)
    cases Option.some.inj (g2.symm.trans (Stand.of_body B).code)
    exact g3
  have hr := B.returns
  have hlocks := B.notSynchronized
  generalize hAe : va_A (wL cy X S0) s.heap.size = A at hD hK ⊢
  have hA : ∀ q, s.heap.size ≤ q → A q := fun q h => by rw [← hAe]; exact Or.inr h
  have hW : wO D cy X A s.heap S0 s.heap [] := ⟨hP, hD, va_S.rf, hA, hRO⟩
  have hl := lv_entry ([.ref a0, .ref a1]) (n := 3) (Nat.le_of_ble_eq_true rfl)
  rw [lg_entry_eq]
  generalize (lg_sl ([.ref a0, .ref a1]) ++ List.replicate (3 - (lg_sl ([.ref a0, .ref a1])).length) Slot.unset).toArray = ls at hl ⊢
  have hl : lv_has ls 3 [(0, .ref a0), (1, .ref a1)] := hl
  unfold wp_L_forcesMate at hp
  exact t_L_forcesMate_0 F hr hlocks hK hl0 htab hp hW wX.rf (lv_sub hl [0, 1] rfl) hL_a0 hK_a0 hL_a1 hK_a1
def wp_L_keyCount_0 (D : wD) (post : Int32 → wS → Prop)  (S : wS) (a0 : Nat) (a1 : Nat) : Prop :=
wp_X11_keyCount D (fun r_1 S_2 => 
a1 ∈ sL S_2 ∧ vp_in (0 : Int32) (sN S_2 a1) ∧
∀ S_4 : wS, S_4 = uJ S_2 a1 ((0 : Int32)).toNatClampNeg (Int32.toInt64 r_1) →
post (0 : Int32) S_4) (fun E_9 S9 => (E_9 = "java/lang/IllegalStateException" ∧ post (1 : Int32) S9)) S a0
abbrev r_L_keyCount : Room := { frames := 8, cells := 1, slots := 6, locals := 216 }
def wp_L_keyCount (D : wD) (post : Int32 → wS → Prop) (S : wS) (a0 : Nat) (a1 : Nat) : Prop := wp_L_keyCount_0 D post S a0 a1
set_option maxHeartbeats 4000000 in
set_option maxRecDepth 100000 in
theorem t_L_keyCount_0 {p : Program} {l : Launch} {e : Env} {s : State} {m : MethodId} {args : Array Value} {below : List Frame} {meth : Method} {c : Code} {D : wD} {cy : Nat → ClassId} {X : va_W} {A : Nat → Prop} {S0 : wS} {post : Int32 → wS → Prop} (F : CallFix p m c cL_keyCount 3 s args wz_L_keyCount RL) (hr : meth.sig.returnType = (some .int)) (hlocks : meth.locks = false) (hK : wK D cy A s) (hl0 : l.stackTraces = false) (htab : c.exceptionTable.toList.map xhF = [(0, 8, 11, 20)]) : ∀ {S : wS} {H : Heap} {locs : List Loc} {ls : Array Slot} {a0 : Nat} {a1 : Nat}, wp_L_keyCount_0 D post S a0 a1 → wO D cy X A s.heap S H locs → wX D S0 S → lv_has ls 3 [(0, .ref a0), (1, .ref a1)] → wM D S a0 → sK S a0 = 16 → wM D S a1 → sK S a1 = 22 → W p l e r_L_keyCount s m args below meth c H locs 0 0 (vx_MQ below (va_Qi (fun r S9 => wX D S0 S9 ∧ post r S9) (wB D cy X A) A) (wEx D cy X A (fun _ _ => False)) args s 1 6 A) (F0 m 0 ls []) := by
  obtain ⟨hx, hb, hml, hown, hts⟩ := id F
  have hwg : ∀ w ∈ WG, w.before args s = true := fun w h => hts w (List.mem_cons_of_mem _ h)
  intro S H locs ls a0 a1 hp hW hE hl hL_a0 hK_a0 hL_a1 hK_a1
  unfold wp_L_keyCount_0 at hp
  refine lv_aload_n hx hb dL_keyCount_0 rfl (lv_at hl 1 rfl) ?_
  refine lv_iconst (v := 0) hx hb dL_keyCount_1 (by decide) ?_
  refine lv_aload_n hx hb dL_keyCount_2 rfl (lv_at hl 0 rfl) ?_
  refine x_callI (vx_runV (As := []) (rest := [.int (0 : Int32), .ref a1]) F (c_X11_keyCount l hl0 hL_a0 hK_a0 hp H.size) (cwV (C := RX11) 0 hts (wg_V wm_RL_141 wy_X11_keyCount) rfl rfl rfl (by decide +kernel) ⟨Nat.le_of_ble_eq_true rfl, Nat.le_of_ble_eq_true rfl⟩) (w_preV hK hW hL_a0 hK_a0 (by decide) rfl) rfl rfl hl.1 rfl (lv_room (Nat.le_of_ble_eq_true rfl)) dL_keyCount_3 ⟨Nat.le_of_ble_eq_true rfl, Nat.le_of_ble_eq_true rfl⟩) hW (fun E ce q9 S9 H locs hp hW h1 h2 h3 => ?_) (fun r_1 S_2 H locs hp hW => ?_)
  · obtain ⟨hX_9, hp⟩ := hp
    have hE := hE.trans hX_9
    obtain ⟨z0, htl, ez0⟩ := x_tab1 htab
    rcases hp with ⟨hEe, hp⟩
    · subst hEe
      refine x_catch (nm := "java/lang/IllegalStateException") F hK [] z0 [] (by rw [htl]; rfl) ez0 (by decide) (by decide) (fun z hz => nomatch hz) (hwg _ wc_RL_20) (by decide +kernel) h1 h2 h3 ?_
      refine W.widen (k := 1) (n := 6) (by decide) (by decide) ?_
      refine lv_astore_n (lv' := [(2, .ref q9), (0, .ref a0), (1, .ref a1)]) hx hb dL_keyCount_11 rfl hl (by decide) rfl (fun ls hl => ?_)
      refine lv_iconst (v := 1) hx hb dL_keyCount_12 (by decide) ?_
      refine vx_ret ?_
      exact w_iret hx hb hr hlocks hW ⟨hE, hp⟩ dL_keyCount_13
  · obtain ⟨hX_S_2, hp⟩ := hp
    refine W.widen (k := 1) (n := 6) (by decide) (by decide) ?_
    have hE := hE.trans hX_S_2
    have hK_a0 : sK S_2 a0 = 16 := (hX_S_2.2 a0 hL_a0).1.trans hK_a0
    have hL_a0 : wM D S_2 a0 := hX_S_2.M hL_a0
    have hK_a1 : sK S_2 a1 = 22 := (hX_S_2.2 a1 hL_a1).1.trans hK_a1
    have hL_a1 : wM D S_2 a1 := hX_S_2.M hL_a1
    refine lv_i2l (v := (Int32.toInt64 r_1)) hx hb dL_keyCount_6 rfl ?_
    obtain ⟨h_3m, h_3, hp⟩ := hp
    refine w_lst F hK hW h_3m hK_a1 h_3 dL_keyCount_7 (fun H locs hW => ?_)
    obtain ⟨S_4, eS_4⟩ : ∃ z : wS, z = uJ S_2 a1 ((0 : Int32)).toNatClampNeg (Int32.toInt64 r_1) := ⟨_, rfl⟩
    rw [← eS_4] at hW
    replace hp := hp S_4 eS_4
    have hX_S_4 : wX D S_2 S_4 := by rw [eS_4]; exact wX_uJ
    have hE := hE.trans hX_S_4
    have hK_a0 : sK S_4 a0 = 16 := (hX_S_4.2 a0 hL_a0).1.trans hK_a0
    have hL_a0 : wM D S_4 a0 := hX_S_4.M hL_a0
    have hK_a1 : sK S_4 a1 = 22 := (hX_S_4.2 a1 hL_a1).1.trans hK_a1
    have hL_a1 : wM D S_4 a1 := hX_S_4.M hL_a1
    refine lv_goto (tgt := 14) hx hb dL_keyCount_8 (by decide) ?_
    refine lv_iconst (v := 0) hx hb dL_keyCount_14 (by decide) ?_
    refine vx_ret ?_
    exact w_iret hx hb hr hlocks hW ⟨hE, hp⟩ dL_keyCount_15
set_option maxHeartbeats 4000000 in
set_option maxRecDepth 100000 in
theorem c_L_keyCount (l : Launch) {D : wD} {cy : Nat → ClassId} {X : va_W} {S0 : wS} {post : Int32 → wS → Prop} (hl0 : l.stackTraces = false) {a0 : Nat} {a1 : Nat} (hL_a0 : wM D S0 a0) (hK_a0 : sK S0 a0 = 16) (hL_a1 : wM D S0 a1) (hK_a1 : sK S0 a1 = 22) (hp : wp_L_keyCount D post S0 a0 a1) : xI D cy X l yL_keyCount wz_L_keyCount r_L_keyCount [.ref a0, .ref a1] S0 (fun r S9 => wX D S0 S9 ∧ post r S9) (fun _ _ => False) := by
  intro sz
  refine vx_ofWH (hh := [(0, 8, 11, 20)]) (cc := cL_keyCount) (maxL := 3) (ret := (some .int)) (by decide) rfl ?_
  intro p e s m args below meth c s₁ B hml hv
  obtain ⟨rfl, hsz, hP, hK, hD0, hRO⟩ := hv
  have hts := atoms_spec (ws := wz_L_keyCount) B.pre
  have hown : s.vm.findClass RL = some m.cls := findClass_of_methodNamed B.named
  subst hsz
  have hD := hD0.self (sz := s.heap.size)
  have F : CallFix p m c cL_keyCount 3 s _ wz_L_keyCount RL := ⟨B.exec, B.bytes, hml, hown, hts⟩
  have htab : c.exceptionTable.toList.map xhF = [(0, 8, 11, 20)] := by
    obtain ⟨m9, meth9, c9, g0, g1, g2, -, -, g3, -⟩ := Cond.codeWith_spec (hts _ List.mem_cons_self)
    cases Option.some.inj (g0.symm.trans B.named)
    cases Option.some.inj (g1.symm.trans B.method)
    cases Option.some.inj (g2.symm.trans (Stand.of_body B).code)
    exact g3
  have hr := B.returns
  have hlocks := B.notSynchronized
  generalize hAe : va_A (wL cy X S0) s.heap.size = A at hD hK ⊢
  have hA : ∀ q, s.heap.size ≤ q → A q := fun q h => by rw [← hAe]; exact Or.inr h
  have hW : wO D cy X A s.heap S0 s.heap [] := ⟨hP, hD, va_S.rf, hA, hRO⟩
  have hl := lv_entry ([.ref a0, .ref a1]) (n := 3) (Nat.le_of_ble_eq_true rfl)
  rw [lg_entry_eq]
  generalize (lg_sl ([.ref a0, .ref a1]) ++ List.replicate (3 - (lg_sl ([.ref a0, .ref a1])).length) Slot.unset).toArray = ls at hl ⊢
  have hl : lv_has ls 3 [(0, .ref a0), (1, .ref a1)] := hl
  unfold wp_L_keyCount at hp
  exact t_L_keyCount_0 F hr hlocks hK hl0 htab hp hW wX.rf (lv_sub hl [0, 1] rfl) hL_a0 hK_a0 hL_a1 hK_a1
def wp_L_firstKey_0 (D : wD) (post : Int32 → wS → Prop)  (S : wS) (a0 : Nat) (a1 : Nat) : Prop :=
wp_X11_firstKey D (fun r_1 S_2 => 
a1 ∈ sL S_2 ∧ vp_in (0 : Int32) (sN S_2 a1) ∧
∀ S_4 : wS, S_4 = uJ S_2 a1 ((0 : Int32)).toNatClampNeg (Int32.toInt64 r_1) →
post (0 : Int32) S_4) (fun E_9 S9 => (E_9 = "java/lang/IllegalStateException" ∧ post (1 : Int32) S9) ∨ (E_9 = "java/util/NoSuchElementException" ∧ post (2 : Int32) S9)) S a0
abbrev r_L_firstKey : Room := { frames := 8, cells := 2, slots := 12, locals := 216 }
def wp_L_firstKey (D : wD) (post : Int32 → wS → Prop) (S : wS) (a0 : Nat) (a1 : Nat) : Prop := wp_L_firstKey_0 D post S a0 a1
set_option maxHeartbeats 4000000 in
set_option maxRecDepth 100000 in
theorem t_L_firstKey_0 {p : Program} {l : Launch} {e : Env} {s : State} {m : MethodId} {args : Array Value} {below : List Frame} {meth : Method} {c : Code} {D : wD} {cy : Nat → ClassId} {X : va_W} {A : Nat → Prop} {S0 : wS} {post : Int32 → wS → Prop} (F : CallFix p m c cL_firstKey 3 s args wz_L_firstKey RL) (hr : meth.sig.returnType = (some .int)) (hlocks : meth.locks = false) (hK : wK D cy A s) (hl0 : l.stackTraces = false) (htab : c.exceptionTable.toList.map xhF = [(0, 8, 11, 20), (0, 8, 14, 115)]) : ∀ {S : wS} {H : Heap} {locs : List Loc} {ls : Array Slot} {a0 : Nat} {a1 : Nat}, wp_L_firstKey_0 D post S a0 a1 → wO D cy X A s.heap S H locs → wX D S0 S → lv_has ls 3 [(0, .ref a0), (1, .ref a1)] → wM D S a0 → sK S a0 = 16 → wM D S a1 → sK S a1 = 22 → W p l e r_L_firstKey s m args below meth c H locs 0 0 (vx_MQ below (va_Qi (fun r S9 => wX D S0 S9 ∧ post r S9) (wB D cy X A) A) (wEx D cy X A (fun _ _ => False)) args s 2 12 A) (F0 m 0 ls []) := by
  obtain ⟨hx, hb, hml, hown, hts⟩ := id F
  have hwg : ∀ w ∈ WG, w.before args s = true := fun w h => hts w (List.mem_cons_of_mem _ h)
  intro S H locs ls a0 a1 hp hW hE hl hL_a0 hK_a0 hL_a1 hK_a1
  unfold wp_L_firstKey_0 at hp
  refine lv_aload_n hx hb dL_firstKey_0 rfl (lv_at hl 1 rfl) ?_
  refine lv_iconst (v := 0) hx hb dL_firstKey_1 (by decide) ?_
  refine lv_aload_n hx hb dL_firstKey_2 rfl (lv_at hl 0 rfl) ?_
  refine x_callI (vx_runV (As := []) (rest := [.int (0 : Int32), .ref a1]) F (c_X11_firstKey l hl0 hL_a0 hK_a0 hp H.size) (cwV (C := RX11) 0 hts (wg_V wm_RL_144 wy_X11_firstKey) rfl rfl rfl (by decide +kernel) ⟨Nat.le_of_ble_eq_true rfl, Nat.le_of_ble_eq_true rfl⟩) (w_preV hK hW hL_a0 hK_a0 (by decide) rfl) rfl rfl hl.1 rfl (lv_room (Nat.le_of_ble_eq_true rfl)) dL_firstKey_3 ⟨Nat.le_of_ble_eq_true rfl, Nat.le_of_ble_eq_true rfl⟩) hW (fun E ce q9 S9 H locs hp hW h1 h2 h3 => ?_) (fun r_1 S_2 H locs hp hW => ?_)
  · obtain ⟨hX_9, hp⟩ := hp
    have hE := hE.trans hX_9
    obtain ⟨z0, z1, htl, ez0, ez1⟩ := x_tab2 htab
    rcases hp with ⟨hEe, hp⟩ | ⟨hEe, hp⟩
    · subst hEe
      refine x_catch (nm := "java/lang/IllegalStateException") F hK [] z0 [z1] (by rw [htl]; rfl) ez0 (by decide) (by decide) (fun z hz => nomatch hz) (hwg _ wc_RL_20) (by decide +kernel) h1 h2 h3 ?_
      refine W.widen (k := 2) (n := 12) (by decide) (by decide) ?_
      refine lv_astore_n (lv' := [(2, .ref q9), (0, .ref a0), (1, .ref a1)]) hx hb dL_firstKey_11 rfl hl (by decide) rfl (fun ls hl => ?_)
      refine lv_iconst (v := 1) hx hb dL_firstKey_12 (by decide) ?_
      refine vx_ret ?_
      exact w_iret hx hb hr hlocks hW ⟨hE, hp⟩ dL_firstKey_13
    · subst hEe
      refine x_catch (nm := "java/util/NoSuchElementException") F hK [z0] z1 [] (by rw [htl]; rfl) ez1 (by decide) (by decide) (fun z hz => by
          simp only [List.mem_cons, List.not_mem_nil, or_false] at hz
          rcases hz with hz
          · rw [hz]; exact ⟨by rw [show z0.catchType = 20 from congrArg (fun q => q.2.2.2) ez0]; decide, "java/lang/IllegalStateException", by rw [show z0.catchType = 20 from congrArg (fun q => q.2.2.2) ez0]; exact hwg _ wc_RL_20, by decide +kernel⟩) (hwg _ wc_RL_115) (by decide +kernel) h1 h2 h3 ?_
      refine W.widen (k := 2) (n := 12) (by decide) (by decide) ?_
      refine lv_astore_n (lv' := [(2, .ref q9), (0, .ref a0), (1, .ref a1)]) hx hb dL_firstKey_14 rfl hl (by decide) rfl (fun ls hl => ?_)
      refine lv_iconst (v := 2) hx hb dL_firstKey_15 (by decide) ?_
      refine vx_ret ?_
      exact w_iret hx hb hr hlocks hW ⟨hE, hp⟩ dL_firstKey_16
  · obtain ⟨hX_S_2, hp⟩ := hp
    refine W.widen (k := 2) (n := 12) (by decide) (by decide) ?_
    have hE := hE.trans hX_S_2
    have hK_a0 : sK S_2 a0 = 16 := (hX_S_2.2 a0 hL_a0).1.trans hK_a0
    have hL_a0 : wM D S_2 a0 := hX_S_2.M hL_a0
    have hK_a1 : sK S_2 a1 = 22 := (hX_S_2.2 a1 hL_a1).1.trans hK_a1
    have hL_a1 : wM D S_2 a1 := hX_S_2.M hL_a1
    refine lv_i2l (v := (Int32.toInt64 r_1)) hx hb dL_firstKey_6 rfl ?_
    obtain ⟨h_3m, h_3, hp⟩ := hp
    refine w_lst F hK hW h_3m hK_a1 h_3 dL_firstKey_7 (fun H locs hW => ?_)
    obtain ⟨S_4, eS_4⟩ : ∃ z : wS, z = uJ S_2 a1 ((0 : Int32)).toNatClampNeg (Int32.toInt64 r_1) := ⟨_, rfl⟩
    rw [← eS_4] at hW
    replace hp := hp S_4 eS_4
    have hX_S_4 : wX D S_2 S_4 := by rw [eS_4]; exact wX_uJ
    have hE := hE.trans hX_S_4
    have hK_a0 : sK S_4 a0 = 16 := (hX_S_4.2 a0 hL_a0).1.trans hK_a0
    have hL_a0 : wM D S_4 a0 := hX_S_4.M hL_a0
    have hK_a1 : sK S_4 a1 = 22 := (hX_S_4.2 a1 hL_a1).1.trans hK_a1
    have hL_a1 : wM D S_4 a1 := hX_S_4.M hL_a1
    refine lv_goto (tgt := 17) hx hb dL_firstKey_8 (by decide) ?_
    refine lv_iconst (v := 0) hx hb dL_firstKey_17 (by decide) ?_
    refine vx_ret ?_
    exact w_iret hx hb hr hlocks hW ⟨hE, hp⟩ dL_firstKey_18
set_option maxHeartbeats 4000000 in
set_option maxRecDepth 100000 in
theorem c_L_firstKey (l : Launch) {D : wD} {cy : Nat → ClassId} {X : va_W} {S0 : wS} {post : Int32 → wS → Prop} (hl0 : l.stackTraces = false) {a0 : Nat} {a1 : Nat} (hL_a0 : wM D S0 a0) (hK_a0 : sK S0 a0 = 16) (hL_a1 : wM D S0 a1) (hK_a1 : sK S0 a1 = 22) (hp : wp_L_firstKey D post S0 a0 a1) : xI D cy X l yL_firstKey wz_L_firstKey r_L_firstKey [.ref a0, .ref a1] S0 (fun r S9 => wX D S0 S9 ∧ post r S9) (fun _ _ => False) := by
  intro sz
  refine vx_ofWH (hh := [(0, 8, 11, 20), (0, 8, 14, 115)]) (cc := cL_firstKey) (maxL := 3) (ret := (some .int)) (by decide) rfl ?_
  intro p e s m args below meth c s₁ B hml hv
  obtain ⟨rfl, hsz, hP, hK, hD0, hRO⟩ := hv
  have hts := atoms_spec (ws := wz_L_firstKey) B.pre
  have hown : s.vm.findClass RL = some m.cls := findClass_of_methodNamed B.named
  subst hsz
  have hD := hD0.self (sz := s.heap.size)
  have F : CallFix p m c cL_firstKey 3 s _ wz_L_firstKey RL := ⟨B.exec, B.bytes, hml, hown, hts⟩
  have htab : c.exceptionTable.toList.map xhF = [(0, 8, 11, 20), (0, 8, 14, 115)] := by
    obtain ⟨m9, meth9, c9, g0, g1, g2, -, -, g3, -⟩ := Cond.codeWith_spec (hts _ List.mem_cons_self)
    cases Option.some.inj (g0.symm.trans B.named)
    cases Option.some.inj (g1.symm.trans B.method)
    cases Option.some.inj (g2.symm.trans (Stand.of_body B).code)
    exact g3
  have hr := B.returns
  have hlocks := B.notSynchronized
  generalize hAe : va_A (wL cy X S0) s.heap.size = A at hD hK ⊢
  have hA : ∀ q, s.heap.size ≤ q → A q := fun q h => by rw [← hAe]; exact Or.inr h
  have hW : wO D cy X A s.heap S0 s.heap [] := ⟨hP, hD, va_S.rf, hA, hRO⟩
  have hl := lv_entry ([.ref a0, .ref a1]) (n := 3) (Nat.le_of_ble_eq_true rfl)
  rw [lg_entry_eq]
  generalize (lg_sl ([.ref a0, .ref a1]) ++ List.replicate (3 - (lg_sl ([.ref a0, .ref a1])).length) Slot.unset).toArray = ls at hl ⊢
  have hl : lv_has ls 3 [(0, .ref a0), (1, .ref a1)] := hl
  unfold wp_L_firstKey at hp
  exact t_L_firstKey_0 F hr hlocks hK hl0 htab hp hW wX.rf (lv_sub hl [0, 1] rfl) hL_a0 hK_a0 hL_a1 hK_a1
def wp_L_solve_0 (D : wD) (post : Int32 → wS → Prop)  (bc bs : Nat) (S : wS) (a0 : Nat) (x1 : Int32) (a2 : Nat) : Prop :=
∃ m_3 z_4 : Nat, m_3 ≤ bc ∧ z_4 ≤ bs ∧
wp_X11_solve D (fun r_1 S_2 => 
a2 ∈ sL S_2 ∧ vp_in (0 : Int32) (sN S_2 a2) ∧
∀ S_6 : wS, S_6 = uJ S_2 a2 ((0 : Int32)).toNatClampNeg (Int32.toInt64 r_1) →
post (0 : Int32) S_6) (fun E_9 S9 => (E_9 = "java/lang/IllegalArgumentException" ∧ post (1 : Int32) S9) ∨ (E_9 = "java/lang/IllegalStateException" ∧ post (2 : Int32) S9)) m_3 z_4 S a0 x1
abbrev r_L_solve (rC rS : Nat) : Room := { frames := 8, cells := rC, slots := rS, locals := 178 }
def wp_L_solve (D : wD) (post : Int32 → wS → Prop) (bc bs : Nat) (S : wS) (a0 : Nat) (x1 : Int32) (a2 : Nat) : Prop := wp_L_solve_0 D post bc bs S a0 x1 a2
set_option maxHeartbeats 4000000 in
set_option maxRecDepth 100000 in
theorem t_L_solve_0 {p : Program} {l : Launch} {e : Env} {s : State} {m : MethodId} {args : Array Value} {below : List Frame} {meth : Method} {c : Code} {D : wD} {cy : Nat → ClassId} {X : va_W} {A : Nat → Prop} {S0 : wS} {rC rS : Nat} {post : Int32 → wS → Prop} (F : CallFix p m c cL_solve 4 s args wz_L_solve RL) (hr : meth.sig.returnType = (some .int)) (hlocks : meth.locks = false) (hK : wK D cy A s) (hl0 : l.stackTraces = false) (htab : c.exceptionTable.toList.map xhF = [(0, 9, 12, 13), (0, 9, 15, 20)]) : ∀ {bc bs cells slots : Nat} (hbc : cells + bc ≤ rC) (hbs : slots + bs ≤ rS) {S : wS} {H : Heap} {locs : List Loc} {ls : Array Slot} {a0 : Nat} {x1 : Int32} {a2 : Nat}, wp_L_solve_0 D post bc bs S a0 x1 a2 → wO D cy X A s.heap S H locs → wX D S0 S → lv_has ls 4 [(0, .ref a0), (1, .int x1), (2, .ref a2)] → wM D S a0 → sK S a0 = 16 → wM D S a2 → sK S a2 = 22 → W p l e (r_L_solve rC rS) s m args below meth c H locs cells slots (vx_MQ below (va_Qi (fun r S9 => wX D S0 S9 ∧ post r S9) (wB D cy X A) A) (wEx D cy X A (fun _ _ => False)) args s rC rS A) (F0 m 0 ls []) := by
  obtain ⟨hx, hb, hml, hown, hts⟩ := id F
  have hwg : ∀ w ∈ WG, w.before args s = true := fun w h => hts w (List.mem_cons_of_mem _ h)
  intro bc bs cells slots hbc hbs S H locs ls a0 x1 a2 hp hW hE hl hL_a0 hK_a0 hL_a2 hK_a2
  unfold wp_L_solve_0 at hp
  refine lv_aload_n hx hb dL_solve_0 rfl (lv_at hl 2 rfl) ?_
  refine lv_iconst (v := 0) hx hb dL_solve_1 (by decide) ?_
  refine lv_aload_n hx hb dL_solve_2 rfl (lv_at hl 0 rfl) ?_
  refine lv_iload_n hx hb dL_solve_3 rfl (lv_at hl 1 rfl) ?_
  obtain ⟨m_3, z_4, hm_3, hz_4, hp⟩ := hp
  refine x_callI (vx_runV (As := [.int x1]) (rest := [.int (0 : Int32), .ref a2]) F (c_X11_solve l hl0 hL_a0 hK_a0 hp H.size) (cwV (C := RX11) 1 hts (wg_V wm_RL_147 wy_X11_solve) rfl rfl rfl (by decide +kernel) ⟨Nat.le_of_ble_eq_true rfl, Nat.le_of_ble_eq_true rfl⟩) (w_preV hK hW hL_a0 hK_a0 (by decide) rfl) rfl rfl hl.1 rfl (lv_room (Nat.le_of_ble_eq_true rfl)) dL_solve_4 ⟨by show _ + m_3 ≤ rC; omega, by show _ + z_4 ≤ rS; omega⟩) hW (fun E ce q9 S9 H locs hp hW h1 h2 h3 => ?_) (fun r_1 S_2 H locs hp hW => ?_)
  · obtain ⟨hX_9, hp⟩ := hp
    have hE := hE.trans hX_9
    obtain ⟨z0, z1, htl, ez0, ez1⟩ := x_tab2 htab
    rcases hp with ⟨hEe, hp⟩ | ⟨hEe, hp⟩
    · subst hEe
      refine x_catch (nm := "java/lang/IllegalArgumentException") F hK [] z0 [z1] (by rw [htl]; rfl) ez0 (by decide) (by decide) (fun z hz => nomatch hz) (hwg _ wc_RL_13) (by decide +kernel) h1 h2 h3 ?_
      refine W.widen (k := rC) (n := rS) (by show _ + m_3 ≤ rC; omega) (by show _ + z_4 ≤ rS; omega) ?_
      refine lv_astore_n (lv' := [(3, .ref q9), (0, .ref a0), (1, .int x1), (2, .ref a2)]) hx hb dL_solve_12 rfl hl (by decide) rfl (fun ls hl => ?_)
      refine lv_iconst (v := 1) hx hb dL_solve_13 (by decide) ?_
      refine vx_ret ?_
      exact w_iret hx hb hr hlocks hW ⟨hE, hp⟩ dL_solve_14
    · subst hEe
      refine x_catch (nm := "java/lang/IllegalStateException") F hK [z0] z1 [] (by rw [htl]; rfl) ez1 (by decide) (by decide) (fun z hz => by
          simp only [List.mem_cons, List.not_mem_nil, or_false] at hz
          rcases hz with hz
          · rw [hz]; exact ⟨by rw [show z0.catchType = 13 from congrArg (fun q => q.2.2.2) ez0]; decide, "java/lang/IllegalArgumentException", by rw [show z0.catchType = 13 from congrArg (fun q => q.2.2.2) ez0]; exact hwg _ wc_RL_13, by decide +kernel⟩) (hwg _ wc_RL_20) (by decide +kernel) h1 h2 h3 ?_
      refine W.widen (k := rC) (n := rS) (by show _ + m_3 ≤ rC; omega) (by show _ + z_4 ≤ rS; omega) ?_
      refine lv_astore_n (lv' := [(3, .ref q9), (0, .ref a0), (1, .int x1), (2, .ref a2)]) hx hb dL_solve_15 rfl hl (by decide) rfl (fun ls hl => ?_)
      refine lv_iconst (v := 2) hx hb dL_solve_16 (by decide) ?_
      refine vx_ret ?_
      exact w_iret hx hb hr hlocks hW ⟨hE, hp⟩ dL_solve_17
  · obtain ⟨hX_S_2, hp⟩ := hp
    refine W.widen (k := _ + m_3) (n := _ + z_4) (Nat.le_refl _) (Nat.le_refl _) ?_
    replace hbc := w_spend hbc (show m_3 ≤ bc by omega)
    replace hbs := w_spend hbs (show z_4 ≤ bs by omega)
    have hE := hE.trans hX_S_2
    have hK_a0 : sK S_2 a0 = 16 := (hX_S_2.2 a0 hL_a0).1.trans hK_a0
    have hL_a0 : wM D S_2 a0 := hX_S_2.M hL_a0
    have hK_a2 : sK S_2 a2 = 22 := (hX_S_2.2 a2 hL_a2).1.trans hK_a2
    have hL_a2 : wM D S_2 a2 := hX_S_2.M hL_a2
    refine lv_i2l (v := (Int32.toInt64 r_1)) hx hb dL_solve_7 rfl ?_
    obtain ⟨h_5m, h_5, hp⟩ := hp
    refine w_lst F hK hW h_5m hK_a2 h_5 dL_solve_8 (fun H locs hW => ?_)
    obtain ⟨S_6, eS_6⟩ : ∃ z : wS, z = uJ S_2 a2 ((0 : Int32)).toNatClampNeg (Int32.toInt64 r_1) := ⟨_, rfl⟩
    rw [← eS_6] at hW
    replace hp := hp S_6 eS_6
    have hX_S_6 : wX D S_2 S_6 := by rw [eS_6]; exact wX_uJ
    have hE := hE.trans hX_S_6
    have hK_a0 : sK S_6 a0 = 16 := (hX_S_6.2 a0 hL_a0).1.trans hK_a0
    have hL_a0 : wM D S_6 a0 := hX_S_6.M hL_a0
    have hK_a2 : sK S_6 a2 = 22 := (hX_S_6.2 a2 hL_a2).1.trans hK_a2
    have hL_a2 : wM D S_6 a2 := hX_S_6.M hL_a2
    refine lv_goto (tgt := 18) hx hb dL_solve_9 (by decide) ?_
    refine lv_iconst (v := 0) hx hb dL_solve_18 (by decide) ?_
    refine W.widen (k := rC) (n := rS) (Nat.le_trans (Nat.le_add_right _ _) hbc) (Nat.le_trans (Nat.le_add_right _ _) hbs) ?_
    refine vx_ret ?_
    exact w_iret hx hb hr hlocks hW ⟨hE, hp⟩ dL_solve_19
set_option maxHeartbeats 4000000 in
set_option maxRecDepth 100000 in
theorem c_L_solve (l : Launch) {rC rS : Nat} {D : wD} {cy : Nat → ClassId} {X : va_W} {S0 : wS} {post : Int32 → wS → Prop} (hl0 : l.stackTraces = false) {a0 : Nat} {x1 : Int32} {a2 : Nat} (hL_a0 : wM D S0 a0) (hK_a0 : sK S0 a0 = 16) (hL_a2 : wM D S0 a2) (hK_a2 : sK S0 a2 = 22) (hp : wp_L_solve D post rC rS S0 a0 x1 a2) : xI D cy X l yL_solve wz_L_solve (r_L_solve rC rS) [.ref a0, .int x1, .ref a2] S0 (fun r S9 => wX D S0 S9 ∧ post r S9) (fun _ _ => False) := by
  intro sz
  refine vx_ofWH (hh := [(0, 9, 12, 13), (0, 9, 15, 20)]) (cc := cL_solve) (maxL := 4) (ret := (some .int)) (by decide) rfl ?_
  intro p e s m args below meth c s₁ B hml hv
  obtain ⟨rfl, hsz, hP, hK, hD0, hRO⟩ := hv
  have hts := atoms_spec (ws := wz_L_solve) B.pre
  have hown : s.vm.findClass RL = some m.cls := findClass_of_methodNamed B.named
  subst hsz
  have hD := hD0.self (sz := s.heap.size)
  have F : CallFix p m c cL_solve 4 s _ wz_L_solve RL := ⟨B.exec, B.bytes, hml, hown, hts⟩
  have htab : c.exceptionTable.toList.map xhF = [(0, 9, 12, 13), (0, 9, 15, 20)] := by
    obtain ⟨m9, meth9, c9, g0, g1, g2, -, -, g3, -⟩ := Cond.codeWith_spec (hts _ List.mem_cons_self)
    cases Option.some.inj (g0.symm.trans B.named)
    cases Option.some.inj (g1.symm.trans B.method)
    cases Option.some.inj (g2.symm.trans (Stand.of_body B).code)
    exact g3
  have hr := B.returns
  have hlocks := B.notSynchronized
  generalize hAe : va_A (wL cy X S0) s.heap.size = A at hD hK ⊢
  have hA : ∀ q, s.heap.size ≤ q → A q := fun q h => by rw [← hAe]; exact Or.inr h
  have hW : wO D cy X A s.heap S0 s.heap [] := ⟨hP, hD, va_S.rf, hA, hRO⟩
  have hl := lv_entry ([.ref a0, .int x1, .ref a2]) (n := 4) (Nat.le_of_ble_eq_true rfl)
  rw [lg_entry_eq]
  generalize (lg_sl ([.ref a0, .int x1, .ref a2]) ++ List.replicate (4 - (lg_sl ([.ref a0, .int x1, .ref a2])).length) Slot.unset).toArray = ls at hl ⊢
  have hl : lv_has ls 4 [(0, .ref a0), (1, .int x1), (2, .ref a2)] := hl
  unfold wp_L_solve at hp
  exact t_L_solve_0 F hr hlocks hK hl0 htab (Nat.le_of_eq (Nat.zero_add _)) (Nat.le_of_eq (Nat.zero_add _)) hp hW wX.rf (lv_sub hl [0, 1, 2] rfl) hL_a0 hK_a0 hL_a2 hK_a2
def wp_L_endingValue_0 (D : wD) (post : Int32 → wS → Prop)  (S : wS) (a0 : Nat) (a1 : Nat) : Prop :=
wp_X11_endingValue D (fun r_1 S_2 => 
a1 ∈ sL S_2 ∧ vp_in (0 : Int32) (sN S_2 a1) ∧
∀ S_4 : wS, S_4 = uJ S_2 a1 ((0 : Int32)).toNatClampNeg (Int32.toInt64 r_1) →
post (0 : Int32) S_4) (fun E_9 S9 => (E_9 = "java/lang/IllegalStateException" ∧ post (1 : Int32) S9)) S a0
abbrev r_L_endingValue : Room := { frames := 7, cells := 1, slots := 6, locals := 141 }
def wp_L_endingValue (D : wD) (post : Int32 → wS → Prop) (S : wS) (a0 : Nat) (a1 : Nat) : Prop := wp_L_endingValue_0 D post S a0 a1
set_option maxHeartbeats 4000000 in
set_option maxRecDepth 100000 in
theorem t_L_endingValue_0 {p : Program} {l : Launch} {e : Env} {s : State} {m : MethodId} {args : Array Value} {below : List Frame} {meth : Method} {c : Code} {D : wD} {cy : Nat → ClassId} {X : va_W} {A : Nat → Prop} {S0 : wS} {post : Int32 → wS → Prop} (F : CallFix p m c cL_endingValue 3 s args wz_L_endingValue RL) (hr : meth.sig.returnType = (some .int)) (hlocks : meth.locks = false) (hK : wK D cy A s) (hl0 : l.stackTraces = false) (htab : c.exceptionTable.toList.map xhF = [(0, 8, 11, 20)]) : ∀ {S : wS} {H : Heap} {locs : List Loc} {ls : Array Slot} {a0 : Nat} {a1 : Nat}, wp_L_endingValue_0 D post S a0 a1 → wO D cy X A s.heap S H locs → wX D S0 S → lv_has ls 3 [(0, .ref a0), (1, .ref a1)] → wM D S a0 → sK S a0 = 16 → wM D S a1 → sK S a1 = 22 → W p l e r_L_endingValue s m args below meth c H locs 0 0 (vx_MQ below (va_Qi (fun r S9 => wX D S0 S9 ∧ post r S9) (wB D cy X A) A) (wEx D cy X A (fun _ _ => False)) args s 1 6 A) (F0 m 0 ls []) := by
  obtain ⟨hx, hb, hml, hown, hts⟩ := id F
  have hwg : ∀ w ∈ WG, w.before args s = true := fun w h => hts w (List.mem_cons_of_mem _ h)
  intro S H locs ls a0 a1 hp hW hE hl hL_a0 hK_a0 hL_a1 hK_a1
  unfold wp_L_endingValue_0 at hp
  refine lv_aload_n hx hb dL_endingValue_0 rfl (lv_at hl 1 rfl) ?_
  refine lv_iconst (v := 0) hx hb dL_endingValue_1 (by decide) ?_
  refine lv_aload_n hx hb dL_endingValue_2 rfl (lv_at hl 0 rfl) ?_
  refine x_callI (vx_runV (As := []) (rest := [.int (0 : Int32), .ref a1]) F (c_X11_endingValue l hl0 hL_a0 hK_a0 hp H.size) (cwV (C := RX11) 0 hts (wg_V wm_RL_150 wy_X11_endingValue) rfl rfl rfl (by decide +kernel) ⟨Nat.le_of_ble_eq_true rfl, Nat.le_of_ble_eq_true rfl⟩) (w_preV hK hW hL_a0 hK_a0 (by decide) rfl) rfl rfl hl.1 rfl (lv_room (Nat.le_of_ble_eq_true rfl)) dL_endingValue_3 ⟨Nat.le_of_ble_eq_true rfl, Nat.le_of_ble_eq_true rfl⟩) hW (fun E ce q9 S9 H locs hp hW h1 h2 h3 => ?_) (fun r_1 S_2 H locs hp hW => ?_)
  · obtain ⟨hX_9, hp⟩ := hp
    have hE := hE.trans hX_9
    obtain ⟨z0, htl, ez0⟩ := x_tab1 htab
    rcases hp with ⟨hEe, hp⟩
    · subst hEe
      refine x_catch (nm := "java/lang/IllegalStateException") F hK [] z0 [] (by rw [htl]; rfl) ez0 (by decide) (by decide) (fun z hz => nomatch hz) (hwg _ wc_RL_20) (by decide +kernel) h1 h2 h3 ?_
      refine W.widen (k := 1) (n := 6) (by decide) (by decide) ?_
      refine lv_astore_n (lv' := [(2, .ref q9), (0, .ref a0), (1, .ref a1)]) hx hb dL_endingValue_11 rfl hl (by decide) rfl (fun ls hl => ?_)
      refine lv_iconst (v := 1) hx hb dL_endingValue_12 (by decide) ?_
      refine vx_ret ?_
      exact w_iret hx hb hr hlocks hW ⟨hE, hp⟩ dL_endingValue_13
  · obtain ⟨hX_S_2, hp⟩ := hp
    refine W.widen (k := 1) (n := 6) (by decide) (by decide) ?_
    have hE := hE.trans hX_S_2
    have hK_a0 : sK S_2 a0 = 16 := (hX_S_2.2 a0 hL_a0).1.trans hK_a0
    have hL_a0 : wM D S_2 a0 := hX_S_2.M hL_a0
    have hK_a1 : sK S_2 a1 = 22 := (hX_S_2.2 a1 hL_a1).1.trans hK_a1
    have hL_a1 : wM D S_2 a1 := hX_S_2.M hL_a1
    refine lv_i2l (v := (Int32.toInt64 r_1)) hx hb dL_endingValue_6 rfl ?_
    obtain ⟨h_3m, h_3, hp⟩ := hp
    refine w_lst F hK hW h_3m hK_a1 h_3 dL_endingValue_7 (fun H locs hW => ?_)
    obtain ⟨S_4, eS_4⟩ : ∃ z : wS, z = uJ S_2 a1 ((0 : Int32)).toNatClampNeg (Int32.toInt64 r_1) := ⟨_, rfl⟩
    rw [← eS_4] at hW
    replace hp := hp S_4 eS_4
    have hX_S_4 : wX D S_2 S_4 := by rw [eS_4]; exact wX_uJ
    have hE := hE.trans hX_S_4
    have hK_a0 : sK S_4 a0 = 16 := (hX_S_4.2 a0 hL_a0).1.trans hK_a0
    have hL_a0 : wM D S_4 a0 := hX_S_4.M hL_a0
    have hK_a1 : sK S_4 a1 = 22 := (hX_S_4.2 a1 hL_a1).1.trans hK_a1
    have hL_a1 : wM D S_4 a1 := hX_S_4.M hL_a1
    refine lv_goto (tgt := 14) hx hb dL_endingValue_8 (by decide) ?_
    refine lv_iconst (v := 0) hx hb dL_endingValue_14 (by decide) ?_
    refine vx_ret ?_
    exact w_iret hx hb hr hlocks hW ⟨hE, hp⟩ dL_endingValue_15
set_option maxHeartbeats 4000000 in
set_option maxRecDepth 100000 in
theorem c_L_endingValue (l : Launch) {D : wD} {cy : Nat → ClassId} {X : va_W} {S0 : wS} {post : Int32 → wS → Prop} (hl0 : l.stackTraces = false) {a0 : Nat} {a1 : Nat} (hL_a0 : wM D S0 a0) (hK_a0 : sK S0 a0 = 16) (hL_a1 : wM D S0 a1) (hK_a1 : sK S0 a1 = 22) (hp : wp_L_endingValue D post S0 a0 a1) : xI D cy X l yL_endingValue wz_L_endingValue r_L_endingValue [.ref a0, .ref a1] S0 (fun r S9 => wX D S0 S9 ∧ post r S9) (fun _ _ => False) := by
  intro sz
  refine vx_ofWH (hh := [(0, 8, 11, 20)]) (cc := cL_endingValue) (maxL := 3) (ret := (some .int)) (by decide) rfl ?_
  intro p e s m args below meth c s₁ B hml hv
  obtain ⟨rfl, hsz, hP, hK, hD0, hRO⟩ := hv
  have hts := atoms_spec (ws := wz_L_endingValue) B.pre
  have hown : s.vm.findClass RL = some m.cls := findClass_of_methodNamed B.named
  subst hsz
  have hD := hD0.self (sz := s.heap.size)
  have F : CallFix p m c cL_endingValue 3 s _ wz_L_endingValue RL := ⟨B.exec, B.bytes, hml, hown, hts⟩
  have htab : c.exceptionTable.toList.map xhF = [(0, 8, 11, 20)] := by
    obtain ⟨m9, meth9, c9, g0, g1, g2, -, -, g3, -⟩ := Cond.codeWith_spec (hts _ List.mem_cons_self)
    cases Option.some.inj (g0.symm.trans B.named)
    cases Option.some.inj (g1.symm.trans B.method)
    cases Option.some.inj (g2.symm.trans (Stand.of_body B).code)
    exact g3
  have hr := B.returns
  have hlocks := B.notSynchronized
  generalize hAe : va_A (wL cy X S0) s.heap.size = A at hD hK ⊢
  have hA : ∀ q, s.heap.size ≤ q → A q := fun q h => by rw [← hAe]; exact Or.inr h
  have hW : wO D cy X A s.heap S0 s.heap [] := ⟨hP, hD, va_S.rf, hA, hRO⟩
  have hl := lv_entry ([.ref a0, .ref a1]) (n := 3) (Nat.le_of_ble_eq_true rfl)
  rw [lg_entry_eq]
  generalize (lg_sl ([.ref a0, .ref a1]) ++ List.replicate (3 - (lg_sl ([.ref a0, .ref a1])).length) Slot.unset).toArray = ls at hl ⊢
  have hl : lv_has ls 3 [(0, .ref a0), (1, .ref a1)] := hl
  unfold wp_L_endingValue at hp
  exact t_L_endingValue_0 F hr hlocks hK hl0 htab hp hW wX.rf (lv_sub hl [0, 1] rfl) hL_a0 hK_a0 hL_a1 hK_a1
def wp_L_longest_0 (D : wD) (post : Int32 → wS → Prop)  (S : wS) (a0 : Nat) (x1 : Int32) (a2 : Nat) : Prop :=
wp_X11_longest D (fun r_1 S_2 => 
a2 ∈ sL S_2 ∧ vp_in (0 : Int32) (sN S_2 a2) ∧
∀ S_4 : wS, S_4 = uJ S_2 a2 ((0 : Int32)).toNatClampNeg (Int32.toInt64 r_1) →
post (0 : Int32) S_4) (fun E_9 S9 => (E_9 = "java/lang/IllegalArgumentException" ∧ post (1 : Int32) S9) ∨ (E_9 = "java/lang/IllegalStateException" ∧ post (2 : Int32) S9)) S a0 x1
abbrev r_L_longest : Room := { frames := 8, cells := 2, slots := 12, locals := 161 }
def wp_L_longest (D : wD) (post : Int32 → wS → Prop) (S : wS) (a0 : Nat) (x1 : Int32) (a2 : Nat) : Prop := wp_L_longest_0 D post S a0 x1 a2
set_option maxHeartbeats 4000000 in
set_option maxRecDepth 100000 in
theorem t_L_longest_0 {p : Program} {l : Launch} {e : Env} {s : State} {m : MethodId} {args : Array Value} {below : List Frame} {meth : Method} {c : Code} {D : wD} {cy : Nat → ClassId} {X : va_W} {A : Nat → Prop} {S0 : wS} {post : Int32 → wS → Prop} (F : CallFix p m c cL_longest 4 s args wz_L_longest RL) (hr : meth.sig.returnType = (some .int)) (hlocks : meth.locks = false) (hK : wK D cy A s) (hl0 : l.stackTraces = false) (htab : c.exceptionTable.toList.map xhF = [(0, 9, 12, 13), (0, 9, 15, 20)]) : ∀ {S : wS} {H : Heap} {locs : List Loc} {ls : Array Slot} {a0 : Nat} {x1 : Int32} {a2 : Nat}, wp_L_longest_0 D post S a0 x1 a2 → wO D cy X A s.heap S H locs → wX D S0 S → lv_has ls 4 [(0, .ref a0), (1, .int x1), (2, .ref a2)] → wM D S a0 → sK S a0 = 16 → wM D S a2 → sK S a2 = 22 → W p l e r_L_longest s m args below meth c H locs 0 0 (vx_MQ below (va_Qi (fun r S9 => wX D S0 S9 ∧ post r S9) (wB D cy X A) A) (wEx D cy X A (fun _ _ => False)) args s 2 12 A) (F0 m 0 ls []) := by
  obtain ⟨hx, hb, hml, hown, hts⟩ := id F
  have hwg : ∀ w ∈ WG, w.before args s = true := fun w h => hts w (List.mem_cons_of_mem _ h)
  intro S H locs ls a0 x1 a2 hp hW hE hl hL_a0 hK_a0 hL_a2 hK_a2
  unfold wp_L_longest_0 at hp
  refine lv_aload_n hx hb dL_longest_0 rfl (lv_at hl 2 rfl) ?_
  refine lv_iconst (v := 0) hx hb dL_longest_1 (by decide) ?_
  refine lv_aload_n hx hb dL_longest_2 rfl (lv_at hl 0 rfl) ?_
  refine lv_iload_n hx hb dL_longest_3 rfl (lv_at hl 1 rfl) ?_
  refine x_callI (vx_runV (As := [.int x1]) (rest := [.int (0 : Int32), .ref a2]) F (c_X11_longest l hl0 hL_a0 hK_a0 hp H.size) (cwV (C := RX11) 1 hts (wg_V wm_RL_153 wy_X11_longest) rfl rfl rfl (by decide +kernel) ⟨Nat.le_of_ble_eq_true rfl, Nat.le_of_ble_eq_true rfl⟩) (w_preV hK hW hL_a0 hK_a0 (by decide) rfl) rfl rfl hl.1 rfl (lv_room (Nat.le_of_ble_eq_true rfl)) dL_longest_4 ⟨Nat.le_of_ble_eq_true rfl, Nat.le_of_ble_eq_true rfl⟩) hW (fun E ce q9 S9 H locs hp hW h1 h2 h3 => ?_) (fun r_1 S_2 H locs hp hW => ?_)
  · obtain ⟨hX_9, hp⟩ := hp
    have hE := hE.trans hX_9
    obtain ⟨z0, z1, htl, ez0, ez1⟩ := x_tab2 htab
    rcases hp with ⟨hEe, hp⟩ | ⟨hEe, hp⟩
    · subst hEe
      refine x_catch (nm := "java/lang/IllegalArgumentException") F hK [] z0 [z1] (by rw [htl]; rfl) ez0 (by decide) (by decide) (fun z hz => nomatch hz) (hwg _ wc_RL_13) (by decide +kernel) h1 h2 h3 ?_
      refine W.widen (k := 2) (n := 12) (by decide) (by decide) ?_
      refine lv_astore_n (lv' := [(3, .ref q9), (0, .ref a0), (1, .int x1), (2, .ref a2)]) hx hb dL_longest_12 rfl hl (by decide) rfl (fun ls hl => ?_)
      refine lv_iconst (v := 1) hx hb dL_longest_13 (by decide) ?_
      refine vx_ret ?_
      exact w_iret hx hb hr hlocks hW ⟨hE, hp⟩ dL_longest_14
    · subst hEe
      refine x_catch (nm := "java/lang/IllegalStateException") F hK [z0] z1 [] (by rw [htl]; rfl) ez1 (by decide) (by decide) (fun z hz => by
          simp only [List.mem_cons, List.not_mem_nil, or_false] at hz
          rcases hz with hz
          · rw [hz]; exact ⟨by rw [show z0.catchType = 13 from congrArg (fun q => q.2.2.2) ez0]; decide, "java/lang/IllegalArgumentException", by rw [show z0.catchType = 13 from congrArg (fun q => q.2.2.2) ez0]; exact hwg _ wc_RL_13, by decide +kernel⟩) (hwg _ wc_RL_20) (by decide +kernel) h1 h2 h3 ?_
      refine W.widen (k := 2) (n := 12) (by decide) (by decide) ?_
      refine lv_astore_n (lv' := [(3, .ref q9), (0, .ref a0), (1, .int x1), (2, .ref a2)]) hx hb dL_longest_15 rfl hl (by decide) rfl (fun ls hl => ?_)
      refine lv_iconst (v := 2) hx hb dL_longest_16 (by decide) ?_
      refine vx_ret ?_
      exact w_iret hx hb hr hlocks hW ⟨hE, hp⟩ dL_longest_17
  · obtain ⟨hX_S_2, hp⟩ := hp
    refine W.widen (k := 2) (n := 12) (by decide) (by decide) ?_
    have hE := hE.trans hX_S_2
    have hK_a0 : sK S_2 a0 = 16 := (hX_S_2.2 a0 hL_a0).1.trans hK_a0
    have hL_a0 : wM D S_2 a0 := hX_S_2.M hL_a0
    have hK_a2 : sK S_2 a2 = 22 := (hX_S_2.2 a2 hL_a2).1.trans hK_a2
    have hL_a2 : wM D S_2 a2 := hX_S_2.M hL_a2
    refine lv_i2l (v := (Int32.toInt64 r_1)) hx hb dL_longest_7 rfl ?_
    obtain ⟨h_3m, h_3, hp⟩ := hp
    refine w_lst F hK hW h_3m hK_a2 h_3 dL_longest_8 (fun H locs hW => ?_)
    obtain ⟨S_4, eS_4⟩ : ∃ z : wS, z = uJ S_2 a2 ((0 : Int32)).toNatClampNeg (Int32.toInt64 r_1) := ⟨_, rfl⟩
    rw [← eS_4] at hW
    replace hp := hp S_4 eS_4
    have hX_S_4 : wX D S_2 S_4 := by rw [eS_4]; exact wX_uJ
    have hE := hE.trans hX_S_4
    have hK_a0 : sK S_4 a0 = 16 := (hX_S_4.2 a0 hL_a0).1.trans hK_a0
    have hL_a0 : wM D S_4 a0 := hX_S_4.M hL_a0
    have hK_a2 : sK S_4 a2 = 22 := (hX_S_4.2 a2 hL_a2).1.trans hK_a2
    have hL_a2 : wM D S_4 a2 := hX_S_4.M hL_a2
    refine lv_goto (tgt := 18) hx hb dL_longest_9 (by decide) ?_
    refine lv_iconst (v := 0) hx hb dL_longest_18 (by decide) ?_
    refine vx_ret ?_
    exact w_iret hx hb hr hlocks hW ⟨hE, hp⟩ dL_longest_19
set_option maxHeartbeats 4000000 in
set_option maxRecDepth 100000 in
theorem c_L_longest (l : Launch) {D : wD} {cy : Nat → ClassId} {X : va_W} {S0 : wS} {post : Int32 → wS → Prop} (hl0 : l.stackTraces = false) {a0 : Nat} {x1 : Int32} {a2 : Nat} (hL_a0 : wM D S0 a0) (hK_a0 : sK S0 a0 = 16) (hL_a2 : wM D S0 a2) (hK_a2 : sK S0 a2 = 22) (hp : wp_L_longest D post S0 a0 x1 a2) : xI D cy X l yL_longest wz_L_longest r_L_longest [.ref a0, .int x1, .ref a2] S0 (fun r S9 => wX D S0 S9 ∧ post r S9) (fun _ _ => False) := by
  intro sz
  refine vx_ofWH (hh := [(0, 9, 12, 13), (0, 9, 15, 20)]) (cc := cL_longest) (maxL := 4) (ret := (some .int)) (by decide) rfl ?_
  intro p e s m args below meth c s₁ B hml hv
  obtain ⟨rfl, hsz, hP, hK, hD0, hRO⟩ := hv
  have hts := atoms_spec (ws := wz_L_longest) B.pre
  have hown : s.vm.findClass RL = some m.cls := findClass_of_methodNamed B.named
  subst hsz
  have hD := hD0.self (sz := s.heap.size)
  have F : CallFix p m c cL_longest 4 s _ wz_L_longest RL := ⟨B.exec, B.bytes, hml, hown, hts⟩
  have htab : c.exceptionTable.toList.map xhF = [(0, 9, 12, 13), (0, 9, 15, 20)] := by
    obtain ⟨m9, meth9, c9, g0, g1, g2, -, -, g3, -⟩ := Cond.codeWith_spec (hts _ List.mem_cons_self)
    cases Option.some.inj (g0.symm.trans B.named)
    cases Option.some.inj (g1.symm.trans B.method)
    cases Option.some.inj (g2.symm.trans (Stand.of_body B).code)
    exact g3
  have hr := B.returns
  have hlocks := B.notSynchronized
  generalize hAe : va_A (wL cy X S0) s.heap.size = A at hD hK ⊢
  have hA : ∀ q, s.heap.size ≤ q → A q := fun q h => by rw [← hAe]; exact Or.inr h
  have hW : wO D cy X A s.heap S0 s.heap [] := ⟨hP, hD, va_S.rf, hA, hRO⟩
  have hl := lv_entry ([.ref a0, .int x1, .ref a2]) (n := 4) (Nat.le_of_ble_eq_true rfl)
  rw [lg_entry_eq]
  generalize (lg_sl ([.ref a0, .int x1, .ref a2]) ++ List.replicate (4 - (lg_sl ([.ref a0, .int x1, .ref a2])).length) Slot.unset).toArray = ls at hl ⊢
  have hl : lv_has ls 4 [(0, .ref a0), (1, .int x1), (2, .ref a2)] := hl
  unfold wp_L_longest at hp
  exact t_L_longest_0 F hr hlocks hK hl0 htab hp hW wX.rf (lv_sub hl [0, 1, 2] rfl) hL_a0 hK_a0 hL_a2 hK_a2
def wp_L_asked_0 (D : wD) (post : Int32 → wS → Prop)  (S : wS) (a0 : Nat) (a1 : Nat) : Prop :=
wp_X11_asked D (fun r_1 S_2 => 
a1 ∈ sL S_2 ∧ vp_in (0 : Int32) (sN S_2 a1) ∧
∀ S_4 : wS, S_4 = uJ S_2 a1 ((0 : Int32)).toNatClampNeg (Int32.toInt64 r_1) →
post (0 : Int32) S_4) (fun E_9 S9 => (E_9 = "java/util/NoSuchElementException" ∧ post (1 : Int32) S9)) S a0
abbrev r_L_asked : Room := { frames := 8, cells := 1, slots := 6, locals := 161 }
def wp_L_asked (D : wD) (post : Int32 → wS → Prop) (S : wS) (a0 : Nat) (a1 : Nat) : Prop := wp_L_asked_0 D post S a0 a1
set_option maxHeartbeats 4000000 in
set_option maxRecDepth 100000 in
theorem t_L_asked_0 {p : Program} {l : Launch} {e : Env} {s : State} {m : MethodId} {args : Array Value} {below : List Frame} {meth : Method} {c : Code} {D : wD} {cy : Nat → ClassId} {X : va_W} {A : Nat → Prop} {S0 : wS} {post : Int32 → wS → Prop} (F : CallFix p m c cL_asked 3 s args wz_L_asked RL) (hr : meth.sig.returnType = (some .int)) (hlocks : meth.locks = false) (hK : wK D cy A s) (hl0 : l.stackTraces = false) (htab : c.exceptionTable.toList.map xhF = [(0, 8, 11, 115)]) : ∀ {S : wS} {H : Heap} {locs : List Loc} {ls : Array Slot} {a0 : Nat} {a1 : Nat}, wp_L_asked_0 D post S a0 a1 → wO D cy X A s.heap S H locs → wX D S0 S → lv_has ls 3 [(0, .ref a0), (1, .ref a1)] → wM D S a0 → sK S a0 = 16 → wM D S a1 → sK S a1 = 22 → W p l e r_L_asked s m args below meth c H locs 0 0 (vx_MQ below (va_Qi (fun r S9 => wX D S0 S9 ∧ post r S9) (wB D cy X A) A) (wEx D cy X A (fun _ _ => False)) args s 1 6 A) (F0 m 0 ls []) := by
  obtain ⟨hx, hb, hml, hown, hts⟩ := id F
  have hwg : ∀ w ∈ WG, w.before args s = true := fun w h => hts w (List.mem_cons_of_mem _ h)
  intro S H locs ls a0 a1 hp hW hE hl hL_a0 hK_a0 hL_a1 hK_a1
  unfold wp_L_asked_0 at hp
  refine lv_aload_n hx hb dL_asked_0 rfl (lv_at hl 1 rfl) ?_
  refine lv_iconst (v := 0) hx hb dL_asked_1 (by decide) ?_
  refine lv_aload_n hx hb dL_asked_2 rfl (lv_at hl 0 rfl) ?_
  refine x_callI (vx_runV (As := []) (rest := [.int (0 : Int32), .ref a1]) F (c_X11_asked l hl0 hL_a0 hK_a0 hp H.size) (cwV (C := RX11) 0 hts (wg_V wm_RL_156 wy_X11_asked) rfl rfl rfl (by decide +kernel) ⟨Nat.le_of_ble_eq_true rfl, Nat.le_of_ble_eq_true rfl⟩) (w_preV hK hW hL_a0 hK_a0 (by decide) rfl) rfl rfl hl.1 rfl (lv_room (Nat.le_of_ble_eq_true rfl)) dL_asked_3 ⟨Nat.le_of_ble_eq_true rfl, Nat.le_of_ble_eq_true rfl⟩) hW (fun E ce q9 S9 H locs hp hW h1 h2 h3 => ?_) (fun r_1 S_2 H locs hp hW => ?_)
  · obtain ⟨hX_9, hp⟩ := hp
    have hE := hE.trans hX_9
    obtain ⟨z0, htl, ez0⟩ := x_tab1 htab
    rcases hp with ⟨hEe, hp⟩
    · subst hEe
      refine x_catch (nm := "java/util/NoSuchElementException") F hK [] z0 [] (by rw [htl]; rfl) ez0 (by decide) (by decide) (fun z hz => nomatch hz) (hwg _ wc_RL_115) (by decide +kernel) h1 h2 h3 ?_
      refine W.widen (k := 1) (n := 6) (by decide) (by decide) ?_
      refine lv_astore_n (lv' := [(2, .ref q9), (0, .ref a0), (1, .ref a1)]) hx hb dL_asked_11 rfl hl (by decide) rfl (fun ls hl => ?_)
      refine lv_iconst (v := 1) hx hb dL_asked_12 (by decide) ?_
      refine vx_ret ?_
      exact w_iret hx hb hr hlocks hW ⟨hE, hp⟩ dL_asked_13
  · obtain ⟨hX_S_2, hp⟩ := hp
    refine W.widen (k := 1) (n := 6) (by decide) (by decide) ?_
    have hE := hE.trans hX_S_2
    have hK_a0 : sK S_2 a0 = 16 := (hX_S_2.2 a0 hL_a0).1.trans hK_a0
    have hL_a0 : wM D S_2 a0 := hX_S_2.M hL_a0
    have hK_a1 : sK S_2 a1 = 22 := (hX_S_2.2 a1 hL_a1).1.trans hK_a1
    have hL_a1 : wM D S_2 a1 := hX_S_2.M hL_a1
    refine lv_i2l (v := (Int32.toInt64 r_1)) hx hb dL_asked_6 rfl ?_
    obtain ⟨h_3m, h_3, hp⟩ := hp
    refine w_lst F hK hW h_3m hK_a1 h_3 dL_asked_7 (fun H locs hW => ?_)
    obtain ⟨S_4, eS_4⟩ : ∃ z : wS, z = uJ S_2 a1 ((0 : Int32)).toNatClampNeg (Int32.toInt64 r_1) := ⟨_, rfl⟩
    rw [← eS_4] at hW
    replace hp := hp S_4 eS_4
    have hX_S_4 : wX D S_2 S_4 := by rw [eS_4]; exact wX_uJ
    have hE := hE.trans hX_S_4
    have hK_a0 : sK S_4 a0 = 16 := (hX_S_4.2 a0 hL_a0).1.trans hK_a0
    have hL_a0 : wM D S_4 a0 := hX_S_4.M hL_a0
    have hK_a1 : sK S_4 a1 = 22 := (hX_S_4.2 a1 hL_a1).1.trans hK_a1
    have hL_a1 : wM D S_4 a1 := hX_S_4.M hL_a1
    refine lv_goto (tgt := 14) hx hb dL_asked_8 (by decide) ?_
    refine lv_iconst (v := 0) hx hb dL_asked_14 (by decide) ?_
    refine vx_ret ?_
    exact w_iret hx hb hr hlocks hW ⟨hE, hp⟩ dL_asked_15
set_option maxHeartbeats 4000000 in
set_option maxRecDepth 100000 in
theorem c_L_asked (l : Launch) {D : wD} {cy : Nat → ClassId} {X : va_W} {S0 : wS} {post : Int32 → wS → Prop} (hl0 : l.stackTraces = false) {a0 : Nat} {a1 : Nat} (hL_a0 : wM D S0 a0) (hK_a0 : sK S0 a0 = 16) (hL_a1 : wM D S0 a1) (hK_a1 : sK S0 a1 = 22) (hp : wp_L_asked D post S0 a0 a1) : xI D cy X l yL_asked wz_L_asked r_L_asked [.ref a0, .ref a1] S0 (fun r S9 => wX D S0 S9 ∧ post r S9) (fun _ _ => False) := by
  intro sz
  refine vx_ofWH (hh := [(0, 8, 11, 115)]) (cc := cL_asked) (maxL := 3) (ret := (some .int)) (by decide) rfl ?_
  intro p e s m args below meth c s₁ B hml hv
  obtain ⟨rfl, hsz, hP, hK, hD0, hRO⟩ := hv
  have hts := atoms_spec (ws := wz_L_asked) B.pre
  have hown : s.vm.findClass RL = some m.cls := findClass_of_methodNamed B.named
  subst hsz
  have hD := hD0.self (sz := s.heap.size)
  have F : CallFix p m c cL_asked 3 s _ wz_L_asked RL := ⟨B.exec, B.bytes, hml, hown, hts⟩
  have htab : c.exceptionTable.toList.map xhF = [(0, 8, 11, 115)] := by
    obtain ⟨m9, meth9, c9, g0, g1, g2, -, -, g3, -⟩ := Cond.codeWith_spec (hts _ List.mem_cons_self)
    cases Option.some.inj (g0.symm.trans B.named)
    cases Option.some.inj (g1.symm.trans B.method)
    cases Option.some.inj (g2.symm.trans (Stand.of_body B).code)
    exact g3
  have hr := B.returns
  have hlocks := B.notSynchronized
  generalize hAe : va_A (wL cy X S0) s.heap.size = A at hD hK ⊢
  have hA : ∀ q, s.heap.size ≤ q → A q := fun q h => by rw [← hAe]; exact Or.inr h
  have hW : wO D cy X A s.heap S0 s.heap [] := ⟨hP, hD, va_S.rf, hA, hRO⟩
  have hl := lv_entry ([.ref a0, .ref a1]) (n := 3) (Nat.le_of_ble_eq_true rfl)
  rw [lg_entry_eq]
  generalize (lg_sl ([.ref a0, .ref a1]) ++ List.replicate (3 - (lg_sl ([.ref a0, .ref a1])).length) Slot.unset).toArray = ls at hl ⊢
  have hl : lv_has ls 3 [(0, .ref a0), (1, .ref a1)] := hl
  unfold wp_L_asked at hp
  exact t_L_asked_0 F hr hlocks hK hl0 htab hp hW wX.rf (lv_sub hl [0, 1] rfl) hL_a0 hK_a0 hL_a1 hK_a1
def wp_L_answer_0 (D : wD) (post : Int32 → wS → Prop)  (S : wS) (a0 : Nat) (x1 : Int32) (a2 : Nat) : Prop :=
wp_X11_answer D (fun r_1 S_2 => 
a2 ∈ sL S_2 ∧ vp_in (0 : Int32) (sN S_2 a2) ∧
∀ S_4 : wS, S_4 = uJ S_2 a2 ((0 : Int32)).toNatClampNeg (Int32.toInt64 r_1) →
post (0 : Int32) S_4) (fun E_9 S9 => (E_9 = "java/util/NoSuchElementException" ∧ post (1 : Int32) S9)) S a0 x1
abbrev r_L_answer : Room := { frames := 8, cells := 1, slots := 6, locals := 163 }
def wp_L_answer (D : wD) (post : Int32 → wS → Prop) (S : wS) (a0 : Nat) (x1 : Int32) (a2 : Nat) : Prop := wp_L_answer_0 D post S a0 x1 a2
set_option maxHeartbeats 4000000 in
set_option maxRecDepth 100000 in
theorem t_L_answer_0 {p : Program} {l : Launch} {e : Env} {s : State} {m : MethodId} {args : Array Value} {below : List Frame} {meth : Method} {c : Code} {D : wD} {cy : Nat → ClassId} {X : va_W} {A : Nat → Prop} {S0 : wS} {post : Int32 → wS → Prop} (F : CallFix p m c cL_answer 4 s args wz_L_answer RL) (hr : meth.sig.returnType = (some .int)) (hlocks : meth.locks = false) (hK : wK D cy A s) (hl0 : l.stackTraces = false) (htab : c.exceptionTable.toList.map xhF = [(0, 9, 12, 115)]) : ∀ {S : wS} {H : Heap} {locs : List Loc} {ls : Array Slot} {a0 : Nat} {x1 : Int32} {a2 : Nat}, wp_L_answer_0 D post S a0 x1 a2 → wO D cy X A s.heap S H locs → wX D S0 S → lv_has ls 4 [(0, .ref a0), (1, .int x1), (2, .ref a2)] → wM D S a0 → sK S a0 = 16 → wM D S a2 → sK S a2 = 22 → W p l e r_L_answer s m args below meth c H locs 0 0 (vx_MQ below (va_Qi (fun r S9 => wX D S0 S9 ∧ post r S9) (wB D cy X A) A) (wEx D cy X A (fun _ _ => False)) args s 1 6 A) (F0 m 0 ls []) := by
  obtain ⟨hx, hb, hml, hown, hts⟩ := id F
  have hwg : ∀ w ∈ WG, w.before args s = true := fun w h => hts w (List.mem_cons_of_mem _ h)
  intro S H locs ls a0 x1 a2 hp hW hE hl hL_a0 hK_a0 hL_a2 hK_a2
  unfold wp_L_answer_0 at hp
  refine lv_aload_n hx hb dL_answer_0 rfl (lv_at hl 2 rfl) ?_
  refine lv_iconst (v := 0) hx hb dL_answer_1 (by decide) ?_
  refine lv_aload_n hx hb dL_answer_2 rfl (lv_at hl 0 rfl) ?_
  refine lv_iload_n hx hb dL_answer_3 rfl (lv_at hl 1 rfl) ?_
  refine x_callI (vx_runV (As := [.int x1]) (rest := [.int (0 : Int32), .ref a2]) F (c_X11_answer l hl0 hL_a0 hK_a0 hp H.size) (cwV (C := RX11) 1 hts (wg_V wm_RL_159 wy_X11_answer) rfl rfl rfl (by decide +kernel) ⟨Nat.le_of_ble_eq_true rfl, Nat.le_of_ble_eq_true rfl⟩) (w_preV hK hW hL_a0 hK_a0 (by decide) rfl) rfl rfl hl.1 rfl (lv_room (Nat.le_of_ble_eq_true rfl)) dL_answer_4 ⟨Nat.le_of_ble_eq_true rfl, Nat.le_of_ble_eq_true rfl⟩) hW (fun E ce q9 S9 H locs hp hW h1 h2 h3 => ?_) (fun r_1 S_2 H locs hp hW => ?_)
  · obtain ⟨hX_9, hp⟩ := hp
    have hE := hE.trans hX_9
    obtain ⟨z0, htl, ez0⟩ := x_tab1 htab
    rcases hp with ⟨hEe, hp⟩
    · subst hEe
      refine x_catch (nm := "java/util/NoSuchElementException") F hK [] z0 [] (by rw [htl]; rfl) ez0 (by decide) (by decide) (fun z hz => nomatch hz) (hwg _ wc_RL_115) (by decide +kernel) h1 h2 h3 ?_
      refine W.widen (k := 1) (n := 6) (by decide) (by decide) ?_
      refine lv_astore_n (lv' := [(3, .ref q9), (0, .ref a0), (1, .int x1), (2, .ref a2)]) hx hb dL_answer_12 rfl hl (by decide) rfl (fun ls hl => ?_)
      refine lv_iconst (v := 1) hx hb dL_answer_13 (by decide) ?_
      refine vx_ret ?_
      exact w_iret hx hb hr hlocks hW ⟨hE, hp⟩ dL_answer_14
  · obtain ⟨hX_S_2, hp⟩ := hp
    refine W.widen (k := 1) (n := 6) (by decide) (by decide) ?_
    have hE := hE.trans hX_S_2
    have hK_a0 : sK S_2 a0 = 16 := (hX_S_2.2 a0 hL_a0).1.trans hK_a0
    have hL_a0 : wM D S_2 a0 := hX_S_2.M hL_a0
    have hK_a2 : sK S_2 a2 = 22 := (hX_S_2.2 a2 hL_a2).1.trans hK_a2
    have hL_a2 : wM D S_2 a2 := hX_S_2.M hL_a2
    refine lv_i2l (v := (Int32.toInt64 r_1)) hx hb dL_answer_7 rfl ?_
    obtain ⟨h_3m, h_3, hp⟩ := hp
    refine w_lst F hK hW h_3m hK_a2 h_3 dL_answer_8 (fun H locs hW => ?_)
    obtain ⟨S_4, eS_4⟩ : ∃ z : wS, z = uJ S_2 a2 ((0 : Int32)).toNatClampNeg (Int32.toInt64 r_1) := ⟨_, rfl⟩
    rw [← eS_4] at hW
    replace hp := hp S_4 eS_4
    have hX_S_4 : wX D S_2 S_4 := by rw [eS_4]; exact wX_uJ
    have hE := hE.trans hX_S_4
    have hK_a0 : sK S_4 a0 = 16 := (hX_S_4.2 a0 hL_a0).1.trans hK_a0
    have hL_a0 : wM D S_4 a0 := hX_S_4.M hL_a0
    have hK_a2 : sK S_4 a2 = 22 := (hX_S_4.2 a2 hL_a2).1.trans hK_a2
    have hL_a2 : wM D S_4 a2 := hX_S_4.M hL_a2
    refine lv_goto (tgt := 15) hx hb dL_answer_9 (by decide) ?_
    refine lv_iconst (v := 0) hx hb dL_answer_15 (by decide) ?_
    refine vx_ret ?_
    exact w_iret hx hb hr hlocks hW ⟨hE, hp⟩ dL_answer_16
set_option maxHeartbeats 4000000 in
set_option maxRecDepth 100000 in
theorem c_L_answer (l : Launch) {D : wD} {cy : Nat → ClassId} {X : va_W} {S0 : wS} {post : Int32 → wS → Prop} (hl0 : l.stackTraces = false) {a0 : Nat} {x1 : Int32} {a2 : Nat} (hL_a0 : wM D S0 a0) (hK_a0 : sK S0 a0 = 16) (hL_a2 : wM D S0 a2) (hK_a2 : sK S0 a2 = 22) (hp : wp_L_answer D post S0 a0 x1 a2) : xI D cy X l yL_answer wz_L_answer r_L_answer [.ref a0, .int x1, .ref a2] S0 (fun r S9 => wX D S0 S9 ∧ post r S9) (fun _ _ => False) := by
  intro sz
  refine vx_ofWH (hh := [(0, 9, 12, 115)]) (cc := cL_answer) (maxL := 4) (ret := (some .int)) (by decide) rfl ?_
  intro p e s m args below meth c s₁ B hml hv
  obtain ⟨rfl, hsz, hP, hK, hD0, hRO⟩ := hv
  have hts := atoms_spec (ws := wz_L_answer) B.pre
  have hown : s.vm.findClass RL = some m.cls := findClass_of_methodNamed B.named
  subst hsz
  have hD := hD0.self (sz := s.heap.size)
  have F : CallFix p m c cL_answer 4 s _ wz_L_answer RL := ⟨B.exec, B.bytes, hml, hown, hts⟩
  have htab : c.exceptionTable.toList.map xhF = [(0, 9, 12, 115)] := by
    obtain ⟨m9, meth9, c9, g0, g1, g2, -, -, g3, -⟩ := Cond.codeWith_spec (hts _ List.mem_cons_self)
    cases Option.some.inj (g0.symm.trans B.named)
    cases Option.some.inj (g1.symm.trans B.method)
    cases Option.some.inj (g2.symm.trans (Stand.of_body B).code)
    exact g3
  have hr := B.returns
  have hlocks := B.notSynchronized
  generalize hAe : va_A (wL cy X S0) s.heap.size = A at hD hK ⊢
  have hA : ∀ q, s.heap.size ≤ q → A q := fun q h => by rw [← hAe]; exact Or.inr h
  have hW : wO D cy X A s.heap S0 s.heap [] := ⟨hP, hD, va_S.rf, hA, hRO⟩
  have hl := lv_entry ([.ref a0, .int x1, .ref a2]) (n := 4) (Nat.le_of_ble_eq_true rfl)
  rw [lg_entry_eq]
  generalize (lg_sl ([.ref a0, .int x1, .ref a2]) ++ List.replicate (4 - (lg_sl ([.ref a0, .int x1, .ref a2])).length) Slot.unset).toArray = ls at hl ⊢
  have hl : lv_has ls 4 [(0, .ref a0), (1, .int x1), (2, .ref a2)] := hl
  unfold wp_L_answer at hp
  exact t_L_answer_0 F hr hlocks hK hl0 htab hp hW wX.rf (lv_sub hl [0, 1, 2] rfl) hL_a0 hK_a0 hL_a2 hK_a2
def wp_L_meanLength_0 (D : wD) (post : Int32 → wS → Prop)  (S : wS) (a0 : Nat) (x1 : Int32) (a2 : Nat) : Prop :=
wp_X11_meanLength D (fun r_1 S_2 => 
a2 ∈ sL S_2 ∧ vp_in (0 : Int32) (sN S_2 a2) ∧
∀ S_4 : wS, S_4 = uJ S_2 a2 ((0 : Int32)).toNatClampNeg (UInt64.toInt64 r_1) →
post (0 : Int32) S_4) (fun E_9 S9 => (E_9 = "java/lang/IndexOutOfBoundsException" ∧ post (1 : Int32) S9)) S a0 x1
abbrev r_L_meanLength : Room := { frames := 8, cells := 1, slots := 6, locals := 165 }
def wp_L_meanLength (D : wD) (post : Int32 → wS → Prop) (S : wS) (a0 : Nat) (x1 : Int32) (a2 : Nat) : Prop := wp_L_meanLength_0 D post S a0 x1 a2
set_option maxHeartbeats 4000000 in
set_option maxRecDepth 100000 in
theorem t_L_meanLength_0 {p : Program} {l : Launch} {e : Env} {s : State} {m : MethodId} {args : Array Value} {below : List Frame} {meth : Method} {c : Code} {D : wD} {cy : Nat → ClassId} {X : va_W} {A : Nat → Prop} {S0 : wS} {post : Int32 → wS → Prop} (F : CallFix p m c cL_meanLength 4 s args wz_L_meanLength RL) (hr : meth.sig.returnType = (some .int)) (hlocks : meth.locks = false) (hK : wK D cy A s) (hl0 : l.stackTraces = false) (htab : c.exceptionTable.toList.map xhF = [(0, 8, 11, 18)]) : ∀ {S : wS} {H : Heap} {locs : List Loc} {ls : Array Slot} {a0 : Nat} {x1 : Int32} {a2 : Nat}, wp_L_meanLength_0 D post S a0 x1 a2 → wO D cy X A s.heap S H locs → wX D S0 S → lv_has ls 4 [(0, .ref a0), (1, .int x1), (2, .ref a2)] → wM D S a0 → sK S a0 = 16 → wM D S a2 → sK S a2 = 25 → W p l e r_L_meanLength s m args below meth c H locs 0 0 (vx_MQ below (va_Qi (fun r S9 => wX D S0 S9 ∧ post r S9) (wB D cy X A) A) (wEx D cy X A (fun _ _ => False)) args s 1 6 A) (F0 m 0 ls []) := by
  obtain ⟨hx, hb, hml, hown, hts⟩ := id F
  have hwg : ∀ w ∈ WG, w.before args s = true := fun w h => hts w (List.mem_cons_of_mem _ h)
  intro S H locs ls a0 x1 a2 hp hW hE hl hL_a0 hK_a0 hL_a2 hK_a2
  unfold wp_L_meanLength_0 at hp
  refine lv_aload_n hx hb dL_meanLength_0 rfl (lv_at hl 2 rfl) ?_
  refine lv_iconst (v := 0) hx hb dL_meanLength_1 (by decide) ?_
  refine lv_aload_n hx hb dL_meanLength_2 rfl (lv_at hl 0 rfl) ?_
  refine lv_iload_n hx hb dL_meanLength_3 rfl (lv_at hl 1 rfl) ?_
  refine x_callD (vx_runV (As := [.int x1]) (rest := [.int (0 : Int32), .ref a2]) F (c_X11_meanLength l hl0 hL_a0 hK_a0 hp H.size) (cwV (C := RX11) 1 hts (wg_V wm_RL_163 wy_X11_meanLength) rfl rfl rfl (by decide +kernel) ⟨Nat.le_of_ble_eq_true rfl, Nat.le_of_ble_eq_true rfl⟩) (w_preV hK hW hL_a0 hK_a0 (by decide) rfl) rfl rfl hl.1 rfl (lv_room (Nat.le_of_ble_eq_true rfl)) dL_meanLength_4 ⟨Nat.le_of_ble_eq_true rfl, Nat.le_of_ble_eq_true rfl⟩) hW (fun E ce q9 S9 H locs hp hW h1 h2 h3 => ?_) (fun r_1 S_2 H locs hp hW => ?_)
  · obtain ⟨hX_9, hp⟩ := hp
    have hE := hE.trans hX_9
    obtain ⟨z0, htl, ez0⟩ := x_tab1 htab
    rcases hp with ⟨hEe, hp⟩
    · subst hEe
      refine x_catch (nm := "java/lang/IndexOutOfBoundsException") F hK [] z0 [] (by rw [htl]; rfl) ez0 (by decide) (by decide) (fun z hz => nomatch hz) (hwg _ wc_RL_18) (by decide +kernel) h1 h2 h3 ?_
      refine W.widen (k := 1) (n := 6) (by decide) (by decide) ?_
      refine lv_astore_n (lv' := [(3, .ref q9), (0, .ref a0), (1, .int x1), (2, .ref a2)]) hx hb dL_meanLength_11 rfl hl (by decide) rfl (fun ls hl => ?_)
      refine lv_iconst (v := 1) hx hb dL_meanLength_12 (by decide) ?_
      refine vx_ret ?_
      exact w_iret hx hb hr hlocks hW ⟨hE, hp⟩ dL_meanLength_13
  · obtain ⟨hX_S_2, hp⟩ := hp
    refine W.widen (k := 1) (n := 6) (by decide) (by decide) ?_
    have hE := hE.trans hX_S_2
    have hK_a0 : sK S_2 a0 = 16 := (hX_S_2.2 a0 hL_a0).1.trans hK_a0
    have hL_a0 : wM D S_2 a0 := hX_S_2.M hL_a0
    have hK_a2 : sK S_2 a2 = 25 := (hX_S_2.2 a2 hL_a2).1.trans hK_a2
    have hL_a2 : wM D S_2 a2 := hX_S_2.M hL_a2
    obtain ⟨h_3m, h_3, hp⟩ := hp
    refine w_dst F hK hW h_3m hK_a2 h_3 dL_meanLength_7 (fun H locs hW => ?_)
    obtain ⟨S_4, eS_4⟩ : ∃ z : wS, z = uJ S_2 a2 ((0 : Int32)).toNatClampNeg (UInt64.toInt64 r_1) := ⟨_, rfl⟩
    rw [← eS_4] at hW
    replace hp := hp S_4 eS_4
    have hX_S_4 : wX D S_2 S_4 := by rw [eS_4]; exact wX_uJ
    have hE := hE.trans hX_S_4
    have hK_a0 : sK S_4 a0 = 16 := (hX_S_4.2 a0 hL_a0).1.trans hK_a0
    have hL_a0 : wM D S_4 a0 := hX_S_4.M hL_a0
    have hK_a2 : sK S_4 a2 = 25 := (hX_S_4.2 a2 hL_a2).1.trans hK_a2
    have hL_a2 : wM D S_4 a2 := hX_S_4.M hL_a2
    refine lv_goto (tgt := 14) hx hb dL_meanLength_8 (by decide) ?_
    refine lv_iconst (v := 0) hx hb dL_meanLength_14 (by decide) ?_
    refine vx_ret ?_
    exact w_iret hx hb hr hlocks hW ⟨hE, hp⟩ dL_meanLength_15
set_option maxHeartbeats 4000000 in
set_option maxRecDepth 100000 in
theorem c_L_meanLength (l : Launch) {D : wD} {cy : Nat → ClassId} {X : va_W} {S0 : wS} {post : Int32 → wS → Prop} (hl0 : l.stackTraces = false) {a0 : Nat} {x1 : Int32} {a2 : Nat} (hL_a0 : wM D S0 a0) (hK_a0 : sK S0 a0 = 16) (hL_a2 : wM D S0 a2) (hK_a2 : sK S0 a2 = 25) (hp : wp_L_meanLength D post S0 a0 x1 a2) : xI D cy X l yL_meanLength wz_L_meanLength r_L_meanLength [.ref a0, .int x1, .ref a2] S0 (fun r S9 => wX D S0 S9 ∧ post r S9) (fun _ _ => False) := by
  intro sz
  refine vx_ofWH (hh := [(0, 8, 11, 18)]) (cc := cL_meanLength) (maxL := 4) (ret := (some .int)) (by decide) rfl ?_
  intro p e s m args below meth c s₁ B hml hv
  obtain ⟨rfl, hsz, hP, hK, hD0, hRO⟩ := hv
  have hts := atoms_spec (ws := wz_L_meanLength) B.pre
  have hown : s.vm.findClass RL = some m.cls := findClass_of_methodNamed B.named
  subst hsz
  have hD := hD0.self (sz := s.heap.size)
  have F : CallFix p m c cL_meanLength 4 s _ wz_L_meanLength RL := ⟨B.exec, B.bytes, hml, hown, hts⟩
  have htab : c.exceptionTable.toList.map xhF = [(0, 8, 11, 18)] := by
    obtain ⟨m9, meth9, c9, g0, g1, g2, -, -, g3, -⟩ := Cond.codeWith_spec (hts _ List.mem_cons_self)
    cases Option.some.inj (g0.symm.trans B.named)
    cases Option.some.inj (g1.symm.trans B.method)
    cases Option.some.inj (g2.symm.trans (Stand.of_body B).code)
    exact g3
  have hr := B.returns
  have hlocks := B.notSynchronized
  generalize hAe : va_A (wL cy X S0) s.heap.size = A at hD hK ⊢
  have hA : ∀ q, s.heap.size ≤ q → A q := fun q h => by rw [← hAe]; exact Or.inr h
  have hW : wO D cy X A s.heap S0 s.heap [] := ⟨hP, hD, va_S.rf, hA, hRO⟩
  have hl := lv_entry ([.ref a0, .int x1, .ref a2]) (n := 4) (Nat.le_of_ble_eq_true rfl)
  rw [lg_entry_eq]
  generalize (lg_sl ([.ref a0, .int x1, .ref a2]) ++ List.replicate (4 - (lg_sl ([.ref a0, .int x1, .ref a2])).length) Slot.unset).toArray = ls at hl ⊢
  have hl : lv_has ls 4 [(0, .ref a0), (1, .int x1), (2, .ref a2)] := hl
  unfold wp_L_meanLength at hp
  exact t_L_meanLength_0 F hr hlocks hK hl0 htab hp hW wX.rf (lv_sub hl [0, 1, 2] rfl) hL_a0 hK_a0 hL_a2 hK_a2
def wp_L_shareWon_0 (D : wD) (post : Int32 → wS → Prop)  (S : wS) (a0 : Nat) (x1 : Int32) (a2 : Nat) : Prop :=
wp_X11_shareWon D (fun r_1 S_2 => 
vf_n64 (FP.f2d r_1) ∧
a2 ∈ sL S_2 ∧ vp_in (0 : Int32) (sN S_2 a2) ∧
∀ S_5 : wS, S_5 = uJ S_2 a2 ((0 : Int32)).toNatClampNeg (UInt64.toInt64 (FP.f2d r_1)) →
post (0 : Int32) S_5) (fun E_9 S9 => (E_9 = "java/lang/IndexOutOfBoundsException" ∧ post (1 : Int32) S9)) S a0 x1
abbrev r_L_shareWon : Room := { frames := 8, cells := 1, slots := 6, locals := 164 }
def wp_L_shareWon (D : wD) (post : Int32 → wS → Prop) (S : wS) (a0 : Nat) (x1 : Int32) (a2 : Nat) : Prop := wp_L_shareWon_0 D post S a0 x1 a2
set_option maxHeartbeats 4000000 in
set_option maxRecDepth 100000 in
theorem t_L_shareWon_0 {p : Program} {l : Launch} {e : Env} {s : State} {m : MethodId} {args : Array Value} {below : List Frame} {meth : Method} {c : Code} {D : wD} {cy : Nat → ClassId} {X : va_W} {A : Nat → Prop} {S0 : wS} {post : Int32 → wS → Prop} (F : CallFix p m c cL_shareWon 4 s args wz_L_shareWon RL) (hr : meth.sig.returnType = (some .int)) (hlocks : meth.locks = false) (hK : wK D cy A s) (hl0 : l.stackTraces = false) (htab : c.exceptionTable.toList.map xhF = [(0, 9, 12, 18)]) : ∀ {S : wS} {H : Heap} {locs : List Loc} {ls : Array Slot} {a0 : Nat} {x1 : Int32} {a2 : Nat}, wp_L_shareWon_0 D post S a0 x1 a2 → wO D cy X A s.heap S H locs → wX D S0 S → lv_has ls 4 [(0, .ref a0), (1, .int x1), (2, .ref a2)] → wM D S a0 → sK S a0 = 16 → wM D S a2 → sK S a2 = 25 → W p l e r_L_shareWon s m args below meth c H locs 0 0 (vx_MQ below (va_Qi (fun r S9 => wX D S0 S9 ∧ post r S9) (wB D cy X A) A) (wEx D cy X A (fun _ _ => False)) args s 1 6 A) (F0 m 0 ls []) := by
  obtain ⟨hx, hb, hml, hown, hts⟩ := id F
  have hwg : ∀ w ∈ WG, w.before args s = true := fun w h => hts w (List.mem_cons_of_mem _ h)
  intro S H locs ls a0 x1 a2 hp hW hE hl hL_a0 hK_a0 hL_a2 hK_a2
  unfold wp_L_shareWon_0 at hp
  refine lv_aload_n hx hb dL_shareWon_0 rfl (lv_at hl 2 rfl) ?_
  refine lv_iconst (v := 0) hx hb dL_shareWon_1 (by decide) ?_
  refine lv_aload_n hx hb dL_shareWon_2 rfl (lv_at hl 0 rfl) ?_
  refine lv_iload_n hx hb dL_shareWon_3 rfl (lv_at hl 1 rfl) ?_
  refine x_callF (vx_runV (As := [.int x1]) (rest := [.int (0 : Int32), .ref a2]) F (c_X11_shareWon l hl0 hL_a0 hK_a0 hp H.size) (cwV (C := RX11) 1 hts (wg_V wm_RL_167 wy_X11_shareWon) rfl rfl rfl (by decide +kernel) ⟨Nat.le_of_ble_eq_true rfl, Nat.le_of_ble_eq_true rfl⟩) (w_preV hK hW hL_a0 hK_a0 (by decide) rfl) rfl rfl hl.1 rfl (lv_room (Nat.le_of_ble_eq_true rfl)) dL_shareWon_4 ⟨Nat.le_of_ble_eq_true rfl, Nat.le_of_ble_eq_true rfl⟩) hW (fun E ce q9 S9 H locs hp hW h1 h2 h3 => ?_) (fun r_1 S_2 H locs hp hW => ?_)
  · obtain ⟨hX_9, hp⟩ := hp
    have hE := hE.trans hX_9
    obtain ⟨z0, htl, ez0⟩ := x_tab1 htab
    rcases hp with ⟨hEe, hp⟩
    · subst hEe
      refine x_catch (nm := "java/lang/IndexOutOfBoundsException") F hK [] z0 [] (by rw [htl]; rfl) ez0 (by decide) (by decide) (fun z hz => nomatch hz) (hwg _ wc_RL_18) (by decide +kernel) h1 h2 h3 ?_
      refine W.widen (k := 1) (n := 6) (by decide) (by decide) ?_
      refine lv_astore_n (lv' := [(3, .ref q9), (0, .ref a0), (1, .int x1), (2, .ref a2)]) hx hb dL_shareWon_12 rfl hl (by decide) rfl (fun ls hl => ?_)
      refine lv_iconst (v := 1) hx hb dL_shareWon_13 (by decide) ?_
      refine vx_ret ?_
      exact w_iret hx hb hr hlocks hW ⟨hE, hp⟩ dL_shareWon_14
  · obtain ⟨hX_S_2, hp⟩ := hp
    refine W.widen (k := 1) (n := 6) (by decide) (by decide) ?_
    have hE := hE.trans hX_S_2
    have hK_a0 : sK S_2 a0 = 16 := (hX_S_2.2 a0 hL_a0).1.trans hK_a0
    have hL_a0 : wM D S_2 a0 := hX_S_2.M hL_a0
    have hK_a2 : sK S_2 a2 = 25 := (hX_S_2.2 a2 hL_a2).1.trans hK_a2
    have hL_a2 : wM D S_2 a2 := hX_S_2.M hL_a2
    obtain ⟨h_3, hp⟩ := hp
    refine lv_f2d hx hb dL_shareWon_7 h_3 ?_
    obtain ⟨h_4m, h_4, hp⟩ := hp
    refine w_dst F hK hW h_4m hK_a2 h_4 dL_shareWon_8 (fun H locs hW => ?_)
    obtain ⟨S_5, eS_5⟩ : ∃ z : wS, z = uJ S_2 a2 ((0 : Int32)).toNatClampNeg (UInt64.toInt64 (FP.f2d r_1)) := ⟨_, rfl⟩
    rw [← eS_5] at hW
    replace hp := hp S_5 eS_5
    have hX_S_5 : wX D S_2 S_5 := by rw [eS_5]; exact wX_uJ
    have hE := hE.trans hX_S_5
    have hK_a0 : sK S_5 a0 = 16 := (hX_S_5.2 a0 hL_a0).1.trans hK_a0
    have hL_a0 : wM D S_5 a0 := hX_S_5.M hL_a0
    have hK_a2 : sK S_5 a2 = 25 := (hX_S_5.2 a2 hL_a2).1.trans hK_a2
    have hL_a2 : wM D S_5 a2 := hX_S_5.M hL_a2
    refine lv_goto (tgt := 15) hx hb dL_shareWon_9 (by decide) ?_
    refine lv_iconst (v := 0) hx hb dL_shareWon_15 (by decide) ?_
    refine vx_ret ?_
    exact w_iret hx hb hr hlocks hW ⟨hE, hp⟩ dL_shareWon_16
set_option maxHeartbeats 4000000 in
set_option maxRecDepth 100000 in
theorem c_L_shareWon (l : Launch) {D : wD} {cy : Nat → ClassId} {X : va_W} {S0 : wS} {post : Int32 → wS → Prop} (hl0 : l.stackTraces = false) {a0 : Nat} {x1 : Int32} {a2 : Nat} (hL_a0 : wM D S0 a0) (hK_a0 : sK S0 a0 = 16) (hL_a2 : wM D S0 a2) (hK_a2 : sK S0 a2 = 25) (hp : wp_L_shareWon D post S0 a0 x1 a2) : xI D cy X l yL_shareWon wz_L_shareWon r_L_shareWon [.ref a0, .int x1, .ref a2] S0 (fun r S9 => wX D S0 S9 ∧ post r S9) (fun _ _ => False) := by
  intro sz
  refine vx_ofWH (hh := [(0, 9, 12, 18)]) (cc := cL_shareWon) (maxL := 4) (ret := (some .int)) (by decide) rfl ?_
  intro p e s m args below meth c s₁ B hml hv
  obtain ⟨rfl, hsz, hP, hK, hD0, hRO⟩ := hv
  have hts := atoms_spec (ws := wz_L_shareWon) B.pre
  have hown : s.vm.findClass RL = some m.cls := findClass_of_methodNamed B.named
  subst hsz
  have hD := hD0.self (sz := s.heap.size)
  have F : CallFix p m c cL_shareWon 4 s _ wz_L_shareWon RL := ⟨B.exec, B.bytes, hml, hown, hts⟩
  have htab : c.exceptionTable.toList.map xhF = [(0, 9, 12, 18)] := by
    obtain ⟨m9, meth9, c9, g0, g1, g2, -, -, g3, -⟩ := Cond.codeWith_spec (hts _ List.mem_cons_self)
    cases Option.some.inj (g0.symm.trans B.named)
    cases Option.some.inj (g1.symm.trans B.method)
    cases Option.some.inj (g2.symm.trans (Stand.of_body B).code)
    exact g3
  have hr := B.returns
  have hlocks := B.notSynchronized
  generalize hAe : va_A (wL cy X S0) s.heap.size = A at hD hK ⊢
  have hA : ∀ q, s.heap.size ≤ q → A q := fun q h => by rw [← hAe]; exact Or.inr h
  have hW : wO D cy X A s.heap S0 s.heap [] := ⟨hP, hD, va_S.rf, hA, hRO⟩
  have hl := lv_entry ([.ref a0, .int x1, .ref a2]) (n := 4) (Nat.le_of_ble_eq_true rfl)
  rw [lg_entry_eq]
  generalize (lg_sl ([.ref a0, .int x1, .ref a2]) ++ List.replicate (4 - (lg_sl ([.ref a0, .int x1, .ref a2])).length) Slot.unset).toArray = ls at hl ⊢
  have hl : lv_has ls 4 [(0, .ref a0), (1, .int x1), (2, .ref a2)] := hl
  unfold wp_L_shareWon at hp
  exact t_L_shareWon_0 F hr hlocks hK hl0 htab hp hW wX.rf (lv_sub hl [0, 1, 2] rfl) hL_a0 hK_a0 hL_a2 hK_a2
