theorem wsf_mod : Cond.sameField "java/util/ArrayList" "java/util/AbstractList" "modCount" "I" ∈ WG := wt_2 139 (by decide +kernel) rfl
theorem wgc : Cond.selects "[Ljava/lang/Object;" ⟨"java/lang/Object", "getClass", "()Ljava/lang/Class;"⟩ ⟨"java/lang/Object", "getClass", "()Ljava/lang/Class;"⟩ ∈ WG ∧ Cond.instanceMethod ⟨"java/lang/Object", "getClass", "()Ljava/lang/Class;"⟩ ∈ WG ∧ Cond.native ⟨"java/lang/Object", "getClass", "()Ljava/lang/Class;"⟩ ∈ WG := ⟨wt_14 50 (by decide +kernel) rfl, wt_6 50 (by decide +kernel) rfl, wt_6 74 (by decide +kernel) rfl⟩
theorem wm_RJ7_86 : Cond.methodLink RJ7 86 ⟨"java/lang/Object", "getClass", "()Ljava/lang/Class;"⟩ ∈ WG := wt_6 49 (by decide +kernel) rfl
abbrev wz_L_law : List Cond := Cond.initialized RL :: WG
/-! further rows -/
section WM
variable {p : Program} {l : Launch} {e : Env} {R : Room} {s : State} {m : MethodId} {args : Array Value} {below : List Frame} {meth : Method} {c : Code} {H : Heap} {locs : List Loc} {cells slots : Nat} {Q : State → Prop} {cc : ByteArray} {nL : Nat} {own : String} {Ts : List Cond} {pc : Nat} {ls : Array Slot} {rest : List Value} {D : wD} {cy : Nat → ClassId} {X : va_W} {A : Nat → Prop} {H0 : Heap} {S : wS} {a : Nat}
theorem w_getS {k f N index : Nat} {C ref : String} {T : u_T} {v : Value} (F : CallFix p m c cc nL s args Ts own) (hK : wK D cy A s) (hW : wO D cy X A s.heap S H locs) (hL : wM D S a) (hk : sK S a = k) (hk2 : k < 20) (hc : vwCl[k]? = some (C, T, N)) (hN : wN k = N) (hf : f < N) (hin : ∀ w ∈ u_ws C T N, w ∈ Ts) (hlink : (Cond.fieldLink own index ref (T f).2.1 (T f).2.2.1).before args s = true) (hsm : (Cond.sameField ref (T f).1 (T f).2.1 (T f).2.2.1).before args s = true) (hv : wv k f S a = v) (hdg : decode cc pc = .ok (.getfield index, 3))
    (kk : W p l e R s m args below meth c H locs cells slots Q (F0 m (pc + 3) ls (v :: rest))) (hk0 : k ≠ 0 := by decide) : W p l e R s m args below meth c H locs cells slots Q (F0 m pc ls (.ref a :: rest)) := by
  obtain ⟨hx, hb, hml, hown, hts⟩ := F
  have hL := w_mut hK hW hL hk hk0 hk2
  obtain ⟨j, hj⟩ := w_own hW hL
  rw [wE_at hk hk2] at hj
  exact va_get (D := D.1) (ci := k) (v := v) hx hb hts hin hown hK.1 hW.1 j hj hc f hf hlink (fun x9 h9 => u_same hsm x9 h9) (by rw [ws_get (by rw [hN]; exact hf), hv]) hdg kk
theorem w_putIS {k f N index : Nat} {C ref : String} {T : u_T} {v : Int32} (F : CallFix p m c cc nL s args Ts own) (hK : wK D cy A s) (hW : wO D cy X A s.heap S H locs) (hM : wM D S a) (hk : sK S a = k) (hk2 : k < 20) (hk0 : k ≠ 0) (hc : vwCl[k]? = some (C, T, N)) (hN : wN k = N) (hf : f < N) (hin : ∀ w ∈ u_ws C T N, w ∈ Ts) (ty0 : Nat → FieldType) (hty : ∀ k, k < N → parseFieldDescriptor (T k).2.2.1 = some (ty0 k)) (hnm : ∀ a, a < N → ∀ b, b < N → a ≠ b → (T a).2.1 ≠ (T b).2.1) (hlink : (Cond.fieldLink own index ref (T f).2.1 (T f).2.2.1).before args s = true) (hsm : (Cond.sameField ref (T f).1 (T f).2.1 (T f).2.2.1).before args s = true) (ht : wt k f = 0) (hfin : (T f).2.2.2 = false) {ty : FieldType} (hd : parseFieldDescriptor (T f).2.2.1 = some ty) (hn : narrow ty (.int v) = .int v) (hfit : fits ty (.int v) = true) (hdg : decode cc pc = .ok (.putfield index, 3))
    (kk : ∀ (H1 : Heap) (locs1 : List Loc), wO D cy X A s.heap (uI S a f v) H1 locs1 → W p l e R s m args below meth c H1 locs1 cells slots Q (F0 m (pc + 3) ls rest)) : W p l e R s m args below meth c H locs cells slots Q (F0 m pc ls (.int v :: .ref a :: rest)) := by
  have hL := w_mut hK hW hM hk hk0 hk2
  obtain ⟨hx, hb, hml, hown, hts⟩ := F
  obtain ⟨j, hj0⟩ := va_pl_get (X := X) (f := wE cy S) hL
  have hj := hj0
  rw [wE_at hk hk2] at hj
  refine va_put (D := D.1) (ci := k) (v := .int v) hx hb hts hin ty0 hty hnm hown hK.1 hW.1 hW.2.1 hW.2.2.1 j hj hc f hf hlink (fun x9 h9 => u_same hsm x9 h9) hfin hd hn hfit (by rw [ws_len, hN]; exact hf) hdg (fun H1 locs1 hP1 hD1 hS1 => kk H1 locs1 ?_)
  have e1 : (wL cy X S).set j (a, .inr (k, (ws_ k S a).set f (.int v))) = wL cy X (uI S a f v) := by
    rw [va_pl_set hW.2.1 hL hj0]
    exact congrArg (fun l => X ++ l) (va_pl_congr (wE_uI hk hk2 ht v))
  rw [e1] at hP1 hD1
  exact ⟨hP1, hD1, hS1, hW.2.2.2.1, wRO_uI hW.2.2.2.2 (w_noRO hK hW hL)⟩
/-! references copied, class objects -/
def uZ (S : wS) (a0 a sp dp n : Nat) : wS := (S.1, S.2.1, S.2.2.1, S.2.2.2.1, S.2.2.2.2.1, va_up (sR S) a (va_cpy (sR S a0) (sR S a) sp dp n))
theorem wX_uZ {a0 sp dp n : Nat} : wX D S (uZ S a0 a sp dp n) := ⟨fun _ h => h, fun _ _ => ⟨rfl, rfl⟩⟩
theorem wE_oZ {a0 sp dp n : Nat} (b : Nat) (hb : b ≠ a) : wE cy (uZ S a0 a sp dp n) b = wE cy S b := wE_ne rfl rfl rfl rfl (by simp [uZ, sR, va_up, hb])
theorem wRO_uZ (h : wRO D S) (ha : a ∉ D.2.1) {a0 sp dp n : Nat} : wRO D (uZ S a0 a sp dp n) := h.put ha (fun b hb => ⟨rfl, rfl, rfl, rfl, by simp [uZ, sR, va_up, hb]⟩)
theorem wE_24 (hk : sK S a = 24) : wE cy S a = .inl (cy 4, sN S a, .inr (.inr (.inr (.inr (sR S a))))) := by simp [wE, hk]
theorem w_copyQ {a0 index : Nat} {sp dp n : Int32} (F : CallFix p m c cc nL s args Ts own) (hK : wK D cy A s) (hW : wO D cy X A s.heap S H locs) (hml' : c.maxLocals = ls.size) (hlink : (Cond.methodLink own index arraycopyName).before args s = true) (hnat : (Cond.native arraycopyName).before args s = true) (hstat : (Cond.static arraycopyName).before args s = true) (hini : (Cond.initialized "java/lang/System").before args s = true)
    (hL0 : a0 ∈ sL S) (hk0 : sK S a0 = 24) (hL : a ∈ sL S) (hk : sK S a = 24)
    (h1 : ¬ sp < 0) (h2 : ¬ dp < 0) (h3 : ¬ n < 0) (h4 : sp.toNatClampNeg + n.toNatClampNeg ≤ sN S a0) (h5 : dp.toNatClampNeg + n.toNatClampNeg ≤ sN S a) (hel : ∀ i, i < n.toNatClampNeg → ∀ y : Nat, sR S a0 (sp.toNatClampNeg + i) = some y → wM D S y ∧ sK S y = 8)
    (hframes : 1 ≤ R.frames) (hlocals : (rest.map fun v => v.category).sum + (nativeFrameWords "java/lang/System" "arraycopy" 5 + 11) ≤ R.locals) (hdg : decode cc pc = .ok (.invokestatic index, 3))
    (kk : ∀ (H1 : Heap) (locs1 : List Loc), wO D cy X A s.heap (uZ S a0 a sp.toNatClampNeg dp.toNatClampNeg n.toNatClampNeg) H1 locs1 → W p l e R s m args below meth c H1 locs1 cells slots Q (F0 m (pc + 3) ls rest)) : W p l e R s m args below meth c H locs cells slots Q (F0 m pc ls (.int n :: .int dp :: .ref a :: .int sp :: .ref a0 :: rest)) := by
  obtain ⟨hx, hb, hml, hown, hts⟩ := F
  obtain ⟨j0, hj00⟩ := w_own hW hL0
  obtain ⟨j, hj0⟩ := w_own hW hL
  have hj := hj0
  rw [wE_24 hk] at hj
  rw [wE_24 hk0] at hj00
  obtain ⟨q, hq, hcw⟩ := w_castObj 8 (by decide)
  refine va_copyq (C := q.1) hx hb hml' hown hlink hnat hstat hini hK.1 hW.1 hW.2.1 hW.2.2.1 j0 j 4 4 hj00 hj rfl rfl h1 h2 h3 h4 h5 (fun i hi y hy => w_recv hK hW (hel i hi y hy).1 (hel i hi y hy).2 (by decide) hq) (fun comp c0 g1 g2 => vb_asgC (hK.2.1 _ hcw) comp c0 g1 g2) hframes hlocals hdg (fun H1 locs1 hP1 hD1 hS1 => kk H1 locs1 ?_)
  rw [va_pl_set hW.2.1 hL hj0, va_pl_congr (wE_row (S' := uZ S a0 a sp.toNatClampNeg dp.toNatClampNeg n.toNatClampNeg) (a := a) (by rw [wE_24 (S := uZ S a0 a sp.toNatClampNeg dp.toNatClampNeg n.toNatClampNeg) hk]; simp [uZ, sR, sN, va_up]) wE_oZ)] at hP1 hD1
  exact ⟨hP1, hD1, hS1, hW.2.2.2.1, wRO_uZ hW.2.2.2.2 (w_noRO hK hW hL)⟩
/-- the class of a row of references -/
theorem w_getC {index : Nat} (F : CallFix p m c cc nL s args Ts own) (hK : wK D cy A s) (hW : wO D cy X A s.heap S H locs) (hml' : c.maxLocals = ls.size) (hlink : (Cond.methodLink own index ⟨"java/lang/Object", "getClass", "()Ljava/lang/Class;"⟩).before args s = true)
    (hsel : (Cond.selects "[Ljava/lang/Object;" ⟨"java/lang/Object", "getClass", "()Ljava/lang/Class;"⟩ ⟨"java/lang/Object", "getClass", "()Ljava/lang/Class;"⟩).before args s = true) (hinst : (Cond.instanceMethod ⟨"java/lang/Object", "getClass", "()Ljava/lang/Class;"⟩).before args s = true) (hnat : (Cond.native ⟨"java/lang/Object", "getClass", "()Ljava/lang/Class;"⟩).before args s = true)
    (hL : wM D S a) (hk : sK S a = 24) (hframes : 1 ≤ R.frames) (hlocals : (rest.map fun v => v.category).sum + 14 ≤ R.locals) (hdg : decode cc pc = .ok (.invokevirtual index, 3))
    (kk : W p l e R s m args below meth c H locs cells slots Q (F0 m (pc + 3) ls (.ref (D.2.2.1 200) :: rest))) : W p l e R s m args below meth c H locs cells slots Q (F0 m pc ls (.ref a :: rest)) := by
  obtain ⟨hx, hb, hml, hown, hts⟩ := F
  have hr : ∃ cell : Cell, H[a]? = some cell ∧ cell.vm.isStatics = false ∧ s.vm.findClass "[Ljava/lang/Object;" = some cell.cls := by
    rcases hL with h | h
    · obtain ⟨j, hj⟩ := w_own hW h
      rw [wE_24 hk] at hj
      exact ⟨_, hW.1 j _ hj, rfl, va_nmO (hK.1.2 4 (cy 4, .object "java/lang/Object") rfl).2 rfl⟩
    · obtain ⟨e1, e2⟩ := w_roK hK hW h
      obtain ⟨cell, f1, f2, f3, -⟩ := ((hK.2.2.1.1 a h).2.2.2.2.2 (e1.symm.trans hk)).2.kept hW.2.2.1.2.1
      exact ⟨cell, f1, f2, f3⟩
  exact va_getC hx hb hml' hown hlink (va_Dc.use hK.2.2.1.2.2.2.2.2.2.2.2.2.2) hsel hinst hnat hK.2.2.1.2.2.2.2.2.2.2.2.2.1 hr hframes hlocals hdg kk
theorem w_ldcM {index : Nat} (F : CallFix p m c cc nL s args Ts own) (hK : wK D cy A s) (hlink : (Cond.classLink own index "[Ljava/lang/Object;").before args s = true) (hdg : decode cc pc = .ok (.ldc index, 2))
    (kk : W p l e R s m args below meth c H locs cells slots Q (F0 m (pc + 2) ls (.ref (D.2.2.1 200) :: rest))) : W p l e R s m args below meth c H locs cells slots Q (F0 m pc ls rest) := by
  obtain ⟨hx, hb, hml, hown, hts⟩ := F
  exact va_ldcM hx hb hown hlink hK.2.2.1.2.2.2.2.2.2.2.2.2.1 hdg kk
end WM
