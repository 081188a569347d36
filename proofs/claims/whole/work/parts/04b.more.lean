theorem wsf_mod : Cond.sameField "java/util/ArrayList" "java/util/AbstractList" "modCount" "I" ∈ WG := wt_2 139 (by decide +kernel) rfl
abbrev wz_L_law : List Cond := Cond.initialized RL :: WG
/-! further rows -/
section WM
variable {p : Program} {l : Launch} {e : Env} {R : Room} {s : State} {m : MethodId} {args : Array Value} {below : List Frame} {meth : Method} {c : Code} {H : Heap} {locs : List Loc} {cells slots : Nat} {Q : State → Prop} {cc : ByteArray} {nL : Nat} {own : String} {Ts : List Cond} {pc : Nat} {ls : Array Slot} {rest : List Value} {D : wD} {cy : Nat → ClassId} {X : va_W} {A : Nat → Prop} {H0 : Heap} {S : wS} {a : Nat}
theorem w_getS {k f N index : Nat} {C ref : String} {T : u_T} {v : Value} (F : CallFix p m c cc nL s args Ts own) (hK : wK D cy A s) (hW : wO D cy X A s.heap S H locs) (hL : wM D S a) (hk : sK S a = k) (hk2 : k < 20) (hc : vwCl[k]? = some (C, T, N)) (hN : wN k = N) (hf : f < N) (hin : ∀ w ∈ u_ws C T N, w ∈ Ts) (hlink : (Cond.fieldLink own index ref (T f).2.1 (T f).2.2.1).before args s = true) (hsm : (Cond.sameField ref (T f).1 (T f).2.1 (T f).2.2.1).before args s = true) (hv : wv k f S a = v) (hdg : decode cc pc = .ok (.getfield index, 3))
    (kk : W p l e R s m args below meth c H locs cells slots Q (F0 m (pc + 3) ls (v :: rest))) : W p l e R s m args below meth c H locs cells slots Q (F0 m pc ls (.ref a :: rest)) := by
  obtain ⟨hx, hb, hml, hown, hts⟩ := F
  obtain ⟨ws, j, hP, hj⟩ := w_any hK hW hL
  rw [wE_at hk hk2] at hj
  exact va_get (D := D.1) (ci := k) (v := v) hx hb hts hin hown hK.1 hP j hj hc f hf hlink (fun x9 h9 => u_same hsm x9 h9) (by rw [ws_get (by rw [hN]; exact hf), hv]) hdg kk
theorem w_putIS {k f N index : Nat} {C ref : String} {T : u_T} {v : Int32} (F : CallFix p m c cc nL s args Ts own) (hK : wK D cy A s) (hW : wO D cy X A s.heap S H locs) (hM : wM D S a) (hk : sK S a = k) (hk2 : k < 20) (hk0 : k ≠ 0) (hc : vwCl[k]? = some (C, T, N)) (hN : wN k = N) (hf : f < N) (hin : ∀ w ∈ u_ws C T N, w ∈ Ts) (ty0 : Nat → FieldType) (hty : ∀ k, k < N → parseFieldDescriptor (T k).2.2.1 = some (ty0 k)) (hnm : ∀ a, a < N → ∀ b, b < N → a ≠ b → (T a).2.1 ≠ (T b).2.1) (hlink : (Cond.fieldLink own index ref (T f).2.1 (T f).2.2.1).before args s = true) (hsm : (Cond.sameField ref (T f).1 (T f).2.1 (T f).2.2.1).before args s = true) (ht : wt k f = 0) (hfin : (T f).2.2.2 = false) {ty : FieldType} (hd : parseFieldDescriptor (T f).2.2.1 = some ty) (hn : narrow ty (.int v) = .int v) (hfit : fits ty (.int v) = true) (hdg : decode cc pc = .ok (.putfield index, 3))
    (kk : ∀ (H1 : Heap) (locs1 : List Loc), wO D cy X A s.heap (uI S a f v) H1 locs1 → W p l e R s m args below meth c H1 locs1 cells slots Q (F0 m (pc + 3) ls rest)) : W p l e R s m args below meth c H locs cells slots Q (F0 m pc ls (.int v :: .ref a :: rest)) := by
  have hL := w_mut hK hW hM hk hk0 hk2
  obtain ⟨hx, hb, hml, hown, hts⟩ := F
  obtain ⟨j, hj0⟩ := va_pl_get (X := X) (f := wE cy S) hL
  have hj := hj0
  rw [wE_at hk hk2] at hj
  refine va_put (D := D.1) (ci := k) (v := .int v) hx hb hts hin ty0 hty hnm hown hK.1 hW.1 hW.2.1 hW.2.2.1 j hj hc f hf hlink (fun x9 h9 => u_same hsm x9 h9) hfin hd hn hfit (by rw [ws_len, hN]; exact hf) hdg (fun H1 locs1 hP1 hD1 hS1 => kk H1 locs1 ?_)
  have e1 : (wL cy X S).set j (a, .inr (k, (ws_ k S a).set f (.int v))) = wL cy X (uI S a f v) := by
    rw [va_pl_set hW.2.1 hL hj0]
    exact congrArg (fun l => X ++ l) (va_pl_congr (wE_uI hk hk2 ht v))
  rw [e1] at hP1 hD1
  exact ⟨hP1, hD1, hS1, hW.2.2.2.1, wRO_uI hW.2.2.2.2 (w_noRO hK hW hL)⟩
end WM
