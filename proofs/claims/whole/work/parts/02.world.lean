/-! the state: cells, kinds, lengths, and what the fields and places hold: ints, longs, references -/
abbrev wS : Type := List Nat × (Nat → Nat) × (Nat → Nat) × (Nat → Nat → Int32) × (Nat → Nat → Int64) × (Nat → Nat → Option Nat)
abbrev sL (S : wS) := S.1
abbrev sK (S : wS) := S.2.1
abbrev sN (S : wS) := S.2.2.1
abbrev sI (S : wS) := S.2.2.2.1
abbrev sJ (S : wS) := S.2.2.2.2.1
abbrev sR (S : wS) := S.2.2.2.2.2
def uI (S : wS) (a f : Nat) (v : Int32) : wS := (S.1, S.2.1, S.2.2.1, va_up (sI S) a (va_up (sI S a) f v), S.2.2.2.2.1, S.2.2.2.2.2)
def uJ (S : wS) (a f : Nat) (v : Int64) : wS := (S.1, S.2.1, S.2.2.1, S.2.2.2.1, va_up (sJ S) a (va_up (sJ S a) f v), S.2.2.2.2.2)
def uR (S : wS) (a f : Nat) (v : Option Nat) : wS := (S.1, S.2.1, S.2.2.1, S.2.2.2.1, S.2.2.2.2.1, va_up (sR S) a (va_up (sR S a) f v))
def wN (k : Nat) : Nat := match k with
  | 0 => 4
  | 1 => 4
  | 2 => 6
  | 3 => 6
  | 4 => 3
  | 5 => 12
  | 6 => 4
  | 7 => 8
  | 8 => 9
  | 9 => 8
  | 10 => 11
  | 11 => 3
  | 12 => 8
  | 13 => 6
  | 14 => 10
  | 15 => 1
  | 16 => 18
  | 17 => 43
  | _ => 0
/-- the sort of a field: 0 int, 1 long, 2 reference -/
def wt (k f : Nat) : Nat := match k with
  | 0 => match f with | 0 => 2 | _ => 0
  | 1 => match f with | 0 => 2 | _ => 0
  | 2 => match f with | 5 => 0 | _ => 2
  | 3 => match f with | 4 => 0 | _ => 2
  | 4 => match f with | 1 => 2 | _ => 0
  | 5 => match f with | 0 => 0 | 1 => 0 | 2 => 0 | 3 => 1 | _ => 2
  | 6 => 2
  | 7 => match f with | 7 => 0 | _ => 2
  | 8 => match f with | 0 => 2 | 1 => 2 | 2 => 2 | _ => 0
  | 9 => match f with | 6 => 0 | 7 => 0 | _ => 2
  | 10 => match f with | 6 => 0 | 7 => 0 | 8 => 0 | 9 => 0 | 10 => 0 | _ => 2
  | 11 => match f with | 2 => 0 | _ => 2
  | 12 => match f with | 0 => 2 | 5 => 0 | 6 => 0 | 7 => 0 | _ => 1
  | 13 => match f with | 0 => 2 | 1 => 0 | 4 => 0 | _ => 1
  | 14 => match f with | 7 => 0 | 8 => 0 | 9 => 0 | _ => 2
  | 15 => 2
  | 16 => match f with | 16 => 0 | 17 => 0 | _ => 2
  | 17 => match f with | 0 => 0 | 1 => 0 | 2 => 0 | 11 => 0 | 13 => 0 | 15 => 0 | 16 => 0 | 24 => 0 | 25 => 0 | 26 => 0 | 27 => 0 | 28 => 0 | 29 => 0 | 39 => 0 | _ => 2
  | _ => 0
def wv (k f : Nat) (S : wS) (a : Nat) : Value := if wt k f = 0 then .int (sI S a f) else if wt k f = 1 then .long (sJ S a f) else va_rf (sR S a f)
def ws_ (k : Nat) (S : wS) (a : Nat) : List Value := (List.range (wN k)).map (fun f => wv k f S a)
def wE (cy : Nat → ClassId) (S : wS) (a : Nat) : va_E := if sK S a < 20 then .inr (sK S a, ws_ (sK S a) S a) else if sK S a = 20 then .inl (cy 0, sN S a, .inl (sI S a)) else if sK S a = 21 then .inl (cy 1, sN S a, .inl (sI S a)) else if sK S a = 22 then .inl (cy 2, sN S a, .inr (.inl (sJ S a))) else if sK S a = 23 then .inl (cy 3, sN S a, .inl (sI S a)) else .inl (cy 4, sN S a, .inr (.inr (.inr (.inr (sR S a)))))
/-- the links between nest mates that are used -/
def wNW : List Cond := [.fieldLinkNest "OpeningsCabinet" 154 "OpeningsCabinet$Board" "size" "I" "OpeningsCabinet", .fieldLinkNest "OpeningsCabinet" 157 "OpeningsCabinet$Game" "length" "I" "OpeningsCabinet", .fieldLinkNest "OpeningsCabinet" 175 "OpeningsCabinet$Position" "rights" "I" "OpeningsCabinet", .fieldLinkNest "OpeningsCabinet" 178 "OpeningsCabinet$Position" "passing" "I" "OpeningsCabinet", .fieldLinkNest "OpeningsCabinet" 183 "OpeningsCabinet$Position" "isWhite" "Z" "OpeningsCabinet", .fieldLinkNest "OpeningsCabinet" 252 "OpeningsCabinet$Board" "files" "I" "OpeningsCabinet", .fieldLinkNest "OpeningsCabinet" 298 "OpeningsCabinet$Game" "places" "[J" "OpeningsCabinet", .fieldLinkNest "OpeningsCabinet" 336 "OpeningsCabinet$MovesReader" "movesAside" "I" "OpeningsCabinet", .fieldLinkNest "OpeningsCabinet" 416 "OpeningsCabinet$Game" "box" "I" "OpeningsCabinet", .fieldLinkNest "OpeningsCabinet" 419 "OpeningsCabinet$Game" "due" "I" "OpeningsCabinet", .fieldLinkNest "OpeningsCabinet" 435 "OpeningsCabinet$Search" "mateLength" "I" "OpeningsCabinet", .fieldLinkNest "OpeningsCabinet" 438 "OpeningsCabinet$Search" "keys" "I" "OpeningsCabinet", .fieldLinkNest "OpeningsCabinet" 443 "OpeningsCabinet$Search" "earliestKey" "I" "OpeningsCabinet", .fieldLinkNest "OpeningsCabinet" 508 "OpeningsCabinet$MoveList" "size" "I" "OpeningsCabinet", .fieldLinkNest "OpeningsCabinet$Continuations" 48 "OpeningsCabinet$Game" "length" "I" "OpeningsCabinet", .fieldLinkNest "OpeningsCabinet$Continuations" 54 "OpeningsCabinet$Game" "places" "[J" "OpeningsCabinet", .fieldLinkNest "OpeningsCabinet$Continuations" 74 "OpeningsCabinet$MoveList" "size" "I" "OpeningsCabinet", .fieldLinkNest "OpeningsCabinet$Endings" 104 "OpeningsCabinet$Board" "size" "I" "OpeningsCabinet", .fieldLinkNest "OpeningsCabinet$Endings" 71 "OpeningsCabinet$Position" "rights" "I" "OpeningsCabinet", .fieldLinkNest "OpeningsCabinet$Endings" 74 "OpeningsCabinet$Position" "passing" "I" "OpeningsCabinet", .fieldLinkNest "OpeningsCabinet$Endings" 88 "OpeningsCabinet$Position" "isWhite" "Z" "OpeningsCabinet", .fieldLinkNest "OpeningsCabinet$MoveList" 81 "OpeningsCabinet$Position" "passing" "I" "OpeningsCabinet", .fieldLinkNest "OpeningsCabinet$Papers" 30 "OpeningsCabinet$Board" "ranks" "I" "OpeningsCabinet", .fieldLinkNest "OpeningsCabinet$Papers" 43 "OpeningsCabinet$Position" "isWhite" "Z" "OpeningsCabinet", .fieldLinkNest "OpeningsCabinet$Papers" 56 "OpeningsCabinet$Position" "rights" "I" "OpeningsCabinet", .fieldLinkNest "OpeningsCabinet$Papers" 71 "OpeningsCabinet$Position" "passing" "I" "OpeningsCabinet", .fieldLinkNest "OpeningsCabinet$Papers" 81 "OpeningsCabinet$Board" "files" "I" "OpeningsCabinet", .fieldLinkNest "OpeningsCabinet$Position" 103 "OpeningsCabinet$Board" "knightSteps" "[J" "OpeningsCabinet", .fieldLinkNest "OpeningsCabinet$Position" 128 "OpeningsCabinet$Board" "edges" "J" "OpeningsCabinet", .fieldLinkNest "OpeningsCabinet$Position" 135 "OpeningsCabinet$Board" "size" "I" "OpeningsCabinet", .fieldLinkNest "OpeningsCabinet$Position" 138 "OpeningsCabinet$Board" "files" "I" "OpeningsCabinet", .fieldLinkNest "OpeningsCabinet$Position" 99 "OpeningsCabinet$Board" "kingSteps" "[J" "OpeningsCabinet", .fieldLinkNest "OpeningsCabinet$Rules" 107 "OpeningsCabinet$Position" "passing" "I" "OpeningsCabinet", .fieldLinkNest "OpeningsCabinet$Rules" 110 "OpeningsCabinet$Board" "files" "I" "OpeningsCabinet", .fieldLinkNest "OpeningsCabinet$Rules" 120 "OpeningsCabinet$Board" "ranks" "I" "OpeningsCabinet", .fieldLinkNest "OpeningsCabinet$Rules" 127 "OpeningsCabinet$Position" "rights" "I" "OpeningsCabinet", .fieldLinkNest "OpeningsCabinet$Rules" 33 "OpeningsCabinet$Position" "isWhite" "Z" "OpeningsCabinet", .fieldLinkNest "OpeningsCabinet$Rules" 65 "OpeningsCabinet$Board" "size" "I" "OpeningsCabinet", .fieldLinkNest "OpeningsCabinet$Rules" 90 "OpeningsCabinet$Board" "edges" "J" "OpeningsCabinet", .fieldLinkNest "OpeningsCabinet$Shelf" 100 "OpeningsCabinet$Game" "due" "I" "OpeningsCabinet", .fieldLinkNest "OpeningsCabinet$Shelf" 103 "OpeningsCabinet$Game" "box" "I" "OpeningsCabinet", .fieldLinkNest "OpeningsCabinet$Shelf" 31 "OpeningsCabinet$Game" "length" "I" "OpeningsCabinet", .fieldLinkNest "OpeningsCabinet$Shelf" 63 "OpeningsCabinet$Game" "places" "[J" "OpeningsCabinet", .fieldLinkNest "OpeningsCabinet$Shelf" 77 "OpeningsCabinet$Game" "result" "I" "OpeningsCabinet", .fieldLinkNest "OpeningsCabinet$Shelf" 84 "OpeningsCabinet$Game" "year" "I" "OpeningsCabinet", .fieldLinkNest "OpeningsCabinet$Shelf" 87 "OpeningsCabinet$Game" "strength" "I" "OpeningsCabinet", .methodLinkNest "OpeningsCabinet" 11 ⟨"OpeningsCabinet$Board", "<init>", "()V"⟩ "OpeningsCabinet", .methodLinkNest "OpeningsCabinet" 71 ⟨"OpeningsCabinet$Shelf", "<init>", "()V"⟩ "OpeningsCabinet", .methodLinkNest "OpeningsCabinet$Endings" 134 ⟨"OpeningsCabinet", "contains", "(JI)Z"⟩ "OpeningsCabinet", .methodLinkNest "OpeningsCabinet$Endings" 81 ⟨"OpeningsCabinet", "lowest", "(J)I"⟩ "OpeningsCabinet", .methodLinkNest "OpeningsCabinet$Game" 73 ⟨"OpeningsCabinet", "fromOf", "(I)I"⟩ "OpeningsCabinet", .methodLinkNest "OpeningsCabinet$Game" 76 ⟨"OpeningsCabinet", "contains", "(JI)Z"⟩ "OpeningsCabinet", .methodLinkNest "OpeningsCabinet$MoveList" 108 ⟨"OpeningsCabinet", "becomesOf", "(I)I"⟩ "OpeningsCabinet", .methodLinkNest "OpeningsCabinet$MoveList" 68 ⟨"OpeningsCabinet", "fromOf", "(I)I"⟩ "OpeningsCabinet", .methodLinkNest "OpeningsCabinet$MoveList" 71 ⟨"OpeningsCabinet", "toOf", "(I)I"⟩ "OpeningsCabinet", .methodLinkNest "OpeningsCabinet$Position" 144 ⟨"OpeningsCabinet", "fromOf", "(I)I"⟩ "OpeningsCabinet", .methodLinkNest "OpeningsCabinet$Position" 147 ⟨"OpeningsCabinet", "toOf", "(I)I"⟩ "OpeningsCabinet", .methodLinkNest "OpeningsCabinet$Position" 150 ⟨"OpeningsCabinet", "becomesOf", "(I)I"⟩ "OpeningsCabinet", .methodLinkNest "OpeningsCabinet$Position" 79 ⟨"OpeningsCabinet", "contains", "(JI)Z"⟩ "OpeningsCabinet", .methodLinkNest "OpeningsCabinet$Rules" 100 ⟨"OpeningsCabinet", "moveOf", "(III)I"⟩ "OpeningsCabinet", .methodLinkNest "OpeningsCabinet$Rules" 68 ⟨"OpeningsCabinet", "contains", "(JI)Z"⟩ "OpeningsCabinet", .methodLinkNest "OpeningsCabinet$Rules" 97 ⟨"OpeningsCabinet", "lowest", "(J)I"⟩ "OpeningsCabinet"]
def wNk (w : Cond) : Bool := match w with | .fieldLinkNest .. => true | .methodLinkNest .. => true | _ => false
theorem wNW_ok : ∀ w ∈ wNW, wNk w = true := by decide +kernel
abbrev wL (cy : Nat → ClassId) (X : va_W) (S : wS) : va_W := X ++ va_pl (sL S) (wE cy S)
abbrev wT (cy : Nat → ClassId) : List (ClassId × FieldType) := [(cy 0, .byte), (cy 1, .int), (cy 2, .long), (cy 3, .boolean), (cy 4, .object "java/lang/Object")]
abbrev jiushr (x y : Int32) : Int32 := (x.toUInt32 >>> (y.toUInt32 &&& Int32.toUInt32 31)).toInt32
abbrev jlshl (x : Int64) (y : Int32) : Int64 := x <<< (y.toInt64 &&& 63)
abbrev jlshr (x : Int64) (y : Int32) : Int64 := x >>> (y.toInt64 &&& 63)
abbrev jlushr (x : Int64) (y : Int32) : Int64 := (x.toUInt64 >>> (y.toInt64.toUInt64 &&& Int64.toUInt64 63)).toInt64
abbrev ji2c (x : Int32) : Int32 := (x.toUInt32 % 65536).toInt32
/-- later states hold the cells of the earlier ones, with their kinds and lengths -/
def wX (S S1 : wS) : Prop := ∀ q, q ∈ sL S → q ∈ sL S1 ∧ sK S1 q = sK S q ∧ sN S1 q = sN S q
theorem wX.rf {S : wS} : wX S S := fun _ h => ⟨h, rfl, rfl⟩
theorem wX.trans {S S1 S2 : wS} (h : wX S S1) (h2 : wX S1 S2) : wX S S2 := fun q hq => ⟨(h2 q (h q hq).1).1, (h2 q (h q hq).1).2.1.trans (h q hq).2.1, (h2 q (h q hq).1).2.2.trans (h q hq).2.2⟩
theorem wX_uI {S : wS} {a f : Nat} {v : Int32} : wX S (uI S a f v) := fun _ h => ⟨h, rfl, rfl⟩
theorem wX_uJ {S : wS} {a f : Nat} {v : Int64} : wX S (uJ S a f v) := fun _ h => ⟨h, rfl, rfl⟩
theorem wX_uR {S : wS} {a f : Nat} {v : Option Nat} : wX S (uR S a f v) := fun _ h => ⟨h, rfl, rfl⟩
theorem w_out {lo hi : Int} {x : Int32} (h1 : -2147483648 ≤ lo) (h2 : hi ≤ 2147483647) (h : ∀ v : Int, lo ≤ v → v ≤ hi → x ≠ Int32.ofInt v) : x.toInt < lo ∨ hi < x.toInt := by
  rcases Int.lt_or_le x.toInt lo with q | q
  · exact Or.inl q
  · rcases Int.lt_or_le hi x.toInt with q2 | q2
    · exact Or.inr q2
    · exact absurd (Int32.ofInt_toInt x).symm (h x.toInt q q2)
theorem ws_get {k f : Nat} {S : wS} {a : Nat} (h : f < wN k) : (ws_ k S a)[f]? = some (wv k f S a) := by
  simp [ws_, h]
theorem ws_len (k : Nat) (S : wS) (a : Nat) : (ws_ k S a).length = wN k := by simp [ws_]
theorem ws_set {k f : Nat} {S S' : wS} {a : Nat} {v : Value} (hv : wv k f S' a = v) (ho : ∀ g, g ≠ f → wv k g S' a = wv k g S a) : (ws_ k S a).set f v = ws_ k S' a := by
  apply List.ext_getElem
  · simp [ws_]
  · intro i h1 h2
    rw [List.getElem_set]
    by_cases e : f = i
    · subst e
      simp [ws_, hv]
    · rw [if_neg e]
      simp only [ws_, List.getElem_map, List.getElem_range]
      exact (ho i (fun q => e q.symm)).symm
theorem uI_I (S : wS) (a f : Nat) (v : Int32) (b g : Nat) : sI (uI S a f v) b g = if b = a ∧ g = f then v else sI S b g := by
  by_cases h : b = a <;> by_cases h2 : g = f <;> simp [uI, sI, va_up, h, h2]
theorem uJ_J (S : wS) (a f : Nat) (v : Int64) (b g : Nat) : sJ (uJ S a f v) b g = if b = a ∧ g = f then v else sJ S b g := by
  by_cases h : b = a <;> by_cases h2 : g = f <;> simp [uJ, sJ, va_up, h, h2]
theorem uR_R (S : wS) (a f : Nat) (v : Option Nat) (b g : Nat) : sR (uR S a f v) b g = if b = a ∧ g = f then v else sR S b g := by
  by_cases h : b = a <;> by_cases h2 : g = f <;> simp [uR, sR, va_up, h, h2]
theorem wE_at {cy : Nat → ClassId} {S : wS} {a k : Nat} (h : sK S a = k) (hk : k < 20) : wE cy S a = .inr (k, ws_ k S a) := by
  subst h
  simp only [wE, if_pos hk]
/-- another state that is the same but at the cell a -/
theorem wE_ne {cy : Nat → ClassId} {S S' : wS} {b : Nat} (hK : sK S' b = sK S b) (hN : sN S' b = sN S b) (hI : sI S' b = sI S b) (hJ : sJ S' b = sJ S b) (hR : sR S' b = sR S b) : wE cy S' b = wE cy S b := by
  have hv : ∀ k, ws_ k S' b = ws_ k S b := fun k => by
    unfold ws_
    congr 1
    funext f
    simp only [wv, hI, hJ, hR]
  simp only [wE, hK, hN, hI, hJ, hR, hv]
theorem wE_uI {cy : Nat → ClassId} {S : wS} {a k f : Nat} (h : sK S a = k) (hk : k < 20) (ht : wt k f = 0) (v : Int32) (b : Nat) : va_up (wE cy S) a (.inr (k, (ws_ k S a).set f (.int v))) b = wE cy (uI S a f v) b := by
  by_cases hb : b = a
  · subst hb
    rw [va_up_self, wE_at (S := uI S b f v) (k := k) h hk, ws_set (S' := uI S b f v)]
    · simp only [wv, ht, if_true]
      rw [uI_I]; simp
    · intro g hg
      simp only [wv]
      rw [uI_I]; simp [hg]; rfl
  · rw [va_up_ne _ _ hb]
    refine (wE_ne (S := S) (S' := uI S a f v) rfl rfl ?_ rfl rfl).symm
    simp [uI, sI, va_up, hb]
theorem wE_uJ {cy : Nat → ClassId} {S : wS} {a k f : Nat} (h : sK S a = k) (hk : k < 20) (ht : wt k f = 1) (v : Int64) (b : Nat) : va_up (wE cy S) a (.inr (k, (ws_ k S a).set f (.long v))) b = wE cy (uJ S a f v) b := by
  by_cases hb : b = a
  · subst hb
    rw [va_up_self, wE_at (S := uJ S b f v) (k := k) h hk, ws_set (S' := uJ S b f v)]
    · simp only [wv, ht]
      rw [uJ_J]; simp
    · intro g hg
      simp only [wv]
      rw [uJ_J]; simp [hg]; rfl
  · rw [va_up_ne _ _ hb]
    refine (wE_ne (S := S) (S' := uJ S a f v) rfl rfl rfl ?_ rfl).symm
    simp [uJ, sJ, va_up, hb]
theorem wE_uR {cy : Nat → ClassId} {S : wS} {a k f : Nat} (h : sK S a = k) (hk : k < 20) (ht : wt k f = 2) (v : Option Nat) (b : Nat) : va_up (wE cy S) a (.inr (k, (ws_ k S a).set f (va_rf v))) b = wE cy (uR S a f v) b := by
  by_cases hb : b = a
  · subst hb
    rw [va_up_self, wE_at (S := uR S b f v) (k := k) h hk, ws_set (S' := uR S b f v)]
    · simp only [wv, ht]
      rw [uR_R]; simp
    · intro g hg
      simp only [wv]
      rw [uR_R]; simp [hg]; rfl
  · rw [va_up_ne _ _ hb]
    refine (wE_ne (S := S) (S' := uR S a f v) rfl rfl rfl rfl ?_).symm
    simp [uR, sR, va_up, hb]
/-! the rows of the kit over a state S -/
/-- the links between nest mates that are used: facts of the tables -/
def wO (D : va_G) (cy : Nat → ClassId) (X : va_W) (A : Nat → Prop) (H0 : Heap) (S : wS) (H : Heap) (locs : List Loc) : Prop := va_P D vwCl (wL cy X S) H ∧ va_D A (wL cy X S) ∧ va_S A H0 H locs ∧ ∀ q, H0.size ≤ q → A q
def wK (D : va_G) (cy : Nat → ClassId) (U : State) : Prop := va_K D vwCl (wT cy) U ∧ ∀ w ∈ wNW, va_Nw w U
theorem wNk_tab {w : Cond} (h : wNk w = true) : w.onTables = true := by
  unfold wNk at h
  split at h <;> first | rfl | cases h
theorem wNk_warm {w : Cond} (h : wNk w = true) {u U : State} (hW : u.WarmedH U.vm) (hz : va_Nw w u) : va_Nw w U := by
  unfold wNk at h
  split at h
  · exact va_Nw.warmF hW hz
  · exact va_Nw.warmM hW hz
  · cases h
/-- a contract's start -/
def wP (D : va_G) (cy : Nat → ClassId) (X : va_W) (S : wS) (sz : Nat) (U : State) : Prop := U.heap.size = sz ∧ va_P D vwCl (wL cy X S) U.heap ∧ wK D cy U ∧ va_D (fun _ => True) (wL cy X S)
/-- a contract's end -/
def wB (D : va_G) (cy : Nat → ClassId) (X : va_W) (A : Nat → Prop) (S : wS) (U : State) : Prop := va_P D vwCl (wL cy X S) U.heap ∧ wK D cy U ∧ va_D A (wL cy X S)
section WD
variable {p : Program} {l : Launch} {e : Env} {R : Room} {s : State} {m : MethodId} {args : Array Value} {below : List Frame} {meth : Method} {c : Code} {H : Heap} {locs : List Loc} {cells slots : Nat} {Q : State → Prop} {cc : ByteArray} {nL : Nat} {own : String} {Ts : List Cond} {pc : Nat} {ls : Array Slot} {rest : List Value} {D : va_G} {cy : Nat → ClassId} {X : va_W} {A : Nat → Prop} {H0 : Heap} {S : wS} {a : Nat}
theorem wK.moved {u U : State} (hW : u.WarmedH U.vm) (h : wK D cy u) : wK D cy U := ⟨va_K.moved hW.alike h.1, fun w hw => wNk_warm (wNW_ok w hw) hW (h.2 w hw)⟩
theorem wK.same {u U : State} (hvm : u.vm = U.vm) (h : wK D cy u) : wK D cy U := ⟨va_K.moved (by rw [hvm]; exact Vm.Alike.refl _) h.1, fun w hw => (h.2 w hw).same (wNk_tab (wNW_ok w hw)) hvm⟩
theorem w_get {k f N index : Nat} {C : String} {T : u_T} {v : Value} (F : CallFix p m c cc nL s args Ts own) (hK : wK D cy s) (hW : wO D cy X A H0 S H locs) (hL : a ∈ sL S) (hk : sK S a = k) (hk2 : k < 20) (hc : vwCl[k]? = some (C, T, N)) (hN : wN k = N) (hf : f < N) (hin : ∀ w ∈ u_ws C T N, w ∈ Ts) (hlink : (Cond.fieldLink own index (T f).1 (T f).2.1 (T f).2.2.1).before args s = true) (hv : wv k f S a = v) (hdg : decode cc pc = .ok (.getfield index, 3))
    (kk : W p l e R s m args below meth c H locs cells slots Q (F0 m (pc + 3) ls (v :: rest))) : W p l e R s m args below meth c H locs cells slots Q (F0 m pc ls (.ref a :: rest)) := by
  obtain ⟨hx, hb, hml, hown, hts⟩ := F
  obtain ⟨j, hj⟩ := va_pl_get (X := X) (f := wE cy S) hL
  rw [wE_at hk hk2] at hj
  exact va_get (D := D) (ci := k) (v := v) hx hb hts hin hown hK.1 hW.1 j hj hc f hf hlink (fun _ h9 => h9) (by rw [ws_get (by rw [hN]; exact hf), hv]) hdg kk
theorem w_putI {k f N index : Nat} {C : String} {T : u_T} {v : Int32} (F : CallFix p m c cc nL s args Ts own) (hK : wK D cy s) (hW : wO D cy X A H0 S H locs) (hL : a ∈ sL S) (hk : sK S a = k) (hk2 : k < 20) (hc : vwCl[k]? = some (C, T, N)) (hN : wN k = N) (hf : f < N) (hin : ∀ w ∈ u_ws C T N, w ∈ Ts) (ty0 : Nat → FieldType) (hty : ∀ k, k < N → parseFieldDescriptor (T k).2.2.1 = some (ty0 k)) (hnm : ∀ a, a < N → ∀ b, b < N → a ≠ b → (T a).2.1 ≠ (T b).2.1) (hlink : (Cond.fieldLink own index (T f).1 (T f).2.1 (T f).2.2.1).before args s = true) (ht : wt k f = 0) (hfin : (T f).2.2.2 = false) {ty : FieldType} (hd : parseFieldDescriptor (T f).2.2.1 = some ty) (hn : narrow ty (.int v) = .int v) (hfit : fits ty (.int v) = true) (hdg : decode cc pc = .ok (.putfield index, 3))
    (kk : ∀ (H1 : Heap) (locs1 : List Loc), wO D cy X A H0 (uI S a f v) H1 locs1 → W p l e R s m args below meth c H1 locs1 cells slots Q (F0 m (pc + 3) ls rest)) : W p l e R s m args below meth c H locs cells slots Q (F0 m pc ls (.int v :: .ref a :: rest)) := by
  obtain ⟨hx, hb, hml, hown, hts⟩ := F
  obtain ⟨j, hj0⟩ := va_pl_get (X := X) (f := wE cy S) hL
  have hj := hj0
  rw [wE_at hk hk2] at hj
  refine va_put (D := D) (ci := k) (v := .int v) hx hb hts hin ty0 hty hnm hown hK.1 hW.1 hW.2.1 hW.2.2.1 j hj hc f hf hlink (fun _ h9 => h9) hfin hd hn hfit (by rw [ws_len, hN]; exact hf) hdg (fun H1 locs1 hP1 hD1 hS1 => kk H1 locs1 ?_)
  have e1 : (wL cy X S).set j (a, .inr (k, (ws_ k S a).set f (.int v))) = wL cy X (uI S a f v) := by
    rw [va_pl_set hW.2.1 hL hj0]
    exact congrArg (fun l => X ++ l) (va_pl_congr (wE_uI hk hk2 ht v))
  rw [e1] at hP1 hD1
  exact ⟨hP1, hD1, hS1, hW.2.2.2⟩
theorem w_putJ {k f N index : Nat} {C : String} {T : u_T} {v : Int64} (F : CallFix p m c cc nL s args Ts own) (hK : wK D cy s) (hW : wO D cy X A H0 S H locs) (hL : a ∈ sL S) (hk : sK S a = k) (hk2 : k < 20) (hc : vwCl[k]? = some (C, T, N)) (hN : wN k = N) (hf : f < N) (hin : ∀ w ∈ u_ws C T N, w ∈ Ts) (ty0 : Nat → FieldType) (hty : ∀ k, k < N → parseFieldDescriptor (T k).2.2.1 = some (ty0 k)) (hnm : ∀ a, a < N → ∀ b, b < N → a ≠ b → (T a).2.1 ≠ (T b).2.1) (hlink : (Cond.fieldLink own index (T f).1 (T f).2.1 (T f).2.2.1).before args s = true) (ht : wt k f = 1) (hfin : (T f).2.2.2 = false) (hd : parseFieldDescriptor (T f).2.2.1 = some .long) (hdg : decode cc pc = .ok (.putfield index, 3))
    (kk : ∀ (H1 : Heap) (locs1 : List Loc), wO D cy X A H0 (uJ S a f v) H1 locs1 → W p l e R s m args below meth c H1 locs1 cells slots Q (F0 m (pc + 3) ls rest)) : W p l e R s m args below meth c H locs cells slots Q (F0 m pc ls (.long v :: .ref a :: rest)) := by
  obtain ⟨hx, hb, hml, hown, hts⟩ := F
  obtain ⟨j, hj0⟩ := va_pl_get (X := X) (f := wE cy S) hL
  have hj := hj0
  rw [wE_at hk hk2] at hj
  refine va_put (D := D) (ci := k) (v := .long v) hx hb hts hin ty0 hty hnm hown hK.1 hW.1 hW.2.1 hW.2.2.1 j hj hc f hf hlink (fun _ h9 => h9) hfin hd rfl rfl (by rw [ws_len, hN]; exact hf) hdg (fun H1 locs1 hP1 hD1 hS1 => kk H1 locs1 ?_)
  have e1 : (wL cy X S).set j (a, .inr (k, (ws_ k S a).set f (.long v))) = wL cy X (uJ S a f v) := by
    rw [va_pl_set hW.2.1 hL hj0]
    exact congrArg (fun l => X ++ l) (va_pl_congr (wE_uJ hk hk2 ht v))
  rw [e1] at hP1 hD1
  exact ⟨hP1, hD1, hS1, hW.2.2.2⟩
theorem w_ild {i : Int32} (F : CallFix p m c cc nL s args Ts own) (hK : wK D cy s) (hW : wO D cy X A H0 S H locs) (hL : a ∈ sL S) (hk : sK S a = 21) (hin : vp_in i (sN S a)) (hdg : decode cc pc = .ok (.iaload, 1))
    (kk : W p l e R s m args below meth c H locs cells slots Q (F0 m (pc + 1) ls (.int (sI S a i.toNatClampNeg) :: rest))) : W p l e R s m args below meth c H locs cells slots Q (F0 m pc ls (.int i :: .ref a :: rest)) := by
  obtain ⟨hx, hb, hml, hown, hts⟩ := F
  obtain ⟨j, hj⟩ := va_pl_get (X := X) (f := wE cy S) hL
  rw [show wE cy S a = .inl (cy 1, sN S a, .inl (sI S a)) by simp [wE, hk]] at hj
  exact va_iald hx hb hK.1 hW.1 j 1 hj rfl hin hdg kk
theorem w_lld {i : Int32} (F : CallFix p m c cc nL s args Ts own) (hK : wK D cy s) (hW : wO D cy X A H0 S H locs) (hL : a ∈ sL S) (hk : sK S a = 22) (hin : vp_in i (sN S a)) (hdg : decode cc pc = .ok (.laload, 1))
    (kk : W p l e R s m args below meth c H locs cells slots Q (F0 m (pc + 1) ls (.long (sJ S a i.toNatClampNeg) :: rest))) : W p l e R s m args below meth c H locs cells slots Q (F0 m pc ls (.int i :: .ref a :: rest)) := by
  obtain ⟨hx, hb, hml, hown, hts⟩ := F
  obtain ⟨j, hj⟩ := va_pl_get (X := X) (f := wE cy S) hL
  rw [show wE cy S a = .inl (cy 2, sN S a, .inr (.inl (sJ S a))) by simp [wE, hk]] at hj
  exact va_lald hx hb hK.1 hW.1 j 2 hj rfl hin hdg kk
theorem w_zld {i : Int32} (F : CallFix p m c cc nL s args Ts own) (hK : wK D cy s) (hW : wO D cy X A H0 S H locs) (hL : a ∈ sL S) (hk : sK S a = 23) (hin : vp_in i (sN S a)) (hdg : decode cc pc = .ok (.baload, 1))
    (kk : W p l e R s m args below meth c H locs cells slots Q (F0 m (pc + 1) ls (.int (sI S a i.toNatClampNeg) :: rest))) : W p l e R s m args below meth c H locs cells slots Q (F0 m pc ls (.int i :: .ref a :: rest)) := by
  obtain ⟨hx, hb, hml, hown, hts⟩ := F
  obtain ⟨j, hj⟩ := va_pl_get (X := X) (f := wE cy S) hL
  rw [show wE cy S a = .inl (cy 3, sN S a, .inl (sI S a)) by simp [wE, hk]] at hj
  exact va_zald hx hb hK.1 hW.1 j 3 hj rfl hin hdg kk
/-- an array's row is replaced -/
theorem wE_row {S S' : wS} {e : va_E} (ha : wE cy S' a = e) (ho : ∀ b, b ≠ a → wE cy S' b = wE cy S b) (b : Nat) : va_up (wE cy S) a e b = wE cy S' b := by
  by_cases hb : b = a
  · subst hb; rw [va_up_self, ha]
  · rw [va_up_ne _ _ hb, ho b hb]
theorem wE_oI {f : Nat} {v : Int32} (b : Nat) (hb : b ≠ a) : wE cy (uI S a f v) b = wE cy S b := wE_ne rfl rfl (by simp [uI, sI, va_up, hb]) rfl rfl
theorem wE_oJ {f : Nat} {v : Int64} (b : Nat) (hb : b ≠ a) : wE cy (uJ S a f v) b = wE cy S b := wE_ne rfl rfl rfl (by simp [uJ, sJ, va_up, hb]) rfl
theorem wE_oR {f : Nat} {v : Option Nat} (b : Nat) (hb : b ≠ a) : wE cy (uR S a f v) b = wE cy S b := wE_ne rfl rfl rfl rfl (by simp [uR, sR, va_up, hb])
theorem w_ist {i x : Int32} (F : CallFix p m c cc nL s args Ts own) (hK : wK D cy s) (hW : wO D cy X A H0 S H locs) (hL : a ∈ sL S) (hk : sK S a = 21) (hin : vp_in i (sN S a)) (hdg : decode cc pc = .ok (.iastore, 1))
    (kk : ∀ (H1 : Heap) (locs1 : List Loc), wO D cy X A H0 (uI S a i.toNatClampNeg x) H1 locs1 → W p l e R s m args below meth c H1 locs1 cells slots Q (F0 m (pc + 1) ls rest)) : W p l e R s m args below meth c H locs cells slots Q (F0 m pc ls (.int x :: .int i :: .ref a :: rest)) := by
  obtain ⟨hx, hb, hml, hown, hts⟩ := F
  obtain ⟨j, hj0⟩ := va_pl_get (X := X) (f := wE cy S) hL
  have hj := hj0
  rw [show wE cy S a = .inl (cy 1, sN S a, .inl (sI S a)) by simp [wE, hk]] at hj
  refine va_iast hx hb hK.1 hW.1 hW.2.1 hW.2.2.1 j 1 hj rfl hin hdg (fun H1 locs1 hP1 hD1 hS1 => kk H1 locs1 ?_)
  rw [va_pl_set hW.2.1 hL hj0, va_pl_congr (wE_row (S' := uI S a i.toNatClampNeg x) (a := a) (by simp [wE, uI, sI, sK, hk, va_up]; rfl) wE_oI)] at hP1 hD1
  exact ⟨hP1, hD1, hS1, hW.2.2.2⟩
theorem w_lst {i : Int32} {x : Int64} (F : CallFix p m c cc nL s args Ts own) (hK : wK D cy s) (hW : wO D cy X A H0 S H locs) (hL : a ∈ sL S) (hk : sK S a = 22) (hin : vp_in i (sN S a)) (hdg : decode cc pc = .ok (.lastore, 1))
    (kk : ∀ (H1 : Heap) (locs1 : List Loc), wO D cy X A H0 (uJ S a i.toNatClampNeg x) H1 locs1 → W p l e R s m args below meth c H1 locs1 cells slots Q (F0 m (pc + 1) ls rest)) : W p l e R s m args below meth c H locs cells slots Q (F0 m pc ls (.long x :: .int i :: .ref a :: rest)) := by
  obtain ⟨hx, hb, hml, hown, hts⟩ := F
  obtain ⟨j, hj0⟩ := va_pl_get (X := X) (f := wE cy S) hL
  have hj := hj0
  rw [show wE cy S a = .inl (cy 2, sN S a, .inr (.inl (sJ S a))) by simp [wE, hk]] at hj
  refine va_last hx hb hK.1 hW.1 hW.2.1 hW.2.2.1 j 2 hj rfl hin hdg (fun H1 locs1 hP1 hD1 hS1 => kk H1 locs1 ?_)
  rw [va_pl_set hW.2.1 hL hj0, va_pl_congr (wE_row (S' := uJ S a i.toNatClampNeg x) (a := a) (by simp [wE, uJ, sJ, sK, hk, va_up]; rfl) wE_oJ)] at hP1 hD1
  exact ⟨hP1, hD1, hS1, hW.2.2.2⟩
theorem w_zst {i x : Int32} (F : CallFix p m c cc nL s args Ts own) (hK : wK D cy s) (hW : wO D cy X A H0 S H locs) (hL : a ∈ sL S) (hk : sK S a = 23) (hin : vp_in i (sN S a)) (hdg : decode cc pc = .ok (.bastore, 1))
    (kk : ∀ (H1 : Heap) (locs1 : List Loc), wO D cy X A H0 (uI S a i.toNatClampNeg (vp_nar .boolean x)) H1 locs1 → W p l e R s m args below meth c H1 locs1 cells slots Q (F0 m (pc + 1) ls rest)) : W p l e R s m args below meth c H locs cells slots Q (F0 m pc ls (.int x :: .int i :: .ref a :: rest)) := by
  obtain ⟨hx, hb, hml, hown, hts⟩ := F
  obtain ⟨j, hj0⟩ := va_pl_get (X := X) (f := wE cy S) hL
  have hj := hj0
  rw [show wE cy S a = .inl (cy 3, sN S a, .inl (sI S a)) by simp [wE, hk]] at hj
  refine va_zast hx hb hK.1 hW.1 hW.2.1 hW.2.2.1 j 3 hj rfl hin hdg (fun H1 locs1 hP1 hD1 hS1 => kk H1 locs1 ?_)
  rw [va_pl_set hW.2.1 hL hj0, va_pl_congr (wE_row (S' := uI S a i.toNatClampNeg (vp_nar .boolean x)) (a := a) (by simp [wE, uI, sI, sK, hk, va_up]; rfl) wE_oI)] at hP1 hD1
  exact ⟨hP1, hD1, hS1, hW.2.2.2⟩
theorem wA_in (hW : wO D cy X A H0 S H locs) : ∀ q, va_A (wL cy X S) H.size q → A q := by
  intro q h
  rcases h with ⟨k, e, h⟩ | h
  · exact hW.2.1.2 k (q, e) h
  · exact hW.2.2.2 q (Nat.le_trans hW.2.2.1.1 h)
theorem wP_blind {av : List Value} {sz : Nat} : FrameBlind (va_Pc av (wP D cy X S sz)) := fun a U g mk q => ⟨q.1, q.2.1, q.2.2.1, wK.same (u := U) (U := U.calling g mk a) rfl q.2.2.2.1, q.2.2.2.2⟩
theorem wP_here (hK : wK D cy s) (hW : wO D cy X A H0 S H locs) (av : List Value) : ∀ U : State, U.heap = H → s.WarmedH U.vm → va_Pc av (wP D cy X S H.size) av.toArray U := fun U hU hV => ⟨rfl, by rw [hU], by rw [hU]; exact hW.1, hK.moved hV, hW.2.1.weaken (fun _ _ _ _ => trivial)⟩
theorem w_preS (hK : wK D cy s) (hW : wO D cy X A H0 S H locs) {As : List Value} : PreS s H (va_Pc As (wP D cy X S H.size)) As := ⟨wP_blind, wP_here hK hW As⟩
theorem w_preV {k : Nat} {q : vw_C} (hK : wK D cy s) (hW : wO D cy X A H0 S H locs) (hL : a ∈ sL S) (hk : sK S a = k) (hk2 : k < 20) (hc : vwCl[k]? = some q) {As : List Value} : PreV s H q.1 a (va_Pc (.ref a :: As) (wP D cy X S H.size)) As := by
  obtain ⟨j, hj⟩ := va_pl_get (X := X) (f := wE cy S) hL
  rw [wE_at hk hk2] at hj
  exact ⟨wP_blind, va_recv hK.1 hW.1 hc hj, wP_here hK hW _⟩
/-- behind a call -/
theorem wO_back {S1 : wS} {t : State} {H1 : Heap} {locs1 : List Loc} (hW : wO D cy X A H0 S H locs) (ht : t.heap = H1) (hB : wB D cy X (va_A (wL cy X S) H.size) S1 t) (hS1 : va_S A H0 H1 locs1) : wO D cy X A H0 S1 H1 locs1 := by
  obtain ⟨h1, -, h3⟩ := hB
  rw [ht] at h1
  exact ⟨h1, h3.weaken (fun _ _ _ h => wA_in hW _ h), hS1, hW.2.2.2⟩
/-- the contract of a method that answers an int, a long, nothing, a reference or null: from the state S and with these arguments, at its end post holds of the answer and the state -/
def mI (D : va_G) (cy : Nat → ClassId) (X : va_W) (l : Launch) (y : MethodName) (ws : List Cond) (rm : Room) (av : List Value) (S : wS) (post : Int32 → wS → Prop) : Prop := ∀ sz, Met l y ws rm (va_Pc av (wP D cy X S sz)) (va_Qi post (wB D cy X (va_A (wL cy X S) sz)) (va_A (wL cy X S) sz)) rm.cells rm.slots (va_A (wL cy X S) sz)
def mJ (D : va_G) (cy : Nat → ClassId) (X : va_W) (l : Launch) (y : MethodName) (ws : List Cond) (rm : Room) (av : List Value) (S : wS) (post : Int64 → wS → Prop) : Prop := ∀ sz, Met l y ws rm (va_Pc av (wP D cy X S sz)) (va_Ql post (wB D cy X (va_A (wL cy X S) sz)) (va_A (wL cy X S) sz)) rm.cells rm.slots (va_A (wL cy X S) sz)
def mV (D : va_G) (cy : Nat → ClassId) (X : va_W) (l : Launch) (y : MethodName) (ws : List Cond) (rm : Room) (av : List Value) (S : wS) (post : wS → Prop) : Prop := ∀ sz, Met l y ws rm (va_Pc av (wP D cy X S sz)) (va_Qv post (wB D cy X (va_A (wL cy X S) sz)) (va_A (wL cy X S) sz)) rm.cells rm.slots (va_A (wL cy X S) sz)
def mR (D : va_G) (cy : Nat → ClassId) (X : va_W) (l : Launch) (y : MethodName) (ws : List Cond) (rm : Room) (av : List Value) (S : wS) (post : Option Nat → wS → Prop) : Prop := ∀ sz, Met l y ws rm (va_Pc av (wP D cy X S sz)) (va_Qq post (wB D cy X (va_A (wL cy X S) sz)) (va_A (wL cy X S) sz)) rm.cells rm.slots (va_A (wL cy X S) sz)
variable {mc ms : Nat} {st : List Value} {av : Array Value}
theorem w_callI {post : Int32 → wS → Prop} (hr : va_Run p l e R s m args below meth c H locs cells slots mc ms (F0 m pc ls st) rest (va_Qi post (wB D cy X (va_A (wL cy X S) H.size)) (va_A (wL cy X S) H.size) av) (va_A (wL cy X S) H.size)) (hW : wO D cy X A H0 S H locs)
    (kk : ∀ (r : Int32) (S1 : wS) (H1 : Heap) (locs1 : List Loc), post r S1 → wO D cy X A H0 S1 H1 locs1 → W p l e R s m args below meth c H1 locs1 (cells + mc) (slots + ms) Q (F0 m (pc + 3) ls (.int r :: rest))) : W p l e R s m args below meth c H locs cells slots Q (F0 m pc ls st) :=
  va_calli hr hW.2.2.1 (fun q _ h => wA_in hW q h) (wA_in hW) (fun r u t H1 locs1 ht _ hp hB _ _ hS1 => kk r u H1 locs1 hp (wO_back hW ht hB hS1))
theorem w_callJ {post : Int64 → wS → Prop} (hr : va_Run p l e R s m args below meth c H locs cells slots mc ms (F0 m pc ls st) rest (va_Ql post (wB D cy X (va_A (wL cy X S) H.size)) (va_A (wL cy X S) H.size) av) (va_A (wL cy X S) H.size)) (hW : wO D cy X A H0 S H locs)
    (kk : ∀ (r : Int64) (S1 : wS) (H1 : Heap) (locs1 : List Loc), post r S1 → wO D cy X A H0 S1 H1 locs1 → W p l e R s m args below meth c H1 locs1 (cells + mc) (slots + ms) Q (F0 m (pc + 3) ls (.long r :: rest))) : W p l e R s m args below meth c H locs cells slots Q (F0 m pc ls st) :=
  va_calll hr hW.2.2.1 (fun q _ h => wA_in hW q h) (wA_in hW) (fun r u t H1 locs1 ht _ hp hB _ _ hS1 => kk r u H1 locs1 hp (wO_back hW ht hB hS1))
theorem w_callV {post : wS → Prop} (hr : va_Run p l e R s m args below meth c H locs cells slots mc ms (F0 m pc ls st) rest (va_Qv post (wB D cy X (va_A (wL cy X S) H.size)) (va_A (wL cy X S) H.size) av) (va_A (wL cy X S) H.size)) (hW : wO D cy X A H0 S H locs)
    (kk : ∀ (S1 : wS) (H1 : Heap) (locs1 : List Loc), post S1 → wO D cy X A H0 S1 H1 locs1 → W p l e R s m args below meth c H1 locs1 (cells + mc) (slots + ms) Q (F0 m (pc + 3) ls rest)) : W p l e R s m args below meth c H locs cells slots Q (F0 m pc ls st) :=
  va_callv hr hW.2.2.1 (fun q _ h => wA_in hW q h) (wA_in hW) (fun u t H1 locs1 ht _ hp hB _ _ hS1 => kk u H1 locs1 hp (wO_back hW ht hB hS1))
theorem w_callR {post : Option Nat → wS → Prop} (hr : va_Run p l e R s m args below meth c H locs cells slots mc ms (F0 m pc ls st) rest (va_Qq post (wB D cy X (va_A (wL cy X S) H.size)) (va_A (wL cy X S) H.size) av) (va_A (wL cy X S) H.size)) (hW : wO D cy X A H0 S H locs)
    (kk : ∀ (r : Option Nat) (S1 : wS) (H1 : Heap) (locs1 : List Loc), post r S1 → wO D cy X A H0 S1 H1 locs1 → W p l e R s m args below meth c H1 locs1 (cells + mc) (slots + ms) Q (F0 m (pc + 3) ls (va_rf r :: rest))) : W p l e R s m args below meth c H locs cells slots Q (F0 m pc ls st) :=
  va_callq hr hW.2.2.1 (fun q _ h => wA_in hW q h) (wA_in hW) (fun r u t H1 locs1 ht _ hp hB _ _ hS1 => kk r u H1 locs1 hp (wO_back hW ht hB hS1))
/-- the ends -/
theorem w_iret {post : Int32 → wS → Prop} {v : Int32} (hx : p.tables.exec = Jvm.exec) (hb : c.code = cc) (hr : meth.sig.returnType = some .int) (hlocks : meth.locks = false) (hK : wK D cy s) (hW : wO D cy X A s.heap S H locs) (hp : post v S) (hdg : decode cc pc = .ok (.ireturn, 1)) : W p l e R s m args below meth c H locs cells slots (MQ below (va_Qi post (wB D cy X A) A) args s cells slots A) (F0 m pc ls [.int v]) :=
  W.iret (v := v) hx hb hr (fun t ht hV => ⟨⟨v, S, rfl, hp, by rw [ht]; exact hW.1, hK.moved hV, hW.2.1⟩, hW.2.2.1.F ht⟩) hW.2.2.1.2.2 hdg hlocks
theorem w_zret {post : Int32 → wS → Prop} {v : Int32} {ty : FieldType} (hx : p.tables.exec = Jvm.exec) (hb : c.code = cc) (hr : meth.sig.returnType = some ty) (hlocks : meth.locks = false) (hK : wK D cy s) (hW : wO D cy X A s.heap S H locs) (hz : narrow ty (.int v) = .int v) (hp : post v S) (hdg : decode cc pc = .ok (.ireturn, 1)) : W p l e R s m args below meth c H locs cells slots (MQ below (va_Qi post (wB D cy X A) A) args s cells slots A) (F0 m pc ls [.int v]) :=
  W.zret (v := v) hx hb hr hz (fun t ht hV => ⟨⟨v, S, rfl, hp, by rw [ht]; exact hW.1, hK.moved hV, hW.2.1⟩, hW.2.2.1.F ht⟩) hW.2.2.1.2.2 hdg hlocks
theorem w_lret {post : Int64 → wS → Prop} {v : Int64} (hx : p.tables.exec = Jvm.exec) (hb : c.code = cc) (hr : meth.sig.returnType = some .long) (hlocks : meth.locks = false) (hK : wK D cy s) (hW : wO D cy X A s.heap S H locs) (hp : post v S) (hdg : decode cc pc = .ok (.lreturn, 1)) : W p l e R s m args below meth c H locs cells slots (MQ below (va_Ql post (wB D cy X A) A) args s cells slots A) (F0 m pc ls [.long v]) :=
  W.lret (v := v) hx hb hr (fun t ht hV => ⟨⟨v, S, rfl, hp, by rw [ht]; exact hW.1, hK.moved hV, hW.2.1⟩, hW.2.2.1.F ht⟩) hW.2.2.1.2.2 hdg hlocks
theorem w_vret {post : wS → Prop} (hx : p.tables.exec = Jvm.exec) (hb : c.code = cc) (hr : meth.sig.returnType = none) (hlocks : meth.locks = false) (hK : wK D cy s) (hW : wO D cy X A s.heap S H locs) (hp : post S) (hdg : decode cc pc = .ok (.return_, 1)) : W p l e R s m args below meth c H locs cells slots (MQ below (va_Qv post (wB D cy X A) A) args s cells slots A) (F0 m pc ls []) :=
  W.vret hx hb hr (fun t ht hV => ⟨⟨S, rfl, hp, by rw [ht]; exact hW.1, hK.moved hV, hW.2.1⟩, hW.2.2.1.F ht⟩) hW.2.2.1.2.2 hdg hlocks
theorem w_getN {k f N index : Nat} {C host : String} {T : u_T} {v : Value} (F : CallFix p m c cc nL s args Ts own) (hK : wK D cy s) (hW : wO D cy X A H0 S H locs) (hL : a ∈ sL S) (hk : sK S a = k) (hk2 : k < 20) (hc : vwCl[k]? = some (C, T, N)) (hN : wN k = N) (hf : f < N) (hin : ∀ w ∈ u_ws C T N, w ∈ Ts) (hnw : va_Nw (.fieldLinkNest own index (T f).1 (T f).2.1 (T f).2.2.1 host) s) (hv : wv k f S a = v) (hdg : decode cc pc = .ok (.getfield index, 3))
    (kk : W p l e R s m args below meth c H locs cells slots Q (F0 m (pc + 3) ls (v :: rest))) : W p l e R s m args below meth c H locs cells slots Q (F0 m pc ls (.ref a :: rest)) := by
  obtain ⟨hx, hb, hml, hown, hts⟩ := F
  obtain ⟨j, hj⟩ := va_pl_get (X := X) (f := wE cy S) hL
  rw [wE_at hk hk2] at hj
  exact va_getN (D := D) (ci := k) (v := v) hx hb hts hin hown hK.1 hW.1 j hj hc f hf (hnw.use rfl) (fun _ h9 => h9) (by rw [ws_get (by rw [hN]; exact hf), hv]) hdg kk
theorem w_putIN {k f N index : Nat} {C host : String} {T : u_T} {v : Int32} (F : CallFix p m c cc nL s args Ts own) (hK : wK D cy s) (hW : wO D cy X A H0 S H locs) (hL : a ∈ sL S) (hk : sK S a = k) (hk2 : k < 20) (hc : vwCl[k]? = some (C, T, N)) (hN : wN k = N) (hf : f < N) (hin : ∀ w ∈ u_ws C T N, w ∈ Ts) (ty0 : Nat → FieldType) (hty : ∀ k, k < N → parseFieldDescriptor (T k).2.2.1 = some (ty0 k)) (hnm : ∀ a, a < N → ∀ b, b < N → a ≠ b → (T a).2.1 ≠ (T b).2.1) (hnw : va_Nw (.fieldLinkNest own index (T f).1 (T f).2.1 (T f).2.2.1 host) s) (ht : wt k f = 0) (hfin : (T f).2.2.2 = false) {ty : FieldType} (hd : parseFieldDescriptor (T f).2.2.1 = some ty) (hn : narrow ty (.int v) = .int v) (hfit : fits ty (.int v) = true) (hdg : decode cc pc = .ok (.putfield index, 3))
    (kk : ∀ (H1 : Heap) (locs1 : List Loc), wO D cy X A H0 (uI S a f v) H1 locs1 → W p l e R s m args below meth c H1 locs1 cells slots Q (F0 m (pc + 3) ls rest)) : W p l e R s m args below meth c H locs cells slots Q (F0 m pc ls (.int v :: .ref a :: rest)) := by
  obtain ⟨hx, hb, hml, hown, hts⟩ := F
  obtain ⟨j, hj0⟩ := va_pl_get (X := X) (f := wE cy S) hL
  have hj := hj0
  rw [wE_at hk hk2] at hj
  refine va_putN (D := D) (ci := k) (v := .int v) hx hb hts hin ty0 hty hnm hown hK.1 hW.1 hW.2.1 hW.2.2.1 j hj hc f hf (hnw.use rfl) (fun _ h9 => h9) hfin hd hn hfit (by rw [ws_len, hN]; exact hf) hdg (fun H1 locs1 hP1 hD1 hS1 => kk H1 locs1 ?_)
  have e1 : (wL cy X S).set j (a, .inr (k, (ws_ k S a).set f (.int v))) = wL cy X (uI S a f v) := by
    rw [va_pl_set hW.2.1 hL hj0]
    exact congrArg (fun l => X ++ l) (va_pl_congr (wE_uI hk hk2 ht v))
  rw [e1] at hP1 hD1
  exact ⟨hP1, hD1, hS1, hW.2.2.2⟩
theorem w_putJN {k f N index : Nat} {C host : String} {T : u_T} {v : Int64} (F : CallFix p m c cc nL s args Ts own) (hK : wK D cy s) (hW : wO D cy X A H0 S H locs) (hL : a ∈ sL S) (hk : sK S a = k) (hk2 : k < 20) (hc : vwCl[k]? = some (C, T, N)) (hN : wN k = N) (hf : f < N) (hin : ∀ w ∈ u_ws C T N, w ∈ Ts) (ty0 : Nat → FieldType) (hty : ∀ k, k < N → parseFieldDescriptor (T k).2.2.1 = some (ty0 k)) (hnm : ∀ a, a < N → ∀ b, b < N → a ≠ b → (T a).2.1 ≠ (T b).2.1) (hnw : va_Nw (.fieldLinkNest own index (T f).1 (T f).2.1 (T f).2.2.1 host) s) (ht : wt k f = 1) (hfin : (T f).2.2.2 = false) (hd : parseFieldDescriptor (T f).2.2.1 = some .long) (hdg : decode cc pc = .ok (.putfield index, 3))
    (kk : ∀ (H1 : Heap) (locs1 : List Loc), wO D cy X A H0 (uJ S a f v) H1 locs1 → W p l e R s m args below meth c H1 locs1 cells slots Q (F0 m (pc + 3) ls rest)) : W p l e R s m args below meth c H locs cells slots Q (F0 m pc ls (.long v :: .ref a :: rest)) := by
  obtain ⟨hx, hb, hml, hown, hts⟩ := F
  obtain ⟨j, hj0⟩ := va_pl_get (X := X) (f := wE cy S) hL
  have hj := hj0
  rw [wE_at hk hk2] at hj
  refine va_putN (D := D) (ci := k) (v := .long v) hx hb hts hin ty0 hty hnm hown hK.1 hW.1 hW.2.1 hW.2.2.1 j hj hc f hf (hnw.use rfl) (fun _ h9 => h9) hfin hd rfl rfl (by rw [ws_len, hN]; exact hf) hdg (fun H1 locs1 hP1 hD1 hS1 => kk H1 locs1 ?_)
  have e1 : (wL cy X S).set j (a, .inr (k, (ws_ k S a).set f (.long v))) = wL cy X (uJ S a f v) := by
    rw [va_pl_set hW.2.1 hL hj0]
    exact congrArg (fun l => X ++ l) (va_pl_congr (wE_uJ hk hk2 ht v))
  rw [e1] at hP1 hD1
  exact ⟨hP1, hD1, hS1, hW.2.2.2⟩
theorem w_bld {i : Int32} (F : CallFix p m c cc nL s args Ts own) (hK : wK D cy s) (hW : wO D cy X A H0 S H locs) (hL : a ∈ sL S) (hk : sK S a = 20) (hin : vp_in i (sN S a)) (hdg : decode cc pc = .ok (.baload, 1))
    (kk : W p l e R s m args below meth c H locs cells slots Q (F0 m (pc + 1) ls (.int (sI S a i.toNatClampNeg) :: rest))) : W p l e R s m args below meth c H locs cells slots Q (F0 m pc ls (.int i :: .ref a :: rest)) := by
  obtain ⟨hx, hb, hml, hown, hts⟩ := F
  obtain ⟨j, hj⟩ := va_pl_get (X := X) (f := wE cy S) hL
  rw [show wE cy S a = .inl (cy 0, sN S a, .inl (sI S a)) by simp [wE, hk]] at hj
  exact va_bald hx hb hK.1 hW.1 j 0 hj rfl hin hdg kk
/-- an array's row is replaced -/
theorem w_bst {i x : Int32} (F : CallFix p m c cc nL s args Ts own) (hK : wK D cy s) (hW : wO D cy X A H0 S H locs) (hL : a ∈ sL S) (hk : sK S a = 20) (hin : vp_in i (sN S a)) (hdg : decode cc pc = .ok (.bastore, 1))
    (kk : ∀ (H1 : Heap) (locs1 : List Loc), wO D cy X A H0 (uI S a i.toNatClampNeg (vp_nar .byte x)) H1 locs1 → W p l e R s m args below meth c H1 locs1 cells slots Q (F0 m (pc + 1) ls rest)) : W p l e R s m args below meth c H locs cells slots Q (F0 m pc ls (.int x :: .int i :: .ref a :: rest)) := by
  obtain ⟨hx, hb, hml, hown, hts⟩ := F
  obtain ⟨j, hj0⟩ := va_pl_get (X := X) (f := wE cy S) hL
  have hj := hj0
  rw [show wE cy S a = .inl (cy 0, sN S a, .inl (sI S a)) by simp [wE, hk]] at hj
  refine va_bast hx hb hK.1 hW.1 hW.2.1 hW.2.2.1 j 0 hj rfl hin hdg (fun H1 locs1 hP1 hD1 hS1 => kk H1 locs1 ?_)
  rw [va_pl_set hW.2.1 hL hj0, va_pl_congr (wE_row (S' := uI S a i.toNatClampNeg (vp_nar .byte x)) (a := a) (by simp [wE, uI, sI, sK, hk, va_up]; rfl) wE_oI)] at hP1 hD1
  exact ⟨hP1, hD1, hS1, hW.2.2.2⟩
theorem w_len {k : Nat} (F : CallFix p m c cc nL s args Ts own) (hK : wK D cy s) (hW : wO D cy X A H0 S H locs) (hL : a ∈ sL S) (hk : sK S a = k) (hk2 : k = 20 ∨ k = 21 ∨ k = 22 ∨ k = 23 ∨ k = 24) (hdg : decode cc pc = .ok (.arraylength, 1))
    (kk : W p l e R s m args below meth c H locs cells slots Q (F0 m (pc + 1) ls (.int (Int32.ofNat (sN S a)) :: rest))) : W p l e R s m args below meth c H locs cells slots Q (F0 m pc ls (.ref a :: rest)) := by
  obtain ⟨hx, hb, hml, hown, hts⟩ := F
  obtain ⟨j, hj⟩ := va_pl_get (X := X) (f := wE cy S) hL
  rcases hk2 with rfl | rfl | rfl | rfl | rfl
  · rw [show wE cy S a = .inl (cy 0, sN S a, .inl (sI S a)) by simp [wE, hk]] at hj
    exact va_alen hx hb hK.1 hW.1 j 0 hj rfl rfl hdg kk
  · rw [show wE cy S a = .inl (cy 1, sN S a, .inl (sI S a)) by simp [wE, hk]] at hj
    exact va_alen hx hb hK.1 hW.1 j 1 hj rfl rfl hdg kk
  · rw [show wE cy S a = .inl (cy 2, sN S a, .inr (.inl (sJ S a))) by simp [wE, hk]] at hj
    exact va_alen hx hb hK.1 hW.1 j 2 hj rfl rfl hdg kk
  · rw [show wE cy S a = .inl (cy 3, sN S a, .inl (sI S a)) by simp [wE, hk]] at hj
    exact va_alen hx hb hK.1 hW.1 j 3 hj rfl rfl hdg kk
  · rw [show wE cy S a = .inl (cy 4, sN S a, .inr (.inr (.inr (.inr (sR S a))))) by simp [wE, hk]] at hj
    exact va_alen hx hb hK.1 hW.1 j 4 hj rfl rfl hdg kk
theorem w_aload_n {k : Fin 4} {i : Nat} {g : Option Nat} (hx : p.tables.exec = Jvm.exec) (hb : c.code = cc) (hdg : decode cc pc = .ok (.aload_n k, 1)) (hi : (k : Nat) = i) (hl : ls[i]? = some (.val (va_rf g))) (kk : W p l e R s m args below meth c H locs cells slots Q (F0 m (pc + 1) ls (va_rf g :: rest))) : W p l e R s m args below meth c H locs cells slots Q (F0 m pc ls rest) := by
  cases g with
  | none => exact lv_aload_nN hx hb hdg hi hl kk
  | some y => exact lv_aload_n hx hb hdg hi hl kk
theorem w_aload {i : Nat} {g : Option Nat} (hx : p.tables.exec = Jvm.exec) (hb : c.code = cc) (hdg : decode cc pc = .ok (.aload i, 2)) (hl : ls[i]? = some (.val (va_rf g))) (kk : W p l e R s m args below meth c H locs cells slots Q (F0 m (pc + 2) ls (va_rf g :: rest))) : W p l e R s m args below meth c H locs cells slots Q (F0 m pc ls rest) := by
  cases g with
  | none => exact lv_aloadN hx hb hdg hl kk
  | some y => exact lv_aload hx hb hdg hl kk
theorem w_astore_n {k : Fin 4} {i : Nat} {g : Option Nat} {lv lv' : List (Nat × Value)} (hx : p.tables.exec = Jvm.exec) (hb : c.code = cc) (hdg : decode cc pc = .ok (.astore_n k, 1)) (hi : (k : Nat) = i) (h : lv_has ls nL lv) (hn : i < nL) (hl : (i, va_rf g) :: lv.filter (fun q => !(q.1 == i) && !(q.1 + 1 == i && q.2.category == 2)) = lv') (kk : ∀ ls' : Array Slot, lv_has ls' nL lv' → W p l e R s m args below meth c H locs cells slots Q (F0 m (pc + 1) ls' rest)) : W p l e R s m args below meth c H locs cells slots Q (F0 m pc ls (va_rf g :: rest)) := by
  cases g with
  | none => exact lv_astore_nN hx hb hdg hi h hn hl kk
  | some y => exact lv_astore_n hx hb hdg hi h hn hl kk
theorem w_astore {i : Nat} {g : Option Nat} {lv lv' : List (Nat × Value)} (hx : p.tables.exec = Jvm.exec) (hb : c.code = cc) (hdg : decode cc pc = .ok (.astore i, 2)) (h : lv_has ls nL lv) (hn : i < nL) (hl : (i, va_rf g) :: lv.filter (fun q => !(q.1 == i) && !(q.1 + 1 == i && q.2.category == 2)) = lv') (kk : ∀ ls' : Array Slot, lv_has ls' nL lv' → W p l e R s m args below meth c H locs cells slots Q (F0 m (pc + 2) ls' rest)) : W p l e R s m args below meth c H locs cells slots Q (F0 m pc ls (va_rf g :: rest)) := by
  cases g with
  | none => exact lv_astoreN hx hb hdg h hn hl kk
  | some y => exact lv_astore hx hb hdg h hn hl kk
theorem w_ifnull {g : Option Nat} {off : Int} {tgt : Nat} (hx : p.tables.exec = Jvm.exec) (hb : c.code = cc) (hdg : decode cc pc = .ok (.ifnull off, 3)) (ht : (pc : Int) + off = (tgt : Int)) (kt : g = none → W p l e R s m args below meth c H locs cells slots Q (F0 m tgt ls rest)) (kf : ∀ y, g = some y → W p l e R s m args below meth c H locs cells slots Q (F0 m (pc + 3) ls rest)) : W p l e R s m args below meth c H locs cells slots Q (F0 m pc ls (va_rf g :: rest)) := by
  cases g with
  | none => exact lv_ifnullN hx hb hdg ht (kt rfl)
  | some y => exact lv_ifnull hx hb hdg (kf y rfl)
theorem w_ifnonnull {g : Option Nat} {off : Int} {tgt : Nat} (hx : p.tables.exec = Jvm.exec) (hb : c.code = cc) (hdg : decode cc pc = .ok (.ifnonnull off, 3)) (ht : (pc : Int) + off = (tgt : Int)) (kt : g = none → W p l e R s m args below meth c H locs cells slots Q (F0 m (pc + 3) ls rest)) (kf : ∀ y, g = some y → W p l e R s m args below meth c H locs cells slots Q (F0 m tgt ls rest)) : W p l e R s m args below meth c H locs cells slots Q (F0 m pc ls (va_rf g :: rest)) := by
  cases g with
  | none => exact lv_ifnonnullN hx hb hdg (kt rfl)
  | some y => exact lv_ifnonnull hx hb hdg ht (kf y rfl)
theorem w_aret {post : Option Nat → wS → Prop} {g : Option Nat} {rt : FieldType} (hx : p.tables.exec = Jvm.exec) (hb : c.code = cc) (hr : meth.sig.returnType = some rt) (hlocks : meth.locks = false) (hK : wK D cy s) (hW : wO D cy X A s.heap S H locs) (hp : post g S) (hdg : decode cc pc = .ok (.areturn, 1)) (hrt : (∃ n, rt = .object n) ∨ ∃ t, rt = .array t := by first | exact Or.inl ⟨_, rfl⟩ | exact Or.inr ⟨_, rfl⟩) : W p l e R s m args below meth c H locs cells slots (MQ below (va_Qq post (wB D cy X A) A) args s cells slots A) (F0 m pc ls [va_rf g]) :=
  W.aret hx hb hr hrt (va_rf_or g) (fun t ht hV => ⟨⟨g, S, rfl, hp, by rw [ht]; exact hW.1, hK.moved hV, hW.2.1⟩, hW.2.2.1.F ht⟩) hW.2.2.1.2.2 hdg hlocks
end WD
