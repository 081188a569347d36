/-! the state: cells, kinds, lengths, and what the fields and places hold: ints, longs, references -/
abbrev wS : Type := List Nat × (Nat → Nat) × (Nat → Nat) × (Nat → Nat → Int32) × (Nat → Nat → Int64) × (Nat → Nat → Option Nat)
abbrev sL (S : wS) := S.1
abbrev sK (S : wS) := S.2.1
abbrev sN (S : wS) := S.2.2.1
abbrev sI (S : wS) := S.2.2.2.1
abbrev sJ (S : wS) := S.2.2.2.2.1
abbrev sR (S : wS) := S.2.2.2.2.2
def uI (S : wS) (a f : Nat) (v : Int32) : wS := (S.1, S.2.1, S.2.2.1, va_up (sI S) a (va_up (sI S a) f v), S.2.2.2.2.1, S.2.2.2.2.2)
def uJ (S : wS) (a f : Nat) (v : Int64) : wS := (S.1, S.2.1, S.2.2.1, S.2.2.2.1, va_up (sJ S) a (va_up (sJ S a) f v), S.2.2.2.2.2)
def uR (S : wS) (a f : Nat) (v : Option Nat) : wS := (S.1, S.2.1, S.2.2.1, S.2.2.2.1, S.2.2.2.2.1, va_up (sR S) a (va_up (sR S a) f v))
def wN (k : Nat) : Nat := match k with
  | 0 => 4
  | 1 => 4
  | 2 => 6
  | 3 => 6
  | 4 => 3
  | 5 => 12
  | 6 => 4
  | 7 => 8
  | 8 => 9
  | 9 => 8
  | 10 => 11
  | 11 => 3
  | 12 => 8
  | 13 => 6
  | 14 => 10
  | 15 => 1
  | 16 => 18
  | 17 => 43
  | _ => 0
/-- the sort of a field: 0 int, 1 long, 2 reference -/
def wt (k f : Nat) : Nat := match k with
  | 0 => match f with | 0 => 2 | _ => 0
  | 1 => match f with | 0 => 2 | _ => 0
  | 2 => match f with | 5 => 0 | _ => 2
  | 3 => match f with | 4 => 0 | _ => 2
  | 4 => match f with | 1 => 2 | _ => 0
  | 5 => match f with | 0 => 0 | 1 => 0 | 2 => 0 | 3 => 1 | _ => 2
  | 6 => 2
  | 7 => match f with | 7 => 0 | _ => 2
  | 8 => match f with | 0 => 2 | 1 => 2 | 2 => 2 | _ => 0
  | 9 => match f with | 6 => 0 | 7 => 0 | _ => 2
  | 10 => match f with | 6 => 0 | 7 => 0 | 8 => 0 | 9 => 0 | 10 => 0 | _ => 2
  | 11 => match f with | 2 => 0 | _ => 2
  | 12 => match f with | 0 => 2 | 5 => 0 | 6 => 0 | 7 => 0 | _ => 1
  | 13 => match f with | 0 => 2 | 1 => 0 | 4 => 0 | _ => 1
  | 14 => match f with | 7 => 0 | 8 => 0 | 9 => 0 | _ => 2
  | 15 => 2
  | 16 => match f with | 16 => 0 | 17 => 0 | _ => 2
  | 17 => match f with | 0 => 0 | 1 => 0 | 2 => 0 | 11 => 0 | 13 => 0 | 15 => 0 | 16 => 0 | 24 => 0 | 25 => 0 | 26 => 0 | 27 => 0 | 28 => 0 | 29 => 0 | 39 => 0 | _ => 2
  | _ => 0
def wv (k f : Nat) (S : wS) (a : Nat) : Value := if wt k f = 0 then .int (sI S a f) else if wt k f = 1 then .long (sJ S a f) else va_rf (sR S a f)
def ws_ (k : Nat) (S : wS) (a : Nat) : List Value := (List.range (wN k)).map (fun f => wv k f S a)
def wE (cy : Nat → ClassId) (S : wS) (a : Nat) : va_E := if sK S a < 20 then .inr (sK S a, ws_ (sK S a) S a) else if sK S a = 20 then .inl (cy 0, sN S a, .inl (sI S a)) else if sK S a = 21 then .inl (cy 1, sN S a, .inl (sI S a)) else if sK S a = 22 then .inl (cy 2, sN S a, .inr (.inl (sJ S a))) else if sK S a = 23 then .inl (cy 3, sN S a, .inl (sI S a)) else if sK S a = 25 then .inl (cy 5, sN S a, .inr (.inr (.inr (.inl (fun i => (sJ S a i).toUInt64))))) else .inl (cy 4, sN S a, .inr (.inr (.inr (.inr (sR S a)))))
/-- the texts of constants: class, place, text, which of the addresses -/
def wStr : List (String × Nat × String × Nat) := [("OpeningsCabinet$Position", 42, "RNBQKBNR", 0), ("OpeningsCabinet$Position", 50, " KQRBNPkqrbnp", 1), ("java/lang/StringIndexOutOfBoundsException", 13, "String index out of range: ", 2), ("java/util/Arrays", 337, " > ", 3), ("java/util/Arrays", 48, "fromIndex(", 4), ("java/util/Arrays", 57, ") > toIndex(", 5), ("java/util/Arrays", 59, ")", 6), ("java/lang/ArrayIndexOutOfBoundsException", 13, "Array index out of range: ", 7), ("OpeningsCabinet$Papers", 90, " KQRBNPkqrbnp", 1), ("OpeningsCabinet$Papers", 49, " w ", 8), ("OpeningsCabinet$Papers", 51, " b ", 9), ("OpeningsCabinet$Papers", 59, "KQkq", 10), ("OpeningsCabinet$MoveList", 87, " KQRBNPkqrbnp", 1), ("OpeningsCabinet", 142, "a board has 4 to 8 files and ranks", 11), ("OpeningsCabinet", 495, "no such square", 12), ("OpeningsCabinet", 163, "no such piece", 13), ("OpeningsCabinet", 497, "a move was made", 14), ("OpeningsCabinet", 181, "rights are 0 to 15", 15), ("OpeningsCabinet", 194, "no paper of a proper position on this board", 16), ("OpeningsCabinet", 326, "the first position is not proper", 17), ("OpeningsCabinet", 237, "no such byte", 18), ("OpeningsCabinet", 255, "no such file", 19), ("OpeningsCabinet", 509, "no such move", 20), ("OpeningsCabinet", 287, "80 moves were made", 21), ("OpeningsCabinet", 296, "no move was made", 22), ("OpeningsCabinet", 309, "the depth is 1 to 3", 23), ("OpeningsCabinet", 315, "a byte of a text is 32 to 126", 24), ("OpeningsCabinet", 317, "a text has at most 500 bytes", 25), ("OpeningsCabinet$MovesReader", 101, "1-0", 26), ("OpeningsCabinet$MovesReader", 107, "0-1", 27), ("OpeningsCabinet$MovesReader", 109, "1/2-1/2", 28), ("OpeningsCabinet$MovesReader", 111, "*", 29), ("OpeningsCabinet", 328, "the text has a fault", 30), ("OpeningsCabinet", 501, "no such shelf", 31), ("OpeningsCabinet", 341, "the result, the year or the strength is out of range", 32), ("OpeningsCabinet", 345, "the shelf has 40 games", 33), ("OpeningsCabinet", 503, "no such game", 34), ("OpeningsCabinet", 364, "a result is 0 to 2", 35), ("OpeningsCabinet", 366, "the first year is behind the last one", 36), ("OpeningsCabinet", 374, "no game passes through the present position", 37), ("OpeningsCabinet", 514, "no such continuation", 38), ("OpeningsCabinet", 397, "1 to 80 moves can be asked", 39), ("OpeningsCabinet", 422, "a pattern asks 0 to 15", 40), ("OpeningsCabinet", 441, "no mate is forced", 41), ("OpeningsCabinet", 499, "the kind of an ending is 2 to 5", 42), ("OpeningsCabinet", 449, "the board has more than 25 squares", 43), ("OpeningsCabinet", 463, "no position of an ending that is solved", 44), ("OpeningsCabinet", 469, "the ending is not solved", 45), ("OpeningsCabinet", 519, "the shelf 0 is empty", 46)]
/-- static rows: class, name, descriptor, which of the addresses, kind -/
def wSr : List (String × String × String × Nat × Nat) := [("OpeningsCabinet$Board", "FILE_STEPS", "[I", 100, 21), ("OpeningsCabinet$Board", "RANK_STEPS", "[I", 101, 21), ("OpeningsCabinet$Board", "LEAP_FILES", "[I", 102, 21), ("OpeningsCabinet$Board", "LEAP_RANKS", "[I", 103, 21), ("java/lang/Integer", "DigitOnes", "[B", 104, 20), ("java/lang/Integer", "DigitTens", "[B", 105, 20), ("java/util/ArrayList", "DEFAULTCAPACITY_EMPTY_ELEMENTDATA", "[Ljava/lang/Object;", 106, 24)]
/-- static numbers -/
def wSi : List (String × String × String × Int32) := [("java/lang/String", "COMPACT_STRINGS", "Z", 1), ("java/lang/StringUTF16", "$assertionsDisabled", "Z", 1), ("java/lang/StringUTF16", "HI_BYTE_SHIFT", "I", 0), ("java/lang/StringUTF16", "LO_BYTE_SHIFT", "I", 8)]
/-- the links between nest mates that are used -/
def wNW : List Cond := [.fieldLinkNest "OpeningsCabinet" 154 "OpeningsCabinet$Board" "size" "I" "OpeningsCabinet", .fieldLinkNest "OpeningsCabinet" 157 "OpeningsCabinet$Game" "length" "I" "OpeningsCabinet", .fieldLinkNest "OpeningsCabinet" 175 "OpeningsCabinet$Position" "rights" "I" "OpeningsCabinet", .fieldLinkNest "OpeningsCabinet" 178 "OpeningsCabinet$Position" "passing" "I" "OpeningsCabinet", .fieldLinkNest "OpeningsCabinet" 183 "OpeningsCabinet$Position" "isWhite" "Z" "OpeningsCabinet", .fieldLinkNest "OpeningsCabinet" 252 "OpeningsCabinet$Board" "files" "I" "OpeningsCabinet", .fieldLinkNest "OpeningsCabinet" 298 "OpeningsCabinet$Game" "places" "[J" "OpeningsCabinet", .fieldLinkNest "OpeningsCabinet" 336 "OpeningsCabinet$MovesReader" "movesAside" "I" "OpeningsCabinet", .fieldLinkNest "OpeningsCabinet" 416 "OpeningsCabinet$Game" "box" "I" "OpeningsCabinet", .fieldLinkNest "OpeningsCabinet" 419 "OpeningsCabinet$Game" "due" "I" "OpeningsCabinet", .fieldLinkNest "OpeningsCabinet" 435 "OpeningsCabinet$Search" "mateLength" "I" "OpeningsCabinet", .fieldLinkNest "OpeningsCabinet" 438 "OpeningsCabinet$Search" "keys" "I" "OpeningsCabinet", .fieldLinkNest "OpeningsCabinet" 443 "OpeningsCabinet$Search" "earliestKey" "I" "OpeningsCabinet", .fieldLinkNest "OpeningsCabinet" 508 "OpeningsCabinet$MoveList" "size" "I" "OpeningsCabinet", .fieldLinkNest "OpeningsCabinet$Continuations" 48 "OpeningsCabinet$Game" "length" "I" "OpeningsCabinet", .fieldLinkNest "OpeningsCabinet$Continuations" 54 "OpeningsCabinet$Game" "places" "[J" "OpeningsCabinet", .fieldLinkNest "OpeningsCabinet$Continuations" 74 "OpeningsCabinet$MoveList" "size" "I" "OpeningsCabinet", .fieldLinkNest "OpeningsCabinet$Endings" 104 "OpeningsCabinet$Board" "size" "I" "OpeningsCabinet", .fieldLinkNest "OpeningsCabinet$Endings" 71 "OpeningsCabinet$Position" "rights" "I" "OpeningsCabinet", .fieldLinkNest "OpeningsCabinet$Endings" 74 "OpeningsCabinet$Position" "passing" "I" "OpeningsCabinet", .fieldLinkNest "OpeningsCabinet$Endings" 88 "OpeningsCabinet$Position" "isWhite" "Z" "OpeningsCabinet", .fieldLinkNest "OpeningsCabinet$MoveList" 81 "OpeningsCabinet$Position" "passing" "I" "OpeningsCabinet", .fieldLinkNest "OpeningsCabinet$Papers" 30 "OpeningsCabinet$Board" "ranks" "I" "OpeningsCabinet", .fieldLinkNest "OpeningsCabinet$Papers" 43 "OpeningsCabinet$Position" "isWhite" "Z" "OpeningsCabinet", .fieldLinkNest "OpeningsCabinet$Papers" 56 "OpeningsCabinet$Position" "rights" "I" "OpeningsCabinet", .fieldLinkNest "OpeningsCabinet$Papers" 71 "OpeningsCabinet$Position" "passing" "I" "OpeningsCabinet", .fieldLinkNest "OpeningsCabinet$Papers" 81 "OpeningsCabinet$Board" "files" "I" "OpeningsCabinet", .fieldLinkNest "OpeningsCabinet$Position" 103 "OpeningsCabinet$Board" "knightSteps" "[J" "OpeningsCabinet", .fieldLinkNest "OpeningsCabinet$Position" 128 "OpeningsCabinet$Board" "edges" "J" "OpeningsCabinet", .fieldLinkNest "OpeningsCabinet$Position" 135 "OpeningsCabinet$Board" "size" "I" "OpeningsCabinet", .fieldLinkNest "OpeningsCabinet$Position" 138 "OpeningsCabinet$Board" "files" "I" "OpeningsCabinet", .fieldLinkNest "OpeningsCabinet$Position" 99 "OpeningsCabinet$Board" "kingSteps" "[J" "OpeningsCabinet", .fieldLinkNest "OpeningsCabinet$Rules" 107 "OpeningsCabinet$Position" "passing" "I" "OpeningsCabinet", .fieldLinkNest "OpeningsCabinet$Rules" 110 "OpeningsCabinet$Board" "files" "I" "OpeningsCabinet", .fieldLinkNest "OpeningsCabinet$Rules" 120 "OpeningsCabinet$Board" "ranks" "I" "OpeningsCabinet", .fieldLinkNest "OpeningsCabinet$Rules" 127 "OpeningsCabinet$Position" "rights" "I" "OpeningsCabinet", .fieldLinkNest "OpeningsCabinet$Rules" 33 "OpeningsCabinet$Position" "isWhite" "Z" "OpeningsCabinet", .fieldLinkNest "OpeningsCabinet$Rules" 65 "OpeningsCabinet$Board" "size" "I" "OpeningsCabinet", .fieldLinkNest "OpeningsCabinet$Rules" 90 "OpeningsCabinet$Board" "edges" "J" "OpeningsCabinet", .fieldLinkNest "OpeningsCabinet$Shelf" 100 "OpeningsCabinet$Game" "due" "I" "OpeningsCabinet", .fieldLinkNest "OpeningsCabinet$Shelf" 103 "OpeningsCabinet$Game" "box" "I" "OpeningsCabinet", .fieldLinkNest "OpeningsCabinet$Shelf" 31 "OpeningsCabinet$Game" "length" "I" "OpeningsCabinet", .fieldLinkNest "OpeningsCabinet$Shelf" 63 "OpeningsCabinet$Game" "places" "[J" "OpeningsCabinet", .fieldLinkNest "OpeningsCabinet$Shelf" 77 "OpeningsCabinet$Game" "result" "I" "OpeningsCabinet", .fieldLinkNest "OpeningsCabinet$Shelf" 84 "OpeningsCabinet$Game" "year" "I" "OpeningsCabinet", .fieldLinkNest "OpeningsCabinet$Shelf" 87 "OpeningsCabinet$Game" "strength" "I" "OpeningsCabinet", .methodLinkNest "OpeningsCabinet" 11 ⟨"OpeningsCabinet$Board", "<init>", "()V"⟩ "OpeningsCabinet", .methodLinkNest "OpeningsCabinet" 71 ⟨"OpeningsCabinet$Shelf", "<init>", "()V"⟩ "OpeningsCabinet", .methodLinkNest "OpeningsCabinet$Endings" 134 ⟨"OpeningsCabinet", "contains", "(JI)Z"⟩ "OpeningsCabinet", .methodLinkNest "OpeningsCabinet$Endings" 81 ⟨"OpeningsCabinet", "lowest", "(J)I"⟩ "OpeningsCabinet", .methodLinkNest "OpeningsCabinet$Game" 73 ⟨"OpeningsCabinet", "fromOf", "(I)I"⟩ "OpeningsCabinet", .methodLinkNest "OpeningsCabinet$Game" 76 ⟨"OpeningsCabinet", "contains", "(JI)Z"⟩ "OpeningsCabinet", .methodLinkNest "OpeningsCabinet$MoveList" 108 ⟨"OpeningsCabinet", "becomesOf", "(I)I"⟩ "OpeningsCabinet", .methodLinkNest "OpeningsCabinet$MoveList" 68 ⟨"OpeningsCabinet", "fromOf", "(I)I"⟩ "OpeningsCabinet", .methodLinkNest "OpeningsCabinet$MoveList" 71 ⟨"OpeningsCabinet", "toOf", "(I)I"⟩ "OpeningsCabinet", .methodLinkNest "OpeningsCabinet$Position" 144 ⟨"OpeningsCabinet", "fromOf", "(I)I"⟩ "OpeningsCabinet", .methodLinkNest "OpeningsCabinet$Position" 147 ⟨"OpeningsCabinet", "toOf", "(I)I"⟩ "OpeningsCabinet", .methodLinkNest "OpeningsCabinet$Position" 150 ⟨"OpeningsCabinet", "becomesOf", "(I)I"⟩ "OpeningsCabinet", .methodLinkNest "OpeningsCabinet$Position" 79 ⟨"OpeningsCabinet", "contains", "(JI)Z"⟩ "OpeningsCabinet", .methodLinkNest "OpeningsCabinet$Rules" 100 ⟨"OpeningsCabinet", "moveOf", "(III)I"⟩ "OpeningsCabinet", .methodLinkNest "OpeningsCabinet$Rules" 68 ⟨"OpeningsCabinet", "contains", "(JI)Z"⟩ "OpeningsCabinet", .methodLinkNest "OpeningsCabinet$Rules" 97 ⟨"OpeningsCabinet", "lowest", "(J)I"⟩ "OpeningsCabinet", .declares ⟨"java/lang/Exception", "<init>", "()V"⟩, .declares ⟨"java/lang/Exception", "<init>", "(Ljava/lang/String;)V"⟩, .declares ⟨"java/lang/IndexOutOfBoundsException", "<init>", "()V"⟩, .declares ⟨"java/lang/IndexOutOfBoundsException", "<init>", "(Ljava/lang/String;)V"⟩, .declares ⟨"java/lang/Object", "getClass", "()Ljava/lang/Class;"⟩, .declares ⟨"java/lang/RuntimeException", "<init>", "()V"⟩, .declares ⟨"java/lang/RuntimeException", "<init>", "(Ljava/lang/String;)V"⟩, .declares ⟨"java/lang/Throwable", "<init>", "()V"⟩, .declares ⟨"java/lang/Throwable", "<init>", "(Ljava/lang/String;)V"⟩, .castable "OpeningsCabinet" "java/lang/Object", .castable "OpeningsCabinet$Board" "java/lang/Object", .castable "OpeningsCabinet$Continuations" "java/lang/Object", .castable "OpeningsCabinet$Endings" "java/lang/Object", .castable "OpeningsCabinet$Game" "java/lang/Object", .castable "OpeningsCabinet$MoveList" "java/lang/Object", .castable "OpeningsCabinet$MovesReader" "java/lang/Object", .castable "OpeningsCabinet$Papers" "java/lang/Object", .castable "OpeningsCabinet$Position" "java/lang/Object", .castable "OpeningsCabinet$Rules" "java/lang/Object", .castable "OpeningsCabinet$Search" "java/lang/Object", .castable "OpeningsCabinet$Shelf" "java/lang/Object", .castable "OpeningsCabinetModel" "java/lang/Object", .castable "[B" "java/lang/Cloneable", .castable "[B" "java/lang/Object", .castable "[D" "java/lang/Object", .castable "[I" "java/lang/Object", .castable "[J" "java/lang/Object", .castable "[Ljava/lang/Object;" "java/lang/Object", .castable "[Z" "java/lang/Object", .castable "java/lang/ArrayIndexOutOfBoundsException" "java/lang/ArrayIndexOutOfBoundsException", .castable "java/lang/ArrayIndexOutOfBoundsException" "java/lang/IndexOutOfBoundsException", .castable "java/lang/ArrayIndexOutOfBoundsException" "java/lang/Object", .castable "java/lang/IllegalArgumentException" "java/lang/IllegalArgumentException", .castable "java/lang/IllegalArgumentException" "java/lang/Object", .castable "java/lang/IllegalStateException" "java/lang/IllegalStateException", .castable "java/lang/IllegalStateException" "java/lang/Object", .castable "java/lang/IndexOutOfBoundsException" "java/lang/IndexOutOfBoundsException", .castable "java/lang/IndexOutOfBoundsException" "java/lang/Object", .castable "java/lang/String" "java/lang/Object", .castable "java/lang/StringBuilder" "java/lang/Object", .castable "java/lang/StringIndexOutOfBoundsException" "java/lang/IndexOutOfBoundsException", .castable "java/lang/StringIndexOutOfBoundsException" "java/lang/Object", .castable "java/lang/Throwable" "java/lang/Object", .castable "java/util/ArrayList" "java/lang/Object", .castable "java/util/NoSuchElementException" "java/lang/Object", .castable "java/util/NoSuchElementException" "java/util/NoSuchElementException"]
def wNk (w : Cond) : Bool := match w with | .fieldLinkNest .. => true | .methodLinkNest .. => true | .declares _ => true | .castable .. => true | _ => false
theorem wNW_ok : ∀ w ∈ wNW, wNk w = true := by decide +kernel
abbrev wL (cy : Nat → ClassId) (X : va_W) (S : wS) : va_W := X ++ va_pl (sL S) (wE cy S)
abbrev wT (cy : Nat → ClassId) : List (ClassId × FieldType) := [(cy 0, .byte), (cy 1, .int), (cy 2, .long), (cy 3, .boolean), (cy 4, .object "java/lang/Object"), (cy 5, .double)]
abbrev jiushr (x y : Int32) : Int32 := (x.toUInt32 >>> (y.toUInt32 &&& Int32.toUInt32 31)).toInt32
abbrev jlshl (x : Int64) (y : Int32) : Int64 := x <<< (y.toInt64 &&& 63)
abbrev jlshr (x : Int64) (y : Int32) : Int64 := x >>> (y.toInt64 &&& 63)
abbrev jlushr (x : Int64) (y : Int32) : Int64 := (x.toUInt64 >>> (y.toInt64.toUInt64 &&& Int64.toUInt64 63)).toInt64
abbrev ji2c (x : Int32) : Int32 := (x.toUInt32 % 65536).toInt32
/-- what is given: the tables, the cells that are only read (constants' texts, static rows), an address book of them, what they hold -/
abbrev wD : Type := va_G × List Nat × (Nat → Nat) × wS
def wM (D : wD) (S : wS) (a : Nat) : Prop := a ∈ sL S ∨ a ∈ D.2.1
/-- later states hold the cells of the earlier ones, with their kinds and lengths -/
def wX (D : wD) (S S1 : wS) : Prop := (∀ q, q ∈ sL S → q ∈ sL S1) ∧ ∀ q, wM D S q → sK S1 q = sK S q ∧ sN S1 q = sN S q
theorem wX.M {D : wD} {S S1 : wS} (h : wX D S S1) {q : Nat} (hq : wM D S q) : wM D S1 q := hq.elim (fun a => Or.inl (h.1 q a)) Or.inr
theorem wX.rf {D : wD} {S : wS} : wX D S S := ⟨fun _ h => h, fun _ _ => ⟨rfl, rfl⟩⟩
theorem wX.trans {D : wD} {S S1 S2 : wS} (h : wX D S S1) (h2 : wX D S1 S2) : wX D S S2 := ⟨fun q hq => h2.1 q (h.1 q hq), fun q hq => ⟨(h2.2 q (h.M hq)).1.trans (h.2 q hq).1, (h2.2 q (h.M hq)).2.trans (h.2 q hq).2⟩⟩
theorem wX_uI {D : wD} {S : wS} {a f : Nat} {v : Int32} : wX D S (uI S a f v) := ⟨fun _ h => h, fun _ _ => ⟨rfl, rfl⟩⟩
theorem wX_uJ {D : wD} {S : wS} {a f : Nat} {v : Int64} : wX D S (uJ S a f v) := ⟨fun _ h => h, fun _ _ => ⟨rfl, rfl⟩⟩
theorem wX_uR {D : wD} {S : wS} {a f : Nat} {v : Option Nat} : wX D S (uR S a f v) := ⟨fun _ h => h, fun _ _ => ⟨rfl, rfl⟩⟩
/-- a new cell -/
def nA (S : wS) (q k n : Nat) : wS := (sL S ++ [q], va_up (sK S) q k, va_up (sN S) q n, va_up (sI S) q (fun _ => 0), va_up (sJ S) q (fun _ => 0), va_up (sR S) q (fun _ => none))
theorem wX_nA {D : wD} {S : wS} {q k n : Nat} (h : ¬ wM D S q) : wX D S (nA S q k n) := ⟨fun _ h => List.mem_append_left _ h, fun b hb => by
  have e : b ≠ q := fun e => h (e ▸ hb)
  exact ⟨va_up_ne _ _ e, va_up_ne _ _ e⟩⟩
theorem w_out {lo hi : Int} {x : Int32} (h1 : -2147483648 ≤ lo) (h2 : hi ≤ 2147483647) (h : ∀ v : Int, lo ≤ v → v ≤ hi → x ≠ Int32.ofInt v) : x.toInt < lo ∨ hi < x.toInt := by
  rcases Int.lt_or_le x.toInt lo with q | q
  · exact Or.inl q
  · rcases Int.lt_or_le hi x.toInt with q2 | q2
    · exact Or.inr q2
    · exact absurd (Int32.ofInt_toInt x).symm (h x.toInt q q2)
theorem ws_get {k f : Nat} {S : wS} {a : Nat} (h : f < wN k) : (ws_ k S a)[f]? = some (wv k f S a) := by
  simp [ws_, h]
theorem ws_len (k : Nat) (S : wS) (a : Nat) : (ws_ k S a).length = wN k := by simp [ws_]
theorem ws_set {k f : Nat} {S S' : wS} {a : Nat} {v : Value} (hv : wv k f S' a = v) (ho : ∀ g, g ≠ f → wv k g S' a = wv k g S a) : (ws_ k S a).set f v = ws_ k S' a := by
  apply List.ext_getElem
  · simp [ws_]
  · intro i h1 h2
    rw [List.getElem_set]
    by_cases e : f = i
    · subst e
      simp [ws_, hv]
    · rw [if_neg e]
      simp only [ws_, List.getElem_map, List.getElem_range]
      exact (ho i (fun q => e q.symm)).symm
theorem uI_I (S : wS) (a f : Nat) (v : Int32) (b g : Nat) : sI (uI S a f v) b g = if b = a ∧ g = f then v else sI S b g := by
  by_cases h : b = a <;> by_cases h2 : g = f <;> simp [uI, sI, va_up, h, h2]
theorem uJ_J (S : wS) (a f : Nat) (v : Int64) (b g : Nat) : sJ (uJ S a f v) b g = if b = a ∧ g = f then v else sJ S b g := by
  by_cases h : b = a <;> by_cases h2 : g = f <;> simp [uJ, sJ, va_up, h, h2]
theorem uR_R (S : wS) (a f : Nat) (v : Option Nat) (b g : Nat) : sR (uR S a f v) b g = if b = a ∧ g = f then v else sR S b g := by
  by_cases h : b = a <;> by_cases h2 : g = f <;> simp [uR, sR, va_up, h, h2]
theorem wE_at {cy : Nat → ClassId} {S : wS} {a k : Nat} (h : sK S a = k) (hk : k < 20) : wE cy S a = .inr (k, ws_ k S a) := by
  subst h
  simp only [wE, if_pos hk]
/-- another state that is the same but at the cell a -/
theorem wE_ne {cy : Nat → ClassId} {S S' : wS} {b : Nat} (hK : sK S' b = sK S b) (hN : sN S' b = sN S b) (hI : sI S' b = sI S b) (hJ : sJ S' b = sJ S b) (hR : sR S' b = sR S b) : wE cy S' b = wE cy S b := by
  have hv : ∀ k, ws_ k S' b = ws_ k S b := fun k => by
    unfold ws_
    congr 1
    funext f
    simp only [wv, hI, hJ, hR]
  simp only [wE, hK, hN, hI, hJ, hR, hv]
theorem wE_uI {cy : Nat → ClassId} {S : wS} {a k f : Nat} (h : sK S a = k) (hk : k < 20) (ht : wt k f = 0) (v : Int32) (b : Nat) : va_up (wE cy S) a (.inr (k, (ws_ k S a).set f (.int v))) b = wE cy (uI S a f v) b := by
  by_cases hb : b = a
  · subst hb
    rw [va_up_self, wE_at (S := uI S b f v) (k := k) h hk, ws_set (S' := uI S b f v)]
    · simp only [wv, ht, if_true]
      rw [uI_I]; simp
    · intro g hg
      simp only [wv]
      rw [uI_I]; simp [hg]; rfl
  · rw [va_up_ne _ _ hb]
    refine (wE_ne (S := S) (S' := uI S a f v) rfl rfl ?_ rfl rfl).symm
    simp [uI, sI, va_up, hb]
theorem wE_uJ {cy : Nat → ClassId} {S : wS} {a k f : Nat} (h : sK S a = k) (hk : k < 20) (ht : wt k f = 1) (v : Int64) (b : Nat) : va_up (wE cy S) a (.inr (k, (ws_ k S a).set f (.long v))) b = wE cy (uJ S a f v) b := by
  by_cases hb : b = a
  · subst hb
    rw [va_up_self, wE_at (S := uJ S b f v) (k := k) h hk, ws_set (S' := uJ S b f v)]
    · simp only [wv, ht]
      rw [uJ_J]; simp
    · intro g hg
      simp only [wv]
      rw [uJ_J]; simp [hg]; rfl
  · rw [va_up_ne _ _ hb]
    refine (wE_ne (S := S) (S' := uJ S a f v) rfl rfl rfl ?_ rfl).symm
    simp [uJ, sJ, va_up, hb]
theorem wE_uR {cy : Nat → ClassId} {S : wS} {a k f : Nat} (h : sK S a = k) (hk : k < 20) (ht : wt k f = 2) (v : Option Nat) (b : Nat) : va_up (wE cy S) a (.inr (k, (ws_ k S a).set f (va_rf v))) b = wE cy (uR S a f v) b := by
  by_cases hb : b = a
  · subst hb
    rw [va_up_self, wE_at (S := uR S b f v) (k := k) h hk, ws_set (S' := uR S b f v)]
    · simp only [wv, ht]
      rw [uR_R]; simp
    · intro g hg
      simp only [wv]
      rw [uR_R]; simp [hg]; rfl
  · rw [va_up_ne _ _ hb]
    refine (wE_ne (S := S) (S' := uR S a f v) rfl rfl rfl rfl ?_).symm
    simp [uR, sR, va_up, hb]
/-! the rows of the kit over a state S -/
theorem wNk_tab {w : Cond} (h : wNk w = true) : w.onTables = true := by
  unfold wNk at h
  split at h <;> first | rfl | cases h
theorem wNk_warm {w : Cond} (h : wNk w = true) {u U : State} (hW : u.WarmedH U.vm) (hz : va_Nw w u) : va_Nw w U := by
  unfold wNk at h
  split at h
  · exact va_Nw.warmF hW hz
  · exact va_Nw.warmM hW hz
  · exact va_Nw.warmD hW hz
  · exact va_Nw.warmC hW hz
  · cases h
def wRO (D : wD) (S : wS) : Prop := ∀ a ∈ D.2.1, sK S a = sK D.2.2.2 a ∧ sN S a = sN D.2.2.2 a ∧ sI S a = sI D.2.2.2 a ∧ sJ S a = sJ D.2.2.2 a ∧ sR S a = sR D.2.2.2 a
def wO (D : wD) (cy : Nat → ClassId) (X : va_W) (A : Nat → Prop) (H0 : Heap) (S : wS) (H : Heap) (locs : List Loc) : Prop := va_P D.1 vwCl (wL cy X S) H ∧ va_D A (wL cy X S) ∧ va_S A H0 H locs ∧ (∀ q, H0.size ≤ q → A q) ∧ wRO D S
/-- what never changes: the cells that are only read, where constants and statics lie -/
def wAd (D : wD) : Prop := (∀ q ∈ wStr, D.2.2.1 q.2.2.2 ∈ D.2.1 ∧ sK D.2.2.2 (D.2.2.1 q.2.2.2) = 0) ∧ (∀ q ∈ wSr, D.2.2.1 q.2.2.2.1 ∈ D.2.1 ∧ sK D.2.2.2 (D.2.2.1 q.2.2.2.1) = q.2.2.2.2) ∧ ∀ a ∈ D.2.1, sK D.2.2.2 a = 0 ∨ sK D.2.2.2 a = 20 ∨ sK D.2.2.2 a = 21 ∨ sK D.2.2.2 a = 24
/-- which exceptions are not which others -/
def wNC : List (String × String) := [("java/lang/IllegalArgumentException", "java/lang/IllegalStateException"), ("java/lang/IllegalArgumentException", "java/lang/IndexOutOfBoundsException"), ("java/lang/IllegalArgumentException", "java/util/NoSuchElementException"), ("java/lang/IllegalStateException", "java/lang/IllegalArgumentException"), ("java/lang/IllegalStateException", "java/lang/IndexOutOfBoundsException"), ("java/lang/IllegalStateException", "java/util/NoSuchElementException"), ("java/lang/IndexOutOfBoundsException", "java/lang/IllegalArgumentException"), ("java/lang/IndexOutOfBoundsException", "java/lang/IllegalStateException"), ("java/lang/IndexOutOfBoundsException", "java/util/NoSuchElementException"), ("java/util/NoSuchElementException", "java/lang/IllegalArgumentException"), ("java/util/NoSuchElementException", "java/lang/IllegalStateException"), ("java/util/NoSuchElementException", "java/lang/IndexOutOfBoundsException")]
/-- a cell that is only read lies in the heap: a text, its bytes, a row -/
def wRc (D : wD) (a : Nat) (A : Nat → Prop) (U : State) (H : Heap) : Prop := ¬ A a ∧ a < H.size ∧ (sK D.2.2.2 a = 0 → va_O "java/lang/String" a A U H ∧ va_OF "java/lang/String" "coder" "B" (.int (sI D.2.2.2 a 1)) a A U H ∧ va_OF "java/lang/String" "value" "[B" (va_rf (sR D.2.2.2 a 0)) a A U H) ∧ (sK D.2.2.2 a = 20 → va_T .byte a (sN D.2.2.2 a) (fun j => .int (sI D.2.2.2 a j)) A U H) ∧ (sK D.2.2.2 a = 21 → va_T .int a (sN D.2.2.2 a) (fun j => .int (sI D.2.2.2 a j)) A U H) ∧ (sK D.2.2.2 a = 24 → va_T (.object "java/lang/Object") a (sN D.2.2.2 a) (fun j => va_rf (sR D.2.2.2 a j)) A U H ∧ va_O "[Ljava/lang/Object;" a A U H)
theorem wRc.to {D : wD} {a : Nat} {A B : Nat → Prop} {U U1 : State} {H H1 : Heap} (hAB : ∀ q, B q → A q) (hq : ∀ a : Nat, a < H.size → ¬ A a → H1[a]? = H[a]?) (hV : U.vm.Alike U1.vm) (h : wRc D a A U H) : wRc D a B U1 H1 :=
  ⟨fun z => h.1 (hAB _ z), (Array.getElem?_eq_some_iff.mp ((hq a h.2.1 h.1).trans (Array.getElem?_eq_getElem h.2.1))).1, fun e => ⟨(((h.2.2.1 e).1.kept hq).narrow hAB).moved hV, (((h.2.2.1 e).2.1.kept hq).narrow hAB).moved hV, (((h.2.2.1 e).2.2.kept hq).narrow hAB).moved hV⟩, fun e => (((h.2.2.2.1 e).kept hq).narrow hAB).moved hV, fun e => (((h.2.2.2.2.1 e).kept hq).narrow hAB).moved hV, fun e => ⟨(((h.2.2.2.2.2 e).1.kept hq).narrow hAB).moved hV, (((h.2.2.2.2.2 e).2.kept hq).narrow hAB).moved hV⟩⟩
def wZ (D : wD) (cy : Nat → ClassId) (A : Nat → Prop) (U : State) (H : Heap) : Prop := (∀ a ∈ D.2.1, wRc D a A U H) ∧ (∀ q ∈ wStr, vk_R q.1 q.2.1 q.2.2.1 (D.2.2.1 q.2.2.2) U) ∧ (∀ q ∈ wSr, va_Z q.1 q.2.1 q.2.2.1 (.ref (D.2.2.1 q.2.2.2.1)) A U H) ∧ (∀ q ∈ wSi, va_Z q.1 q.2.1 q.2.2.1 (.int q.2.2.2) A U H) ∧ vx_Zq Bundle.tN "UNASSIGNED_STACK" Bundle.steD A U H ∧ vx_Zq Bundle.tN "SUPPRESSED_SENTINEL" Bundle.listD A U H ∧ va_Zq "jdk/internal/util/Preconditions" "SIOOBE_FORMATTER" "Ljava/util/function/BiFunction;" A U H ∧ va_AO "java/lang/Object" U ∧ (∀ q ∈ wNC, va_Nc q.1 q.2 U) ∧ va_Mi "[Ljava/lang/Object;" (D.2.2.1 200) U ∧ va_Dc U
def wK (D : wD) (cy : Nat → ClassId) (A : Nat → Prop) (U : State) : Prop := va_K D.1 vwCl (wT cy) U ∧ (∀ w ∈ wNW, va_Nw w U) ∧ wZ D cy A U U.heap ∧ wAd D
/-- a contract's start -/
def wP (D : wD) (cy : Nat → ClassId) (X : va_W) (S : wS) (sz : Nat) (U : State) : Prop := U.heap.size = sz ∧ va_P D.1 vwCl (wL cy X S) U.heap ∧ wK D cy (va_A (wL cy X S) sz) U ∧ va_D (fun _ => True) (wL cy X S) ∧ wRO D S
/-- a contract's end -/
def wB (D : wD) (cy : Nat → ClassId) (X : va_W) (A : Nat → Prop) (S : wS) (U : State) : Prop := va_P D.1 vwCl (wL cy X S) U.heap ∧ va_D A (wL cy X S) ∧ wRO D S
theorem w_spend {a b m c : Nat} (h : a + b ≤ m) (hc : c ≤ b) : a + c + (b - c) ≤ m := by omega
section WD
variable {p : Program} {l : Launch} {e : Env} {R : Room} {s : State} {m : MethodId} {args : Array Value} {below : List Frame} {meth : Method} {c : Code} {H : Heap} {locs : List Loc} {cells slots : Nat} {Q : State → Prop} {cc : ByteArray} {nL : Nat} {own : String} {Ts : List Cond} {pc : Nat} {ls : Array Slot} {rest : List Value} {D : wD} {cy : Nat → ClassId} {X : va_W} {A : Nat → Prop} {H0 : Heap} {S : wS} {a : Nat}
theorem wZ.to {B : Nat → Prop} {U U1 : State} {H1 : Heap} (hAB : ∀ q, B q → A q) (hq : ∀ a : Nat, a < H.size → ¬ A a → H1[a]? = H[a]?) (hV : U.vm.Alike U1.vm) (hR : ∀ own k tx a, vk_R own k tx a U → vk_R own k tx a U1) (h : wZ D cy A U H) : wZ D cy B U1 H1 :=
  ⟨fun a ha => (h.1 a ha).to hAB hq hV, fun q w => hR _ _ _ _ (h.2.1 q w), fun q w => (((h.2.2.1 q w).kept hq).narrow hAB).moved hV, fun q w => (((h.2.2.2.1 q w).kept hq).narrow hAB).moved hV, ((h.2.2.2.2.1.kept hq).narrow hAB).moved hV, ((h.2.2.2.2.2.1.kept hq).narrow hAB).moved hV, ((h.2.2.2.2.2.2.1.kept hq).narrow hAB).moved hV, h.2.2.2.2.2.2.2.1.moved hV, fun q w => (h.2.2.2.2.2.2.2.2.1 q w).moved hV, h.2.2.2.2.2.2.2.2.2.1.moved hV, h.2.2.2.2.2.2.2.2.2.2.moved hV⟩
theorem wA_in (hW : wO D cy X A H0 S H locs) : ∀ q, va_A (wL cy X S) H.size q → A q := by
  intro q h
  rcases h with ⟨k, e, h⟩ | h
  · exact hW.2.1.2 k (q, e) h
  · exact hW.2.2.2.1 q (Nat.le_trans hW.2.2.1.1 h)
theorem wE_ro (hW : wO D cy X A H0 S H locs) (h : a ∈ D.2.1) : wE cy S a = wE cy D.2.2.2 a := wE_ne (hW.2.2.2.2 a h).1 (hW.2.2.2.2 a h).2.1 (hW.2.2.2.2 a h).2.2.1 (hW.2.2.2.2 a h).2.2.2.1 (hW.2.2.2.2 a h).2.2.2.2
/-- a cell of one's own -/
theorem w_own (hW : wO D cy X A H0 S H locs) (h : a ∈ sL S) : ∃ j : Nat, (wL cy X S)[j]? = some (a, wE cy S a) := va_pl_get (X := X) (f := wE cy S) h
/-- what kind a cell that is only read is of -/
theorem w_roK (hK : wK D cy A s) (hW : wO D cy X A H0 S H locs) (h : a ∈ D.2.1) : sK S a = sK D.2.2.2 a ∧ (sK S a = 0 ∨ sK S a = 20 ∨ sK S a = 21 ∨ sK S a = 24) := by
  have h1 := hK.2.2.2.2.2 a h
  have h2 := (hW.2.2.2.2 a h).1
  rw [← h2] at h1
  exact ⟨h2, h1⟩
/-- its class is known -/
theorem w_recv {k : Nat} {q : vw_C} (hK : wK D cy A s) (hW : wO D cy X A s.heap S H locs) (hM : wM D S a) (hk : sK S a = k) (hk2 : k < 20) (hc : vwCl[k]? = some q) : ∃ cell : Cell, H[a]? = some cell ∧ cell.vm.isStatics = false ∧ s.vm.findClass q.1 = some cell.cls := by
  rcases hM with h | h
  · obtain ⟨j, hj⟩ := w_own hW h
    rw [wE_at hk hk2] at hj
    exact va_recv hK.1 hW.1 hc hj
  · obtain ⟨e1, e2⟩ := w_roK hK hW h
    have e3 : k = 0 := by omega
    subst e3
    have e : (RJ0, TJ0, 4) = q := Option.some.inj hc
    subst e
    obtain ⟨cell, f1, f2, f3, -⟩ := ((hK.2.2.1.1 a h).2.2.1 (e1.symm.trans hk)).1.kept hW.2.2.1.2.1
    exact ⟨cell, f1, f2, f3⟩
theorem w_mut (hK : wK D cy A s) (hW : wO D cy X A s.heap S H locs) (hM : wM D S a) {k : Nat} (hk : sK S a = k) (h0 : k ≠ 0) (h2 : k < 20) : a ∈ sL S := by
  rcases hM with h | h
  · exact h
  · have h1 := hK.2.2.2.2.2 a h
    rw [← (hW.2.2.2.2 a h).1, hk] at h1
    omega
theorem wRO.put {S' : wS} (h : wRO D S) (ha : a ∉ D.2.1) (ho : ∀ b, b ≠ a → sK S' b = sK S b ∧ sN S' b = sN S b ∧ sI S' b = sI S b ∧ sJ S' b = sJ S b ∧ sR S' b = sR S b) : wRO D S' := fun b hb => by
  have e : b ≠ a := fun e => ha (e ▸ hb)
  obtain ⟨e1, e2, e3, e4, e5⟩ := ho b e
  obtain ⟨f1, f2, f3, f4, f5⟩ := h b hb
  exact ⟨e1.trans f1, e2.trans f2, e3.trans f3, e4.trans f4, e5.trans f5⟩
theorem w_noRO (hK : wK D cy A s) (hW : wO D cy X A s.heap S H locs) (hL : a ∈ sL S) : a ∉ D.2.1 := fun h => by
  obtain ⟨j, hj⟩ := va_pl_get (X := X) (f := wE cy S) hL
  exact (hK.2.2.1.1 a h).1 (hW.2.1.2 j _ hj)
theorem wRO_uI (h : wRO D S) (ha : a ∉ D.2.1) {f : Nat} {v : Int32} : wRO D (uI S a f v) := h.put ha (fun b hb => ⟨rfl, rfl, by simp [uI, sI, va_up, hb], rfl, rfl⟩)
theorem wRO_uJ (h : wRO D S) (ha : a ∉ D.2.1) {f : Nat} {v : Int64} : wRO D (uJ S a f v) := h.put ha (fun b hb => ⟨rfl, rfl, rfl, by simp [uJ, sJ, va_up, hb], rfl⟩)
theorem wRO_uR (h : wRO D S) (ha : a ∉ D.2.1) {f : Nat} {v : Option Nat} : wRO D (uR S a f v) := h.put ha (fun b hb => ⟨rfl, rfl, rfl, rfl, by simp [uR, sR, va_up, hb]⟩)
theorem wRO_nA (h : wRO D S) (ha : a ∉ D.2.1) {k n : Nat} : wRO D (nA S a k n) := h.put ha (fun b hb => by simp [nA, sK, sN, sI, sJ, sR, va_up, hb])
theorem w_get {k f N index : Nat} {C : String} {T : u_T} {v : Value} (F : CallFix p m c cc nL s args Ts own) (hK : wK D cy A s) (hW : wO D cy X A s.heap S H locs) (hL : wM D S a) (hk : sK S a = k) (hk2 : k < 20) (hc : vwCl[k]? = some (C, T, N)) (hN : wN k = N) (hf : f < N) (hin : ∀ w ∈ u_ws C T N, w ∈ Ts) (hlink : (Cond.fieldLink own index (T f).1 (T f).2.1 (T f).2.2.1).before args s = true) (hv : wv k f S a = v) (hdg : decode cc pc = .ok (.getfield index, 3))
    (kk : W p l e R s m args below meth c H locs cells slots Q (F0 m (pc + 3) ls (v :: rest))) (hf2 : k ≠ 0 ∨ f < 2 := by decide) : W p l e R s m args below meth c H locs cells slots Q (F0 m pc ls (.ref a :: rest)) := by
  obtain ⟨hx, hb, hml, hown, hts⟩ := F
  rcases hL with h | h
  · obtain ⟨j, hj⟩ := w_own hW h
    rw [wE_at hk hk2] at hj
    exact va_get (D := D.1) (ci := k) (v := v) hx hb hts hin hown hK.1 hW.1 j hj hc f hf hlink (fun _ h9 => h9) (by rw [ws_get (by rw [hN]; exact hf), hv]) hdg kk
  · obtain ⟨e1, e2⟩ := w_roK hK hW h
    have e3 : k = 0 := by omega
    subst e3
    have e : (RJ0, TJ0, 4) = (C, T, N) := Option.some.inj hc
    cases e
    have hr := (hK.2.2.1.1 a h).2.2.1 (e1.symm.trans hk)
    rcases (show f = 0 ∨ f = 1 by omega) with e4 | e4
    · subst e4
      subst hv
      refine vk_getf hx hb (o := "java/lang/String") (n := "value") (d := "[B") hr.2.2 hW.2.2.1 hown hlink (fun _ h9 => h9) hdg ?_
      rw [show va_rf (sR D.2.2.2 a 0) = wv 0 0 S a by rw [show wv 0 0 S a = va_rf (sR S a 0) from rfl, (hW.2.2.2.2 a h).2.2.2.2]]
      exact kk
    · subst e4
      subst hv
      refine vk_getf hx hb (o := "java/lang/String") (n := "coder") (d := "B") hr.2.1 hW.2.2.1 hown hlink (fun _ h9 => h9) hdg ?_
      rw [show Value.int (sI D.2.2.2 a 1) = wv 0 1 S a by rw [show wv 0 1 S a = .int (sI S a 1) from rfl, (hW.2.2.2.2 a h).2.2.1]]
      exact kk
theorem w_putI {k f N index : Nat} {C : String} {T : u_T} {v : Int32} (F : CallFix p m c cc nL s args Ts own) (hK : wK D cy A s) (hW : wO D cy X A s.heap S H locs) (hM : wM D S a) (hk : sK S a = k) (hk2 : k < 20) (hk0 : k ≠ 0) (hc : vwCl[k]? = some (C, T, N)) (hN : wN k = N) (hf : f < N) (hin : ∀ w ∈ u_ws C T N, w ∈ Ts) (ty0 : Nat → FieldType) (hty : ∀ k, k < N → parseFieldDescriptor (T k).2.2.1 = some (ty0 k)) (hnm : ∀ a, a < N → ∀ b, b < N → a ≠ b → (T a).2.1 ≠ (T b).2.1) (hlink : (Cond.fieldLink own index (T f).1 (T f).2.1 (T f).2.2.1).before args s = true) (ht : wt k f = 0) (hfin : (T f).2.2.2 = false) {ty : FieldType} (hd : parseFieldDescriptor (T f).2.2.1 = some ty) (hn : narrow ty (.int v) = .int v) (hfit : fits ty (.int v) = true) (hdg : decode cc pc = .ok (.putfield index, 3))
    (kk : ∀ (H1 : Heap) (locs1 : List Loc), wO D cy X A s.heap (uI S a f v) H1 locs1 → W p l e R s m args below meth c H1 locs1 cells slots Q (F0 m (pc + 3) ls rest)) : W p l e R s m args below meth c H locs cells slots Q (F0 m pc ls (.int v :: .ref a :: rest)) := by
  have hL := w_mut hK hW hM hk hk0 hk2
  obtain ⟨hx, hb, hml, hown, hts⟩ := F
  obtain ⟨j, hj0⟩ := va_pl_get (X := X) (f := wE cy S) hL
  have hj := hj0
  rw [wE_at hk hk2] at hj
  refine va_put (D := D.1) (ci := k) (v := .int v) hx hb hts hin ty0 hty hnm hown hK.1 hW.1 hW.2.1 hW.2.2.1 j hj hc f hf hlink (fun _ h9 => h9) hfin hd hn hfit (by rw [ws_len, hN]; exact hf) hdg (fun H1 locs1 hP1 hD1 hS1 => kk H1 locs1 ?_)
  have e1 : (wL cy X S).set j (a, .inr (k, (ws_ k S a).set f (.int v))) = wL cy X (uI S a f v) := by
    rw [va_pl_set hW.2.1 hL hj0]
    exact congrArg (fun l => X ++ l) (va_pl_congr (wE_uI hk hk2 ht v))
  rw [e1] at hP1 hD1
  exact ⟨hP1, hD1, hS1, hW.2.2.2.1, wRO_uI hW.2.2.2.2 (w_noRO hK hW hL)⟩
theorem w_putR {k f N index : Nat} {C : String} {T : u_T} {g : Option Nat} (F : CallFix p m c cc nL s args Ts own) (hK : wK D cy A s) (hW : wO D cy X A s.heap S H locs) (hM : wM D S a) (hk : sK S a = k) (hk2 : k < 20) (hk0 : k ≠ 0) (hc : vwCl[k]? = some (C, T, N)) (hN : wN k = N) (hf : f < N) (hin : ∀ w ∈ u_ws C T N, w ∈ Ts) (ty0 : Nat → FieldType) (hty : ∀ k, k < N → parseFieldDescriptor (T k).2.2.1 = some (ty0 k)) (hnm : ∀ a, a < N → ∀ b, b < N → a ≠ b → (T a).2.1 ≠ (T b).2.1) (hlink : (Cond.fieldLink own index (T f).1 (T f).2.1 (T f).2.2.1).before args s = true) (ht : wt k f = 2) (hfin : (T f).2.2.2 = false) {ty : FieldType} (hd : parseFieldDescriptor (T f).2.2.1 = some ty) (hn : narrow ty (va_rf g) = va_rf g) (hfit : fits ty (va_rf g) = true) (hdg : decode cc pc = .ok (.putfield index, 3))
    (kk : ∀ (H1 : Heap) (locs1 : List Loc), wO D cy X A s.heap (uR S a f g) H1 locs1 → W p l e R s m args below meth c H1 locs1 cells slots Q (F0 m (pc + 3) ls rest)) : W p l e R s m args below meth c H locs cells slots Q (F0 m pc ls (va_rf g :: .ref a :: rest)) := by
  have hL := w_mut hK hW hM hk hk0 hk2
  obtain ⟨hx, hb, hml, hown, hts⟩ := F
  obtain ⟨j, hj0⟩ := va_pl_get (X := X) (f := wE cy S) hL
  have hj := hj0
  rw [wE_at hk hk2] at hj
  refine va_put (D := D.1) (ci := k) (v := va_rf g) hx hb hts hin ty0 hty hnm hown hK.1 hW.1 hW.2.1 hW.2.2.1 j hj hc f hf hlink (fun _ h9 => h9) hfin hd hn hfit (by rw [ws_len, hN]; exact hf) hdg (fun H1 locs1 hP1 hD1 hS1 => kk H1 locs1 ?_)
  have e1 : (wL cy X S).set j (a, .inr (k, (ws_ k S a).set f (va_rf g))) = wL cy X (uR S a f g) := by
    rw [va_pl_set hW.2.1 hL hj0]
    exact congrArg (fun l => X ++ l) (va_pl_congr (wE_uR hk hk2 ht g))
  rw [e1] at hP1 hD1
  exact ⟨hP1, hD1, hS1, hW.2.2.2.1, wRO_uR hW.2.2.2.2 (w_noRO hK hW hL)⟩
theorem w_putJ {k f N index : Nat} {C : String} {T : u_T} {v : Int64} (F : CallFix p m c cc nL s args Ts own) (hK : wK D cy A s) (hW : wO D cy X A s.heap S H locs) (hM : wM D S a) (hk : sK S a = k) (hk2 : k < 20) (hk0 : k ≠ 0) (hc : vwCl[k]? = some (C, T, N)) (hN : wN k = N) (hf : f < N) (hin : ∀ w ∈ u_ws C T N, w ∈ Ts) (ty0 : Nat → FieldType) (hty : ∀ k, k < N → parseFieldDescriptor (T k).2.2.1 = some (ty0 k)) (hnm : ∀ a, a < N → ∀ b, b < N → a ≠ b → (T a).2.1 ≠ (T b).2.1) (hlink : (Cond.fieldLink own index (T f).1 (T f).2.1 (T f).2.2.1).before args s = true) (ht : wt k f = 1) (hfin : (T f).2.2.2 = false) (hd : parseFieldDescriptor (T f).2.2.1 = some .long) (hdg : decode cc pc = .ok (.putfield index, 3))
    (kk : ∀ (H1 : Heap) (locs1 : List Loc), wO D cy X A s.heap (uJ S a f v) H1 locs1 → W p l e R s m args below meth c H1 locs1 cells slots Q (F0 m (pc + 3) ls rest)) : W p l e R s m args below meth c H locs cells slots Q (F0 m pc ls (.long v :: .ref a :: rest)) := by
  have hL := w_mut hK hW hM hk hk0 hk2
  obtain ⟨hx, hb, hml, hown, hts⟩ := F
  obtain ⟨j, hj0⟩ := va_pl_get (X := X) (f := wE cy S) hL
  have hj := hj0
  rw [wE_at hk hk2] at hj
  refine va_put (D := D.1) (ci := k) (v := .long v) hx hb hts hin ty0 hty hnm hown hK.1 hW.1 hW.2.1 hW.2.2.1 j hj hc f hf hlink (fun _ h9 => h9) hfin hd rfl rfl (by rw [ws_len, hN]; exact hf) hdg (fun H1 locs1 hP1 hD1 hS1 => kk H1 locs1 ?_)
  have e1 : (wL cy X S).set j (a, .inr (k, (ws_ k S a).set f (.long v))) = wL cy X (uJ S a f v) := by
    rw [va_pl_set hW.2.1 hL hj0]
    exact congrArg (fun l => X ++ l) (va_pl_congr (wE_uJ hk hk2 ht v))
  rw [e1] at hP1 hD1
  exact ⟨hP1, hD1, hS1, hW.2.2.2.1, wRO_uJ hW.2.2.2.2 (w_noRO hK hW hL)⟩
theorem w_ild {i : Int32} (F : CallFix p m c cc nL s args Ts own) (hK : wK D cy A s) (hW : wO D cy X A s.heap S H locs) (hL : wM D S a) (hk : sK S a = 21) (hin : vp_in i (sN S a)) (hdg : decode cc pc = .ok (.iaload, 1))
    (kk : W p l e R s m args below meth c H locs cells slots Q (F0 m (pc + 1) ls (.int (sI S a i.toNatClampNeg) :: rest))) : W p l e R s m args below meth c H locs cells slots Q (F0 m pc ls (.int i :: .ref a :: rest)) := by
  obtain ⟨hx, hb, hml, hown, hts⟩ := F
  rcases hL with h | h
  · obtain ⟨j, hj⟩ := w_own hW h
    have hP := hW.1
    rw [show wE cy S a = .inl (cy 1, sN S a, .inl (sI S a)) by simp [wE, hk]] at hj
    exact va_iald hx hb hK.1 hP j 1 hj rfl hin hdg kk
  · obtain ⟨e1, e2⟩ := w_roK hK hW h
    have hT := (hK.2.2.1.1 a h).2.2.2.2.1 (e1.symm.trans hk)
    exact va_ti hx hb hT hW.2.2.1 (by rw [← (hW.2.2.2.2 a h).2.1]; exact hin) (by rw [← (hW.2.2.2.2 a h).2.2.1]) hdg kk

theorem w_lld {i : Int32} (F : CallFix p m c cc nL s args Ts own) (hK : wK D cy A s) (hW : wO D cy X A s.heap S H locs) (hL : wM D S a) (hk : sK S a = 22) (hin : vp_in i (sN S a)) (hdg : decode cc pc = .ok (.laload, 1))
    (kk : W p l e R s m args below meth c H locs cells slots Q (F0 m (pc + 1) ls (.long (sJ S a i.toNatClampNeg) :: rest))) : W p l e R s m args below meth c H locs cells slots Q (F0 m pc ls (.int i :: .ref a :: rest)) := by
  obtain ⟨hx, hb, hml, hown, hts⟩ := F
  rcases hL with h | h
  · obtain ⟨j, hj⟩ := w_own hW h
    have hP := hW.1
    rw [show wE cy S a = .inl (cy 2, sN S a, .inr (.inl (sJ S a))) by simp [wE, hk]] at hj
    exact va_lald hx hb hK.1 hP j 2 hj rfl hin hdg kk
  · obtain ⟨e1, e2⟩ := w_roK hK hW h
    omega

theorem w_zld {i : Int32} (F : CallFix p m c cc nL s args Ts own) (hK : wK D cy A s) (hW : wO D cy X A s.heap S H locs) (hL : wM D S a) (hk : sK S a = 23) (hin : vp_in i (sN S a)) (hdg : decode cc pc = .ok (.baload, 1))
    (kk : W p l e R s m args below meth c H locs cells slots Q (F0 m (pc + 1) ls (.int (sI S a i.toNatClampNeg) :: rest))) : W p l e R s m args below meth c H locs cells slots Q (F0 m pc ls (.int i :: .ref a :: rest)) := by
  obtain ⟨hx, hb, hml, hown, hts⟩ := F
  rcases hL with h | h
  · obtain ⟨j, hj⟩ := w_own hW h
    have hP := hW.1
    rw [show wE cy S a = .inl (cy 3, sN S a, .inl (sI S a)) by simp [wE, hk]] at hj
    exact va_zald hx hb hK.1 hP j 3 hj rfl hin hdg kk
  · obtain ⟨e1, e2⟩ := w_roK hK hW h
    omega

/-- an array's row is replaced -/
theorem wE_row {S S' : wS} {e : va_E} (ha : wE cy S' a = e) (ho : ∀ b, b ≠ a → wE cy S' b = wE cy S b) (b : Nat) : va_up (wE cy S) a e b = wE cy S' b := by
  by_cases hb : b = a
  · subst hb; rw [va_up_self, ha]
  · rw [va_up_ne _ _ hb, ho b hb]
theorem wE_oI {f : Nat} {v : Int32} (b : Nat) (hb : b ≠ a) : wE cy (uI S a f v) b = wE cy S b := wE_ne rfl rfl (by simp [uI, sI, va_up, hb]) rfl rfl
theorem wE_oJ {f : Nat} {v : Int64} (b : Nat) (hb : b ≠ a) : wE cy (uJ S a f v) b = wE cy S b := wE_ne rfl rfl rfl (by simp [uJ, sJ, va_up, hb]) rfl
theorem wE_oR {f : Nat} {v : Option Nat} (b : Nat) (hb : b ≠ a) : wE cy (uR S a f v) b = wE cy S b := wE_ne rfl rfl rfl rfl (by simp [uR, sR, va_up, hb])
theorem w_ist {i x : Int32} (F : CallFix p m c cc nL s args Ts own) (hK : wK D cy A s) (hW : wO D cy X A s.heap S H locs) (hL : a ∈ sL S) (hk : sK S a = 21) (hin : vp_in i (sN S a)) (hdg : decode cc pc = .ok (.iastore, 1))
    (kk : ∀ (H1 : Heap) (locs1 : List Loc), wO D cy X A s.heap (uI S a i.toNatClampNeg x) H1 locs1 → W p l e R s m args below meth c H1 locs1 cells slots Q (F0 m (pc + 1) ls rest)) : W p l e R s m args below meth c H locs cells slots Q (F0 m pc ls (.int x :: .int i :: .ref a :: rest)) := by
  obtain ⟨hx, hb, hml, hown, hts⟩ := F
  obtain ⟨j, hj0⟩ := va_pl_get (X := X) (f := wE cy S) hL
  have hj := hj0
  rw [show wE cy S a = .inl (cy 1, sN S a, .inl (sI S a)) by simp [wE, hk]] at hj
  refine va_iast hx hb hK.1 hW.1 hW.2.1 hW.2.2.1 j 1 hj rfl hin hdg (fun H1 locs1 hP1 hD1 hS1 => kk H1 locs1 ?_)
  rw [va_pl_set hW.2.1 hL hj0, va_pl_congr (wE_row (S' := uI S a i.toNatClampNeg x) (a := a) (by simp [wE, uI, sI, sK, hk, va_up]; rfl) wE_oI)] at hP1 hD1
  exact ⟨hP1, hD1, hS1, hW.2.2.2.1, wRO_uI hW.2.2.2.2 (w_noRO hK hW hL)⟩
theorem w_lst {i : Int32} {x : Int64} (F : CallFix p m c cc nL s args Ts own) (hK : wK D cy A s) (hW : wO D cy X A s.heap S H locs) (hL : a ∈ sL S) (hk : sK S a = 22) (hin : vp_in i (sN S a)) (hdg : decode cc pc = .ok (.lastore, 1))
    (kk : ∀ (H1 : Heap) (locs1 : List Loc), wO D cy X A s.heap (uJ S a i.toNatClampNeg x) H1 locs1 → W p l e R s m args below meth c H1 locs1 cells slots Q (F0 m (pc + 1) ls rest)) : W p l e R s m args below meth c H locs cells slots Q (F0 m pc ls (.long x :: .int i :: .ref a :: rest)) := by
  obtain ⟨hx, hb, hml, hown, hts⟩ := F
  obtain ⟨j, hj0⟩ := va_pl_get (X := X) (f := wE cy S) hL
  have hj := hj0
  rw [show wE cy S a = .inl (cy 2, sN S a, .inr (.inl (sJ S a))) by simp [wE, hk]] at hj
  refine va_last hx hb hK.1 hW.1 hW.2.1 hW.2.2.1 j 2 hj rfl hin hdg (fun H1 locs1 hP1 hD1 hS1 => kk H1 locs1 ?_)
  rw [va_pl_set hW.2.1 hL hj0, va_pl_congr (wE_row (S' := uJ S a i.toNatClampNeg x) (a := a) (by simp [wE, uJ, sJ, sK, hk, va_up]; rfl) wE_oJ)] at hP1 hD1
  exact ⟨hP1, hD1, hS1, hW.2.2.2.1, wRO_uJ hW.2.2.2.2 (w_noRO hK hW hL)⟩
theorem w_zst {i x : Int32} (F : CallFix p m c cc nL s args Ts own) (hK : wK D cy A s) (hW : wO D cy X A s.heap S H locs) (hL : a ∈ sL S) (hk : sK S a = 23) (hin : vp_in i (sN S a)) (hdg : decode cc pc = .ok (.bastore, 1))
    (kk : ∀ (H1 : Heap) (locs1 : List Loc), wO D cy X A s.heap (uI S a i.toNatClampNeg (vp_nar .boolean x)) H1 locs1 → W p l e R s m args below meth c H1 locs1 cells slots Q (F0 m (pc + 1) ls rest)) : W p l e R s m args below meth c H locs cells slots Q (F0 m pc ls (.int x :: .int i :: .ref a :: rest)) := by
  obtain ⟨hx, hb, hml, hown, hts⟩ := F
  obtain ⟨j, hj0⟩ := va_pl_get (X := X) (f := wE cy S) hL
  have hj := hj0
  rw [show wE cy S a = .inl (cy 3, sN S a, .inl (sI S a)) by simp [wE, hk]] at hj
  refine va_zast hx hb hK.1 hW.1 hW.2.1 hW.2.2.1 j 3 hj rfl hin hdg (fun H1 locs1 hP1 hD1 hS1 => kk H1 locs1 ?_)
  rw [va_pl_set hW.2.1 hL hj0, va_pl_congr (wE_row (S' := uI S a i.toNatClampNeg (vp_nar .boolean x)) (a := a) (by simp [wE, uI, sI, sK, hk, va_up]; rfl) wE_oI)] at hP1 hD1
  exact ⟨hP1, hD1, hS1, hW.2.2.2.1, wRO_uI hW.2.2.2.2 (w_noRO hK hW hL)⟩
theorem wP_blind {av : List Value} {sz : Nat} : FrameBlind (va_Pc av (wP D cy X S sz)) := fun a U g mk q => ⟨q.1, q.2.1, q.2.2.1, ⟨va_K.moved (u := U) (U := U.calling g mk a) (Vm.Alike.refl U.vm) q.2.2.2.1.1, fun w hw => (q.2.2.2.1.2.1 w hw).same (u := U) (U := U.calling g mk a) (wNk_tab (wNW_ok w hw)) rfl, q.2.2.2.1.2.2.1.to (U1 := U.calling g mk a) (fun _ h => h) (fun _ _ _ => rfl) (Vm.Alike.refl U.vm) (fun _ _ _ _ h => h.same (u := U) (U := U.calling g mk a) rfl), q.2.2.2.1.2.2.2⟩, q.2.2.2.2⟩
theorem wP_here (hK : wK D cy A s) (hW : wO D cy X A s.heap S H locs) (av : List Value) : ∀ U : State, U.heap = H → s.WarmedH U.vm → va_Pc av (wP D cy X S H.size) av.toArray U := fun U hU hV => ⟨rfl, by rw [hU], by rw [hU]; exact hW.1, ⟨va_K.moved hV.alike hK.1, fun w hw => wNk_warm (wNW_ok w hw) hV (hK.2.1 w hw), by rw [hU]; exact hK.2.2.1.to (wA_in hW) (fun a h1 h2 => hW.2.2.1.2.1 a h1 h2) hV.alike (fun _ _ _ _ h => h.warm hV), hK.2.2.2⟩, hW.2.1.weaken (fun _ _ _ _ => trivial), hW.2.2.2.2⟩
theorem w_preS (hK : wK D cy A s) (hW : wO D cy X A s.heap S H locs) {As : List Value} : PreS s H (va_Pc As (wP D cy X S H.size)) As := ⟨wP_blind, wP_here hK hW As⟩
theorem w_preV {k : Nat} {q : vw_C} (hK : wK D cy A s) (hW : wO D cy X A s.heap S H locs) (hL : wM D S a) (hk : sK S a = k) (hk2 : k < 20) (hc : vwCl[k]? = some q) {As : List Value} : PreV s H q.1 a (va_Pc (.ref a :: As) (wP D cy X S H.size)) As := by
  exact ⟨wP_blind, w_recv hK hW hL hk hk2 hc, wP_here hK hW _⟩
/-- behind a call -/
theorem wO_back {S1 : wS} {t : State} {H1 : Heap} {locs1 : List Loc} (hW : wO D cy X A H0 S H locs) (ht : t.heap = H1) (hB : wB D cy X (va_A (wL cy X S) H.size) S1 t) (hS1 : va_S A H0 H1 locs1) : wO D cy X A H0 S1 H1 locs1 := by
  obtain ⟨h1, h3, h4⟩ := hB
  rw [ht] at h1
  exact ⟨h1, h3.weaken (fun _ _ _ h => wA_in hW _ h), hS1, hW.2.2.2.1, h4⟩
/-- the contract of a method that answers an int, a long, nothing, a reference or null: from the state S and with these arguments, at its end post holds of the answer and the state -/
def mI (D : wD) (cy : Nat → ClassId) (X : va_W) (l : Launch) (y : MethodName) (ws : List Cond) (rm : Room) (av : List Value) (S : wS) (post : Int32 → wS → Prop) : Prop := ∀ sz, Met l y ws rm (va_Pc av (wP D cy X S sz)) (va_Qi post (wB D cy X (va_A (wL cy X S) sz)) (va_A (wL cy X S) sz)) rm.cells rm.slots (va_A (wL cy X S) sz)
def mJ (D : wD) (cy : Nat → ClassId) (X : va_W) (l : Launch) (y : MethodName) (ws : List Cond) (rm : Room) (av : List Value) (S : wS) (post : Int64 → wS → Prop) : Prop := ∀ sz, Met l y ws rm (va_Pc av (wP D cy X S sz)) (va_Ql post (wB D cy X (va_A (wL cy X S) sz)) (va_A (wL cy X S) sz)) rm.cells rm.slots (va_A (wL cy X S) sz)
def mD (D : wD) (cy : Nat → ClassId) (X : va_W) (l : Launch) (y : MethodName) (ws : List Cond) (rm : Room) (av : List Value) (S : wS) (post : UInt64 → wS → Prop) : Prop := ∀ sz, Met l y ws rm (va_Pc av (wP D cy X S sz)) (va_Qd post (wB D cy X (va_A (wL cy X S) sz)) (va_A (wL cy X S) sz)) rm.cells rm.slots (va_A (wL cy X S) sz)
def mF (D : wD) (cy : Nat → ClassId) (X : va_W) (l : Launch) (y : MethodName) (ws : List Cond) (rm : Room) (av : List Value) (S : wS) (post : UInt32 → wS → Prop) : Prop := ∀ sz, Met l y ws rm (va_Pc av (wP D cy X S sz)) (va_Qf post (wB D cy X (va_A (wL cy X S) sz)) (va_A (wL cy X S) sz)) rm.cells rm.slots (va_A (wL cy X S) sz)
def mV (D : wD) (cy : Nat → ClassId) (X : va_W) (l : Launch) (y : MethodName) (ws : List Cond) (rm : Room) (av : List Value) (S : wS) (post : wS → Prop) : Prop := ∀ sz, Met l y ws rm (va_Pc av (wP D cy X S sz)) (va_Qv post (wB D cy X (va_A (wL cy X S) sz)) (va_A (wL cy X S) sz)) rm.cells rm.slots (va_A (wL cy X S) sz)
def mR (D : wD) (cy : Nat → ClassId) (X : va_W) (l : Launch) (y : MethodName) (ws : List Cond) (rm : Room) (av : List Value) (S : wS) (post : Option Nat → wS → Prop) : Prop := ∀ sz, Met l y ws rm (va_Pc av (wP D cy X S sz)) (va_Qq post (wB D cy X (va_A (wL cy X S) sz)) (va_A (wL cy X S) sz)) rm.cells rm.slots (va_A (wL cy X S) sz)
variable {mc ms : Nat} {st : List Value} {av : Array Value}
theorem w_callI {post : Int32 → wS → Prop} (hr : va_Run p l e R s m args below meth c H locs cells slots mc ms (F0 m pc ls st) rest (va_Qi post (wB D cy X (va_A (wL cy X S) H.size)) (va_A (wL cy X S) H.size) av) (va_A (wL cy X S) H.size)) (hW : wO D cy X A H0 S H locs)
    (kk : ∀ (r : Int32) (S1 : wS) (H1 : Heap) (locs1 : List Loc), post r S1 → wO D cy X A H0 S1 H1 locs1 → W p l e R s m args below meth c H1 locs1 (cells + mc) (slots + ms) Q (F0 m (pc + 3) ls (.int r :: rest))) : W p l e R s m args below meth c H locs cells slots Q (F0 m pc ls st) :=
  va_calli hr hW.2.2.1 (fun q _ h => wA_in hW q h) (wA_in hW) (fun r u t H1 locs1 ht _ hp hB _ _ hS1 => kk r u H1 locs1 hp (wO_back hW ht hB hS1))
theorem w_callJ {post : Int64 → wS → Prop} (hr : va_Run p l e R s m args below meth c H locs cells slots mc ms (F0 m pc ls st) rest (va_Ql post (wB D cy X (va_A (wL cy X S) H.size)) (va_A (wL cy X S) H.size) av) (va_A (wL cy X S) H.size)) (hW : wO D cy X A H0 S H locs)
    (kk : ∀ (r : Int64) (S1 : wS) (H1 : Heap) (locs1 : List Loc), post r S1 → wO D cy X A H0 S1 H1 locs1 → W p l e R s m args below meth c H1 locs1 (cells + mc) (slots + ms) Q (F0 m (pc + 3) ls (.long r :: rest))) : W p l e R s m args below meth c H locs cells slots Q (F0 m pc ls st) :=
  va_calll hr hW.2.2.1 (fun q _ h => wA_in hW q h) (wA_in hW) (fun r u t H1 locs1 ht _ hp hB _ _ hS1 => kk r u H1 locs1 hp (wO_back hW ht hB hS1))
theorem w_callD {post : UInt64 → wS → Prop} (hr : va_Run p l e R s m args below meth c H locs cells slots mc ms (F0 m pc ls st) rest (va_Qd post (wB D cy X (va_A (wL cy X S) H.size)) (va_A (wL cy X S) H.size) av) (va_A (wL cy X S) H.size)) (hW : wO D cy X A H0 S H locs)
    (kk : ∀ (r : UInt64) (S1 : wS) (H1 : Heap) (locs1 : List Loc), post r S1 → wO D cy X A H0 S1 H1 locs1 → W p l e R s m args below meth c H1 locs1 (cells + mc) (slots + ms) Q (F0 m (pc + 3) ls (.double r :: rest))) : W p l e R s m args below meth c H locs cells slots Q (F0 m pc ls st) :=
  va_calld hr hW.2.2.1 (fun q _ h => wA_in hW q h) (wA_in hW) (fun r u t H1 locs1 ht _ hp hB _ _ hS1 => kk r u H1 locs1 hp (wO_back hW ht hB hS1))
theorem w_callF {post : UInt32 → wS → Prop} (hr : va_Run p l e R s m args below meth c H locs cells slots mc ms (F0 m pc ls st) rest (va_Qf post (wB D cy X (va_A (wL cy X S) H.size)) (va_A (wL cy X S) H.size) av) (va_A (wL cy X S) H.size)) (hW : wO D cy X A H0 S H locs)
    (kk : ∀ (r : UInt32) (S1 : wS) (H1 : Heap) (locs1 : List Loc), post r S1 → wO D cy X A H0 S1 H1 locs1 → W p l e R s m args below meth c H1 locs1 (cells + mc) (slots + ms) Q (F0 m (pc + 3) ls (.float r :: rest))) : W p l e R s m args below meth c H locs cells slots Q (F0 m pc ls st) :=
  va_callf hr hW.2.2.1 (fun q _ h => wA_in hW q h) (wA_in hW) (fun r u t H1 locs1 ht _ hp hB _ _ hS1 => kk r u H1 locs1 hp (wO_back hW ht hB hS1))
theorem w_callV {post : wS → Prop} (hr : va_Run p l e R s m args below meth c H locs cells slots mc ms (F0 m pc ls st) rest (va_Qv post (wB D cy X (va_A (wL cy X S) H.size)) (va_A (wL cy X S) H.size) av) (va_A (wL cy X S) H.size)) (hW : wO D cy X A H0 S H locs)
    (kk : ∀ (S1 : wS) (H1 : Heap) (locs1 : List Loc), post S1 → wO D cy X A H0 S1 H1 locs1 → W p l e R s m args below meth c H1 locs1 (cells + mc) (slots + ms) Q (F0 m (pc + 3) ls rest)) : W p l e R s m args below meth c H locs cells slots Q (F0 m pc ls st) :=
  va_callv hr hW.2.2.1 (fun q _ h => wA_in hW q h) (wA_in hW) (fun u t H1 locs1 ht _ hp hB _ _ hS1 => kk u H1 locs1 hp (wO_back hW ht hB hS1))
theorem w_callR {post : Option Nat → wS → Prop} (hr : va_Run p l e R s m args below meth c H locs cells slots mc ms (F0 m pc ls st) rest (va_Qq post (wB D cy X (va_A (wL cy X S) H.size)) (va_A (wL cy X S) H.size) av) (va_A (wL cy X S) H.size)) (hW : wO D cy X A H0 S H locs)
    (kk : ∀ (r : Option Nat) (S1 : wS) (H1 : Heap) (locs1 : List Loc), post r S1 → wO D cy X A H0 S1 H1 locs1 → W p l e R s m args below meth c H1 locs1 (cells + mc) (slots + ms) Q (F0 m (pc + 3) ls (va_rf r :: rest))) : W p l e R s m args below meth c H locs cells slots Q (F0 m pc ls st) :=
  va_callq hr hW.2.2.1 (fun q _ h => wA_in hW q h) (wA_in hW) (fun r u t H1 locs1 ht _ hp hB _ _ hS1 => kk r u H1 locs1 hp (wO_back hW ht hB hS1))
/-- the ends -/
theorem w_iret {post : Int32 → wS → Prop} {v : Int32} (hx : p.tables.exec = Jvm.exec) (hb : c.code = cc) (hr : meth.sig.returnType = some .int) (hlocks : meth.locks = false) (hW : wO D cy X A s.heap S H locs) (hp : post v S) (hdg : decode cc pc = .ok (.ireturn, 1)) : W p l e R s m args below meth c H locs cells slots (MQ below (va_Qi post (wB D cy X A) A) args s cells slots A) (F0 m pc ls [.int v]) :=
  W.iret (v := v) hx hb hr (fun t ht _ => ⟨⟨v, S, rfl, hp, by rw [ht]; exact hW.1, hW.2.1, hW.2.2.2.2⟩, hW.2.2.1.F ht⟩) hW.2.2.1.2.2 hdg hlocks
theorem w_zret {post : Int32 → wS → Prop} {v : Int32} {ty : FieldType} (hx : p.tables.exec = Jvm.exec) (hb : c.code = cc) (hr : meth.sig.returnType = some ty) (hlocks : meth.locks = false) (hW : wO D cy X A s.heap S H locs) (hz : narrow ty (.int v) = .int v) (hp : post v S) (hdg : decode cc pc = .ok (.ireturn, 1)) : W p l e R s m args below meth c H locs cells slots (MQ below (va_Qi post (wB D cy X A) A) args s cells slots A) (F0 m pc ls [.int v]) :=
  W.zret (v := v) hx hb hr hz (fun t ht _ => ⟨⟨v, S, rfl, hp, by rw [ht]; exact hW.1, hW.2.1, hW.2.2.2.2⟩, hW.2.2.1.F ht⟩) hW.2.2.1.2.2 hdg hlocks
theorem w_lret {post : Int64 → wS → Prop} {v : Int64} (hx : p.tables.exec = Jvm.exec) (hb : c.code = cc) (hr : meth.sig.returnType = some .long) (hlocks : meth.locks = false) (hW : wO D cy X A s.heap S H locs) (hp : post v S) (hdg : decode cc pc = .ok (.lreturn, 1)) : W p l e R s m args below meth c H locs cells slots (MQ below (va_Ql post (wB D cy X A) A) args s cells slots A) (F0 m pc ls [.long v]) :=
  W.lret (v := v) hx hb hr (fun t ht _ => ⟨⟨v, S, rfl, hp, by rw [ht]; exact hW.1, hW.2.1, hW.2.2.2.2⟩, hW.2.2.1.F ht⟩) hW.2.2.1.2.2 hdg hlocks
theorem w_dret {post : UInt64 → wS → Prop} {v : UInt64} (hx : p.tables.exec = Jvm.exec) (hb : c.code = cc) (hr : meth.sig.returnType = some .double) (hlocks : meth.locks = false) (hW : wO D cy X A s.heap S H locs) (hp : post v S) (hdg : decode cc pc = .ok (.dreturn, 1)) : W p l e R s m args below meth c H locs cells slots (MQ below (va_Qd post (wB D cy X A) A) args s cells slots A) (F0 m pc ls [.double v]) :=
  W.dret (v := v) hx hb hr (fun t ht _ => ⟨⟨v, S, rfl, hp, by rw [ht]; exact hW.1, hW.2.1, hW.2.2.2.2⟩, hW.2.2.1.F ht⟩) hW.2.2.1.2.2 hdg hlocks
theorem w_fret {post : UInt32 → wS → Prop} {v : UInt32} (hx : p.tables.exec = Jvm.exec) (hb : c.code = cc) (hr : meth.sig.returnType = some .float) (hlocks : meth.locks = false) (hW : wO D cy X A s.heap S H locs) (hp : post v S) (hdg : decode cc pc = .ok (.freturn, 1)) : W p l e R s m args below meth c H locs cells slots (MQ below (va_Qf post (wB D cy X A) A) args s cells slots A) (F0 m pc ls [.float v]) :=
  W.fret (v := v) hx hb hr (fun t ht _ => ⟨⟨v, S, rfl, hp, by rw [ht]; exact hW.1, hW.2.1, hW.2.2.2.2⟩, hW.2.2.1.F ht⟩) hW.2.2.1.2.2 hdg hlocks
theorem w_vret {post : wS → Prop} (hx : p.tables.exec = Jvm.exec) (hb : c.code = cc) (hr : meth.sig.returnType = none) (hlocks : meth.locks = false) (hW : wO D cy X A s.heap S H locs) (hp : post S) (hdg : decode cc pc = .ok (.return_, 1)) : W p l e R s m args below meth c H locs cells slots (MQ below (va_Qv post (wB D cy X A) A) args s cells slots A) (F0 m pc ls []) :=
  W.vret hx hb hr (fun t ht _ => ⟨⟨S, rfl, hp, by rw [ht]; exact hW.1, hW.2.1, hW.2.2.2.2⟩, hW.2.2.1.F ht⟩) hW.2.2.1.2.2 hdg hlocks
theorem w_getN {k f N index : Nat} {C host : String} {T : u_T} {v : Value} (F : CallFix p m c cc nL s args Ts own) (hK : wK D cy A s) (hW : wO D cy X A s.heap S H locs) (hL : wM D S a) (hk : sK S a = k) (hk2 : k < 20) (hc : vwCl[k]? = some (C, T, N)) (hN : wN k = N) (hf : f < N) (hin : ∀ w ∈ u_ws C T N, w ∈ Ts) (hnw : va_Nw (.fieldLinkNest own index (T f).1 (T f).2.1 (T f).2.2.1 host) s) (hv : wv k f S a = v) (hdg : decode cc pc = .ok (.getfield index, 3))
    (kk : W p l e R s m args below meth c H locs cells slots Q (F0 m (pc + 3) ls (v :: rest))) (hk0 : k ≠ 0 := by decide) : W p l e R s m args below meth c H locs cells slots Q (F0 m pc ls (.ref a :: rest)) := by
  obtain ⟨hx, hb, hml, hown, hts⟩ := F
  have hL := w_mut hK hW hL hk hk0 hk2
  obtain ⟨j, hj⟩ := w_own hW hL
  rw [wE_at hk hk2] at hj
  exact va_getN (D := D.1) (ci := k) (v := v) hx hb hts hin hown hK.1 hW.1 j hj hc f hf (hnw.use rfl) (fun _ h9 => h9) (by rw [ws_get (by rw [hN]; exact hf), hv]) hdg kk
theorem w_putIN {k f N index : Nat} {C host : String} {T : u_T} {v : Int32} (F : CallFix p m c cc nL s args Ts own) (hK : wK D cy A s) (hW : wO D cy X A s.heap S H locs) (hM : wM D S a) (hk : sK S a = k) (hk2 : k < 20) (hk0 : k ≠ 0) (hc : vwCl[k]? = some (C, T, N)) (hN : wN k = N) (hf : f < N) (hin : ∀ w ∈ u_ws C T N, w ∈ Ts) (ty0 : Nat → FieldType) (hty : ∀ k, k < N → parseFieldDescriptor (T k).2.2.1 = some (ty0 k)) (hnm : ∀ a, a < N → ∀ b, b < N → a ≠ b → (T a).2.1 ≠ (T b).2.1) (hnw : va_Nw (.fieldLinkNest own index (T f).1 (T f).2.1 (T f).2.2.1 host) s) (ht : wt k f = 0) (hfin : (T f).2.2.2 = false) {ty : FieldType} (hd : parseFieldDescriptor (T f).2.2.1 = some ty) (hn : narrow ty (.int v) = .int v) (hfit : fits ty (.int v) = true) (hdg : decode cc pc = .ok (.putfield index, 3))
    (kk : ∀ (H1 : Heap) (locs1 : List Loc), wO D cy X A s.heap (uI S a f v) H1 locs1 → W p l e R s m args below meth c H1 locs1 cells slots Q (F0 m (pc + 3) ls rest)) : W p l e R s m args below meth c H locs cells slots Q (F0 m pc ls (.int v :: .ref a :: rest)) := by
  have hL := w_mut hK hW hM hk hk0 hk2
  obtain ⟨hx, hb, hml, hown, hts⟩ := F
  obtain ⟨j, hj0⟩ := va_pl_get (X := X) (f := wE cy S) hL
  have hj := hj0
  rw [wE_at hk hk2] at hj
  refine va_putN (D := D.1) (ci := k) (v := .int v) hx hb hts hin ty0 hty hnm hown hK.1 hW.1 hW.2.1 hW.2.2.1 j hj hc f hf (hnw.use rfl) (fun _ h9 => h9) hfin hd hn hfit (by rw [ws_len, hN]; exact hf) hdg (fun H1 locs1 hP1 hD1 hS1 => kk H1 locs1 ?_)
  have e1 : (wL cy X S).set j (a, .inr (k, (ws_ k S a).set f (.int v))) = wL cy X (uI S a f v) := by
    rw [va_pl_set hW.2.1 hL hj0]
    exact congrArg (fun l => X ++ l) (va_pl_congr (wE_uI hk hk2 ht v))
  rw [e1] at hP1 hD1
  exact ⟨hP1, hD1, hS1, hW.2.2.2.1, wRO_uI hW.2.2.2.2 (w_noRO hK hW hL)⟩
theorem w_putJN {k f N index : Nat} {C host : String} {T : u_T} {v : Int64} (F : CallFix p m c cc nL s args Ts own) (hK : wK D cy A s) (hW : wO D cy X A s.heap S H locs) (hM : wM D S a) (hk : sK S a = k) (hk2 : k < 20) (hk0 : k ≠ 0) (hc : vwCl[k]? = some (C, T, N)) (hN : wN k = N) (hf : f < N) (hin : ∀ w ∈ u_ws C T N, w ∈ Ts) (ty0 : Nat → FieldType) (hty : ∀ k, k < N → parseFieldDescriptor (T k).2.2.1 = some (ty0 k)) (hnm : ∀ a, a < N → ∀ b, b < N → a ≠ b → (T a).2.1 ≠ (T b).2.1) (hnw : va_Nw (.fieldLinkNest own index (T f).1 (T f).2.1 (T f).2.2.1 host) s) (ht : wt k f = 1) (hfin : (T f).2.2.2 = false) (hd : parseFieldDescriptor (T f).2.2.1 = some .long) (hdg : decode cc pc = .ok (.putfield index, 3))
    (kk : ∀ (H1 : Heap) (locs1 : List Loc), wO D cy X A s.heap (uJ S a f v) H1 locs1 → W p l e R s m args below meth c H1 locs1 cells slots Q (F0 m (pc + 3) ls rest)) : W p l e R s m args below meth c H locs cells slots Q (F0 m pc ls (.long v :: .ref a :: rest)) := by
  have hL := w_mut hK hW hM hk hk0 hk2
  obtain ⟨hx, hb, hml, hown, hts⟩ := F
  obtain ⟨j, hj0⟩ := va_pl_get (X := X) (f := wE cy S) hL
  have hj := hj0
  rw [wE_at hk hk2] at hj
  refine va_putN (D := D.1) (ci := k) (v := .long v) hx hb hts hin ty0 hty hnm hown hK.1 hW.1 hW.2.1 hW.2.2.1 j hj hc f hf (hnw.use rfl) (fun _ h9 => h9) hfin hd rfl rfl (by rw [ws_len, hN]; exact hf) hdg (fun H1 locs1 hP1 hD1 hS1 => kk H1 locs1 ?_)
  have e1 : (wL cy X S).set j (a, .inr (k, (ws_ k S a).set f (.long v))) = wL cy X (uJ S a f v) := by
    rw [va_pl_set hW.2.1 hL hj0]
    exact congrArg (fun l => X ++ l) (va_pl_congr (wE_uJ hk hk2 ht v))
  rw [e1] at hP1 hD1
  exact ⟨hP1, hD1, hS1, hW.2.2.2.1, wRO_uJ hW.2.2.2.2 (w_noRO hK hW hL)⟩
theorem w_bld {i : Int32} (F : CallFix p m c cc nL s args Ts own) (hK : wK D cy A s) (hW : wO D cy X A s.heap S H locs) (hL : wM D S a) (hk : sK S a = 20) (hin : vp_in i (sN S a)) (hdg : decode cc pc = .ok (.baload, 1))
    (kk : W p l e R s m args below meth c H locs cells slots Q (F0 m (pc + 1) ls (.int (sI S a i.toNatClampNeg) :: rest))) : W p l e R s m args below meth c H locs cells slots Q (F0 m pc ls (.int i :: .ref a :: rest)) := by
  obtain ⟨hx, hb, hml, hown, hts⟩ := F
  rcases hL with h | h
  · obtain ⟨j, hj⟩ := w_own hW h
    have hP := hW.1
    rw [show wE cy S a = .inl (cy 0, sN S a, .inl (sI S a)) by simp [wE, hk]] at hj
    exact va_bald hx hb hK.1 hP j 0 hj rfl hin hdg kk
  · obtain ⟨e1, e2⟩ := w_roK hK hW h
    have hT := (hK.2.2.1.1 a h).2.2.2.1 (e1.symm.trans hk)
    exact va_tb hx hb hT hW.2.2.1 (by rw [← (hW.2.2.2.2 a h).2.1]; exact hin) (by rw [← (hW.2.2.2.2 a h).2.2.1]) hdg kk

/-- an array's row is replaced -/
theorem w_bst {i x : Int32} (F : CallFix p m c cc nL s args Ts own) (hK : wK D cy A s) (hW : wO D cy X A s.heap S H locs) (hL : a ∈ sL S) (hk : sK S a = 20) (hin : vp_in i (sN S a)) (hdg : decode cc pc = .ok (.bastore, 1))
    (kk : ∀ (H1 : Heap) (locs1 : List Loc), wO D cy X A s.heap (uI S a i.toNatClampNeg (vp_nar .byte x)) H1 locs1 → W p l e R s m args below meth c H1 locs1 cells slots Q (F0 m (pc + 1) ls rest)) : W p l e R s m args below meth c H locs cells slots Q (F0 m pc ls (.int x :: .int i :: .ref a :: rest)) := by
  obtain ⟨hx, hb, hml, hown, hts⟩ := F
  obtain ⟨j, hj0⟩ := va_pl_get (X := X) (f := wE cy S) hL
  have hj := hj0
  rw [show wE cy S a = .inl (cy 0, sN S a, .inl (sI S a)) by simp [wE, hk]] at hj
  refine va_bast hx hb hK.1 hW.1 hW.2.1 hW.2.2.1 j 0 hj rfl hin hdg (fun H1 locs1 hP1 hD1 hS1 => kk H1 locs1 ?_)
  rw [va_pl_set hW.2.1 hL hj0, va_pl_congr (wE_row (S' := uI S a i.toNatClampNeg (vp_nar .byte x)) (a := a) (by simp [wE, uI, sI, sK, hk, va_up]; rfl) wE_oI)] at hP1 hD1
  exact ⟨hP1, hD1, hS1, hW.2.2.2.1, wRO_uI hW.2.2.2.2 (w_noRO hK hW hL)⟩
theorem w_len {k : Nat} (F : CallFix p m c cc nL s args Ts own) (hK : wK D cy A s) (hW : wO D cy X A s.heap S H locs) (hL : wM D S a) (hk : sK S a = k) (hk2 : k = 20 ∨ k = 21 ∨ k = 22 ∨ k = 23 ∨ k = 24) (hdg : decode cc pc = .ok (.arraylength, 1))
    (kk : W p l e R s m args below meth c H locs cells slots Q (F0 m (pc + 1) ls (.int (Int32.ofNat (sN S a)) :: rest))) : W p l e R s m args below meth c H locs cells slots Q (F0 m pc ls (.ref a :: rest)) := by
  obtain ⟨hx, hb, hml, hown, hts⟩ := F
  rcases hL with h | h
  · obtain ⟨j, hj⟩ := w_own hW h
    have hP := hW.1
    rcases hk2 with rfl | rfl | rfl | rfl | rfl
    · rw [show wE cy S a = .inl (cy 0, sN S a, .inl (sI S a)) by simp [wE, hk]] at hj
      exact va_alen hx hb hK.1 hP j 0 hj rfl rfl hdg kk
    · rw [show wE cy S a = .inl (cy 1, sN S a, .inl (sI S a)) by simp [wE, hk]] at hj
      exact va_alen hx hb hK.1 hP j 1 hj rfl rfl hdg kk
    · rw [show wE cy S a = .inl (cy 2, sN S a, .inr (.inl (sJ S a))) by simp [wE, hk]] at hj
      exact va_alen hx hb hK.1 hP j 2 hj rfl rfl hdg kk
    · rw [show wE cy S a = .inl (cy 3, sN S a, .inl (sI S a)) by simp [wE, hk]] at hj
      exact va_alen hx hb hK.1 hP j 3 hj rfl rfl hdg kk
    · rw [show wE cy S a = .inl (cy 4, sN S a, .inr (.inr (.inr (.inr (sR S a))))) by simp [wE, hk]] at hj
      exact va_alen hx hb hK.1 hP j 4 hj rfl rfl hdg kk
  · obtain ⟨e1, e2⟩ := w_roK hK hW h
    have en := (hW.2.2.2.2 a h).2.1
    rcases e2 with e2 | e2 | e2 | e2
    · omega
    · exact va_tlen hx hb ((hK.2.2.1.1 a h).2.2.2.1 (e1.symm.trans e2)) hW.2.2.1 (by rw [← en]) hdg kk
    · exact va_tlen hx hb ((hK.2.2.1.1 a h).2.2.2.2.1 (e1.symm.trans e2)) hW.2.2.1 (by rw [← en]) hdg kk
    · exact va_tlen hx hb ((hK.2.2.1.1 a h).2.2.2.2.2 (e1.symm.trans e2)).1 hW.2.2.1 (by rw [← en]) hdg kk
theorem w_aload_n {k : Fin 4} {i : Nat} {g : Option Nat} (hx : p.tables.exec = Jvm.exec) (hb : c.code = cc) (hdg : decode cc pc = .ok (.aload_n k, 1)) (hi : (k : Nat) = i) (hl : ls[i]? = some (.val (va_rf g))) (kk : W p l e R s m args below meth c H locs cells slots Q (F0 m (pc + 1) ls (va_rf g :: rest))) : W p l e R s m args below meth c H locs cells slots Q (F0 m pc ls rest) := by
  cases g with
  | none => exact lv_aload_nN hx hb hdg hi hl kk
  | some y => exact lv_aload_n hx hb hdg hi hl kk
theorem w_aload {i : Nat} {g : Option Nat} (hx : p.tables.exec = Jvm.exec) (hb : c.code = cc) (hdg : decode cc pc = .ok (.aload i, 2)) (hl : ls[i]? = some (.val (va_rf g))) (kk : W p l e R s m args below meth c H locs cells slots Q (F0 m (pc + 2) ls (va_rf g :: rest))) : W p l e R s m args below meth c H locs cells slots Q (F0 m pc ls rest) := by
  cases g with
  | none => exact lv_aloadN hx hb hdg hl kk
  | some y => exact lv_aload hx hb hdg hl kk
theorem w_astore_n {k : Fin 4} {i : Nat} {g : Option Nat} {lv lv' : List (Nat × Value)} (hx : p.tables.exec = Jvm.exec) (hb : c.code = cc) (hdg : decode cc pc = .ok (.astore_n k, 1)) (hi : (k : Nat) = i) (h : lv_has ls nL lv) (hn : i < nL) (hl : (i, va_rf g) :: lv.filter (fun q => !(q.1 == i) && !(q.1 + 1 == i && q.2.category == 2)) = lv') (kk : ∀ ls' : Array Slot, lv_has ls' nL lv' → W p l e R s m args below meth c H locs cells slots Q (F0 m (pc + 1) ls' rest)) : W p l e R s m args below meth c H locs cells slots Q (F0 m pc ls (va_rf g :: rest)) := by
  cases g with
  | none => exact lv_astore_nN hx hb hdg hi h hn hl kk
  | some y => exact lv_astore_n hx hb hdg hi h hn hl kk
theorem w_astore {i : Nat} {g : Option Nat} {lv lv' : List (Nat × Value)} (hx : p.tables.exec = Jvm.exec) (hb : c.code = cc) (hdg : decode cc pc = .ok (.astore i, 2)) (h : lv_has ls nL lv) (hn : i < nL) (hl : (i, va_rf g) :: lv.filter (fun q => !(q.1 == i) && !(q.1 + 1 == i && q.2.category == 2)) = lv') (kk : ∀ ls' : Array Slot, lv_has ls' nL lv' → W p l e R s m args below meth c H locs cells slots Q (F0 m (pc + 2) ls' rest)) : W p l e R s m args below meth c H locs cells slots Q (F0 m pc ls (va_rf g :: rest)) := by
  cases g with
  | none => exact lv_astoreN hx hb hdg h hn hl kk
  | some y => exact lv_astore hx hb hdg h hn hl kk
theorem w_ifnull {g : Option Nat} {off : Int} {tgt : Nat} (hx : p.tables.exec = Jvm.exec) (hb : c.code = cc) (hdg : decode cc pc = .ok (.ifnull off, 3)) (ht : (pc : Int) + off = (tgt : Int)) (kt : g = none → W p l e R s m args below meth c H locs cells slots Q (F0 m tgt ls rest)) (kf : ∀ y, g = some y → W p l e R s m args below meth c H locs cells slots Q (F0 m (pc + 3) ls rest)) : W p l e R s m args below meth c H locs cells slots Q (F0 m pc ls (va_rf g :: rest)) := by
  cases g with
  | none => exact lv_ifnullN hx hb hdg ht (kt rfl)
  | some y => exact lv_ifnull hx hb hdg (kf y rfl)
theorem w_ifnonnull {g : Option Nat} {off : Int} {tgt : Nat} (hx : p.tables.exec = Jvm.exec) (hb : c.code = cc) (hdg : decode cc pc = .ok (.ifnonnull off, 3)) (ht : (pc : Int) + off = (tgt : Int)) (kt : g = none → W p l e R s m args below meth c H locs cells slots Q (F0 m (pc + 3) ls rest)) (kf : ∀ y, g = some y → W p l e R s m args below meth c H locs cells slots Q (F0 m tgt ls rest)) : W p l e R s m args below meth c H locs cells slots Q (F0 m pc ls (va_rf g :: rest)) := by
  cases g with
  | none => exact lv_ifnonnullN hx hb hdg (kt rfl)
  | some y => exact lv_ifnonnull hx hb hdg ht (kf y rfl)
theorem w_aret {post : Option Nat → wS → Prop} {g : Option Nat} {rt : FieldType} (hx : p.tables.exec = Jvm.exec) (hb : c.code = cc) (hr : meth.sig.returnType = some rt) (hlocks : meth.locks = false) (hW : wO D cy X A s.heap S H locs) (hp : post g S) (hdg : decode cc pc = .ok (.areturn, 1)) (hrt : (∃ n, rt = .object n) ∨ ∃ t, rt = .array t := by first | exact Or.inl ⟨_, rfl⟩ | exact Or.inr ⟨_, rfl⟩) : W p l e R s m args below meth c H locs cells slots (MQ below (va_Qq post (wB D cy X A) A) args s cells slots A) (F0 m pc ls [va_rf g]) :=
  W.aret hx hb hr hrt (va_rf_or g) (fun t ht _ => ⟨⟨g, S, rfl, hp, by rw [ht]; exact hW.1, hW.2.1, hW.2.2.2.2⟩, hW.2.2.1.F ht⟩) hW.2.2.1.2.2 hdg hlocks
/-! what is thrown -/
def wEx (D : wD) (cy : Nat → ClassId) (X : va_W) (A : Nat → Prop) (xp : String → wS → Prop) : String → State → State → Prop := vx_X (fun _ : wS => True) (fun E S9 t => xp E S9 ∧ wB D cy X A S9 t) A
def xI (D : wD) (cy : Nat → ClassId) (X : va_W) (l : Launch) (y : MethodName) (ws : List Cond) (rm : Room) (av : List Value) (S : wS) (post : Int32 → wS → Prop) (xp : String → wS → Prop) : Prop := ∀ sz, vx_Met l y ws rm (va_Pc av (wP D cy X S sz)) (va_Qi post (wB D cy X (va_A (wL cy X S) sz)) (va_A (wL cy X S) sz)) (wEx D cy X (va_A (wL cy X S) sz) xp) rm.cells rm.slots (va_A (wL cy X S) sz)
def xJ (D : wD) (cy : Nat → ClassId) (X : va_W) (l : Launch) (y : MethodName) (ws : List Cond) (rm : Room) (av : List Value) (S : wS) (post : Int64 → wS → Prop) (xp : String → wS → Prop) : Prop := ∀ sz, vx_Met l y ws rm (va_Pc av (wP D cy X S sz)) (va_Ql post (wB D cy X (va_A (wL cy X S) sz)) (va_A (wL cy X S) sz)) (wEx D cy X (va_A (wL cy X S) sz) xp) rm.cells rm.slots (va_A (wL cy X S) sz)
def xD (D : wD) (cy : Nat → ClassId) (X : va_W) (l : Launch) (y : MethodName) (ws : List Cond) (rm : Room) (av : List Value) (S : wS) (post : UInt64 → wS → Prop) (xp : String → wS → Prop) : Prop := ∀ sz, vx_Met l y ws rm (va_Pc av (wP D cy X S sz)) (va_Qd post (wB D cy X (va_A (wL cy X S) sz)) (va_A (wL cy X S) sz)) (wEx D cy X (va_A (wL cy X S) sz) xp) rm.cells rm.slots (va_A (wL cy X S) sz)
def xF (D : wD) (cy : Nat → ClassId) (X : va_W) (l : Launch) (y : MethodName) (ws : List Cond) (rm : Room) (av : List Value) (S : wS) (post : UInt32 → wS → Prop) (xp : String → wS → Prop) : Prop := ∀ sz, vx_Met l y ws rm (va_Pc av (wP D cy X S sz)) (va_Qf post (wB D cy X (va_A (wL cy X S) sz)) (va_A (wL cy X S) sz)) (wEx D cy X (va_A (wL cy X S) sz) xp) rm.cells rm.slots (va_A (wL cy X S) sz)
def xV (D : wD) (cy : Nat → ClassId) (X : va_W) (l : Launch) (y : MethodName) (ws : List Cond) (rm : Room) (av : List Value) (S : wS) (post : wS → Prop) (xp : String → wS → Prop) : Prop := ∀ sz, vx_Met l y ws rm (va_Pc av (wP D cy X S sz)) (va_Qv post (wB D cy X (va_A (wL cy X S) sz)) (va_A (wL cy X S) sz)) (wEx D cy X (va_A (wL cy X S) sz) xp) rm.cells rm.slots (va_A (wL cy X S) sz)
def xR (D : wD) (cy : Nat → ClassId) (X : va_W) (l : Launch) (y : MethodName) (ws : List Cond) (rm : Room) (av : List Value) (S : wS) (post : Option Nat → wS → Prop) (xp : String → wS → Prop) : Prop := ∀ sz, vx_Met l y ws rm (va_Pc av (wP D cy X S sz)) (va_Qq post (wB D cy X (va_A (wL cy X S) sz)) (va_A (wL cy X S) sz)) (wEx D cy X (va_A (wL cy X S) sz) xp) rm.cells rm.slots (va_A (wL cy X S) sz)
theorem x_callI {post : Int32 → wS → Prop} {xp1 : String → wS → Prop} (hr : vx_Run p l e R s m args below meth c H locs cells slots mc ms (F0 m pc ls st) rest (va_Qi post (wB D cy X (va_A (wL cy X S) H.size)) (va_A (wL cy X S) H.size) av) (wEx D cy X (va_A (wL cy X S) H.size) xp1) (va_A (wL cy X S) H.size)) (hW : wO D cy X A H0 S H locs)
    (kx : ∀ (E : String) (ce : Cell) (q9 : Addr) (S1 : wS) (H1 : Heap) (locs1 : List Loc), xp1 E S1 → wO D cy X A H0 S1 H1 locs1 → H1[q9]? = some ce → ce.vm = .none → s.vm.findClass E = some ce.cls → vx_W p l e R s m args below meth c H1 locs1 (cells + mc) (slots + ms) Q (F0 m pc ls rest) q9)
    (kk : ∀ (r : Int32) (S1 : wS) (H1 : Heap) (locs1 : List Loc), post r S1 → wO D cy X A H0 S1 H1 locs1 → W p l e R s m args below meth c H1 locs1 (cells + mc) (slots + ms) Q (F0 m (pc + 3) ls (.int r :: rest))) : W p l e R s m args below meth c H locs cells slots Q (F0 m pc ls st) :=
  vx_calli hr hW.2.2.1 (fun q _ h => wA_in hW q h) (wA_in hW) (fun q _ h => wA_in hW q h) (fun E ce q9 u t H1 locs1 ht _ _ hB _ _ hS1 h1 h2 h3 => kx E ce q9 u H1 locs1 hB.1 (wO_back hW ht hB.2 hS1) h1 h2 h3) (fun r u t H1 locs1 ht _ hp hB _ _ hS1 => kk r u H1 locs1 hp (wO_back hW ht hB hS1))
theorem x_callJ {post : Int64 → wS → Prop} {xp1 : String → wS → Prop} (hr : vx_Run p l e R s m args below meth c H locs cells slots mc ms (F0 m pc ls st) rest (va_Ql post (wB D cy X (va_A (wL cy X S) H.size)) (va_A (wL cy X S) H.size) av) (wEx D cy X (va_A (wL cy X S) H.size) xp1) (va_A (wL cy X S) H.size)) (hW : wO D cy X A H0 S H locs)
    (kx : ∀ (E : String) (ce : Cell) (q9 : Addr) (S1 : wS) (H1 : Heap) (locs1 : List Loc), xp1 E S1 → wO D cy X A H0 S1 H1 locs1 → H1[q9]? = some ce → ce.vm = .none → s.vm.findClass E = some ce.cls → vx_W p l e R s m args below meth c H1 locs1 (cells + mc) (slots + ms) Q (F0 m pc ls rest) q9)
    (kk : ∀ (r : Int64) (S1 : wS) (H1 : Heap) (locs1 : List Loc), post r S1 → wO D cy X A H0 S1 H1 locs1 → W p l e R s m args below meth c H1 locs1 (cells + mc) (slots + ms) Q (F0 m (pc + 3) ls (.long r :: rest))) : W p l e R s m args below meth c H locs cells slots Q (F0 m pc ls st) :=
  vx_calll hr hW.2.2.1 (fun q _ h => wA_in hW q h) (wA_in hW) (fun q _ h => wA_in hW q h) (fun E ce q9 u t H1 locs1 ht _ _ hB _ _ hS1 h1 h2 h3 => kx E ce q9 u H1 locs1 hB.1 (wO_back hW ht hB.2 hS1) h1 h2 h3) (fun r u t H1 locs1 ht _ hp hB _ _ hS1 => kk r u H1 locs1 hp (wO_back hW ht hB hS1))
theorem x_callD {post : UInt64 → wS → Prop} {xp1 : String → wS → Prop} (hr : vx_Run p l e R s m args below meth c H locs cells slots mc ms (F0 m pc ls st) rest (va_Qd post (wB D cy X (va_A (wL cy X S) H.size)) (va_A (wL cy X S) H.size) av) (wEx D cy X (va_A (wL cy X S) H.size) xp1) (va_A (wL cy X S) H.size)) (hW : wO D cy X A H0 S H locs)
    (kx : ∀ (E : String) (ce : Cell) (q9 : Addr) (S1 : wS) (H1 : Heap) (locs1 : List Loc), xp1 E S1 → wO D cy X A H0 S1 H1 locs1 → H1[q9]? = some ce → ce.vm = .none → s.vm.findClass E = some ce.cls → vx_W p l e R s m args below meth c H1 locs1 (cells + mc) (slots + ms) Q (F0 m pc ls rest) q9)
    (kk : ∀ (r : UInt64) (S1 : wS) (H1 : Heap) (locs1 : List Loc), post r S1 → wO D cy X A H0 S1 H1 locs1 → W p l e R s m args below meth c H1 locs1 (cells + mc) (slots + ms) Q (F0 m (pc + 3) ls (.double r :: rest))) : W p l e R s m args below meth c H locs cells slots Q (F0 m pc ls st) :=
  vx_calld hr hW.2.2.1 (fun q _ h => wA_in hW q h) (wA_in hW) (fun q _ h => wA_in hW q h) (fun E ce q9 u t H1 locs1 ht _ _ hB _ _ hS1 h1 h2 h3 => kx E ce q9 u H1 locs1 hB.1 (wO_back hW ht hB.2 hS1) h1 h2 h3) (fun r u t H1 locs1 ht _ hp hB _ _ hS1 => kk r u H1 locs1 hp (wO_back hW ht hB hS1))
theorem x_callF {post : UInt32 → wS → Prop} {xp1 : String → wS → Prop} (hr : vx_Run p l e R s m args below meth c H locs cells slots mc ms (F0 m pc ls st) rest (va_Qf post (wB D cy X (va_A (wL cy X S) H.size)) (va_A (wL cy X S) H.size) av) (wEx D cy X (va_A (wL cy X S) H.size) xp1) (va_A (wL cy X S) H.size)) (hW : wO D cy X A H0 S H locs)
    (kx : ∀ (E : String) (ce : Cell) (q9 : Addr) (S1 : wS) (H1 : Heap) (locs1 : List Loc), xp1 E S1 → wO D cy X A H0 S1 H1 locs1 → H1[q9]? = some ce → ce.vm = .none → s.vm.findClass E = some ce.cls → vx_W p l e R s m args below meth c H1 locs1 (cells + mc) (slots + ms) Q (F0 m pc ls rest) q9)
    (kk : ∀ (r : UInt32) (S1 : wS) (H1 : Heap) (locs1 : List Loc), post r S1 → wO D cy X A H0 S1 H1 locs1 → W p l e R s m args below meth c H1 locs1 (cells + mc) (slots + ms) Q (F0 m (pc + 3) ls (.float r :: rest))) : W p l e R s m args below meth c H locs cells slots Q (F0 m pc ls st) :=
  vx_callf hr hW.2.2.1 (fun q _ h => wA_in hW q h) (wA_in hW) (fun q _ h => wA_in hW q h) (fun E ce q9 u t H1 locs1 ht _ _ hB _ _ hS1 h1 h2 h3 => kx E ce q9 u H1 locs1 hB.1 (wO_back hW ht hB.2 hS1) h1 h2 h3) (fun r u t H1 locs1 ht _ hp hB _ _ hS1 => kk r u H1 locs1 hp (wO_back hW ht hB hS1))
theorem x_callV {post : wS → Prop} {xp1 : String → wS → Prop} (hr : vx_Run p l e R s m args below meth c H locs cells slots mc ms (F0 m pc ls st) rest (va_Qv post (wB D cy X (va_A (wL cy X S) H.size)) (va_A (wL cy X S) H.size) av) (wEx D cy X (va_A (wL cy X S) H.size) xp1) (va_A (wL cy X S) H.size)) (hW : wO D cy X A H0 S H locs)
    (kx : ∀ (E : String) (ce : Cell) (q9 : Addr) (S1 : wS) (H1 : Heap) (locs1 : List Loc), xp1 E S1 → wO D cy X A H0 S1 H1 locs1 → H1[q9]? = some ce → ce.vm = .none → s.vm.findClass E = some ce.cls → vx_W p l e R s m args below meth c H1 locs1 (cells + mc) (slots + ms) Q (F0 m pc ls rest) q9)
    (kk : ∀ (S1 : wS) (H1 : Heap) (locs1 : List Loc), post S1 → wO D cy X A H0 S1 H1 locs1 → W p l e R s m args below meth c H1 locs1 (cells + mc) (slots + ms) Q (F0 m (pc + 3) ls rest)) : W p l e R s m args below meth c H locs cells slots Q (F0 m pc ls st) :=
  vx_callv hr hW.2.2.1 (fun q _ h => wA_in hW q h) (wA_in hW) (fun q _ h => wA_in hW q h) (fun E ce q9 u t H1 locs1 ht _ _ hB _ _ hS1 h1 h2 h3 => kx E ce q9 u H1 locs1 hB.1 (wO_back hW ht hB.2 hS1) h1 h2 h3) (fun u t H1 locs1 ht _ hp hB _ _ hS1 => kk u H1 locs1 hp (wO_back hW ht hB hS1))
/-- a callee that answers a reference or null, or throws (follows vx_calli) -/
theorem vx_callq {S9 SX : Type} {post : Option Nat → S9 → Prop} {B : S9 → State → Prop} {px : SX → Prop} {BX : String → SX → State → Prop} {A0 A1 AX : Nat → Prop} {st0 : List Value} {a : Array Value} {free : Addr → Prop} (hr : vx_Run p l e R s m args below meth c H locs cells slots mc ms (F0 m pc ls st0) rest (va_Qq post B A1 a) (vx_X px BX AX) free) (hS : va_S A0 H0 H locs) (hA : ∀ q, q < H.size → A1 q → A0 q) (hf : ∀ q, free q → A0 q) (hAX : ∀ q, q < H.size → AX q → A0 q)
    (kx : ∀ (E : String) (ce : Cell) (q9 : Addr) (u : SX) (t : State) (H1 : Heap) (locs1 : List Loc), t.heap = H1 → s.vm.Alike t.vm → px u → BX E u t → H.size ≤ H1.size → (∀ q : Nat, q < H.size → ¬ AX q → H1[q]? = H[q]?) → va_S A0 H0 H1 locs1 → H1[q9]? = some ce → ce.vm = .none → s.vm.findClass E = some ce.cls → vx_W p l e R s m args below meth c H1 locs1 (cells + mc) (slots + ms) Q (F0 m pc ls rest) q9)
    (kk : ∀ (r : Option Nat) (u : S9) (t : State) (H1 : Heap) (locs1 : List Loc), t.heap = H1 → s.vm.Alike t.vm → post r u → B u t → H.size ≤ H1.size → (∀ q : Nat, q < H.size → ¬ A1 q → H1[q]? = H[q]?) → va_S A0 H0 H1 locs1 → W p l e R s m args below meth c H1 locs1 (cells + mc) (slots + ms) Q (F0 m (pc + 3) ls (va_rf r :: rest))) : W p l e R s m args below meth c H locs cells slots Q (F0 m pc ls st0) := by
  intro T hT X
  rcases hr T hT X with ⟨v, st₀, t, T', L, h0, X', hL, e1, e2, ⟨⟨r, u, hv, hp, hb⟩, hF⟩, st⟩ | ⟨q, st₀, t, T', L, E, ce, h0, X', hL, e1, e2, ⟨u, hp, hb, hF⟩, hce, hcv, hcl, st⟩
  · cases hv
    obtain ⟨k1, k2, k3⟩ := vx_keep h0 e1 hS hA hf hL hF
    obtain ⟨t2, a1, b1⟩ := kk r u t T'.heap (locs ++ L) e1.symm (by rw [← e2]; exact X'.warmed.alike) hp hb k1 k2 k3 T' rfl X'
    exact ⟨t2, st t2 a1, b1⟩
  · obtain ⟨k1, k2, k3⟩ := vx_keep h0 e1 hS hAX hf hL hF
    obtain ⟨t2, a1, b1⟩ := kx E ce q u t T'.heap (locs ++ L) e1.symm (by rw [← e2]; exact X'.warmed.alike) hp hb k1 k2 k3 (by rw [e1]; exact hce) hcv hcl T' rfl X'
    exact ⟨t2, st.trans a1, b1⟩
theorem x_callR {post : Option Nat → wS → Prop} {xp1 : String → wS → Prop} (hr : vx_Run p l e R s m args below meth c H locs cells slots mc ms (F0 m pc ls st) rest (va_Qq post (wB D cy X (va_A (wL cy X S) H.size)) (va_A (wL cy X S) H.size) av) (wEx D cy X (va_A (wL cy X S) H.size) xp1) (va_A (wL cy X S) H.size)) (hW : wO D cy X A H0 S H locs)
    (kx : ∀ (E : String) (ce : Cell) (q9 : Addr) (S1 : wS) (H1 : Heap) (locs1 : List Loc), xp1 E S1 → wO D cy X A H0 S1 H1 locs1 → H1[q9]? = some ce → ce.vm = .none → s.vm.findClass E = some ce.cls → vx_W p l e R s m args below meth c H1 locs1 (cells + mc) (slots + ms) Q (F0 m pc ls rest) q9)
    (kk : ∀ (r : Option Nat) (S1 : wS) (H1 : Heap) (locs1 : List Loc), post r S1 → wO D cy X A H0 S1 H1 locs1 → W p l e R s m args below meth c H1 locs1 (cells + mc) (slots + ms) Q (F0 m (pc + 3) ls (va_rf r :: rest))) : W p l e R s m args below meth c H locs cells slots Q (F0 m pc ls st) :=
  vx_callq hr hW.2.2.1 (fun q _ h => wA_in hW q h) (wA_in hW) (fun q _ h => wA_in hW q h) (fun E ce q9 u t H1 locs1 ht _ _ hB _ _ hS1 h1 h2 h3 => kx E ce q9 u H1 locs1 hB.1 (wO_back hW ht hB.2 hS1) h1 h2 h3) (fun r u t H1 locs1 ht _ hp hB _ _ hS1 => kk r u H1 locs1 hp (wO_back hW ht hB hS1))
theorem x_out {xp : String → wS → Prop} {E : String} {q9 : Addr} {ce : Cell} {Qc : Array Value → State → Outcome → State → Prop} (hexc : ∀ x ∈ c.exceptionTable.toList, False) (hlocks : meth.locks = false) (hx : xp E S) (hW : wO D cy X A s.heap S H locs) (h1 : H[q9]? = some ce) (h2 : ce.vm = .none) (h3 : s.vm.findClass E = some ce.cls) (hc : cells ≤ mc) (hs : slots ≤ ms) : vx_W p l e R s m args below meth c H locs cells slots (vx_MQ below Qc (wEx D cy X A xp) args s mc ms A) (F0 m pc ls rest) q9 :=
  vx_out (fun x h => (hexc x h).elim) hlocks h1 h2 h3 (fun t ht _ => ⟨S, trivial, ⟨hx, by rw [ht]; exact hW.1, hW.2.1, hW.2.2.2.2⟩, hW.2.2.1.F ht⟩) hW.2.2.1.2.2 hc hs
theorem wEx_here {xp : String → wS → Prop} {E : String} (hx : xp E S) (hW : wO D cy X A s.heap S H locs) : ∀ t : State, s.vm.Alike t.vm → H.size ≤ t.heap.size → (∀ q : Nat, q < H.size → t.heap[q]? = H[q]?) → wEx D cy X A xp E s t := fun t _ h1 h2 =>
  ⟨S, trivial, ⟨hx, hW.1.kept (fun k q hk => h2 q.1 (hW.1 k q hk).lt), hW.2.1, hW.2.2.2.2⟩, Nat.le_trans hW.2.2.1.1 h1, fun q q1 q2 => by rw [h2 q (Nat.lt_of_lt_of_le q1 hW.2.2.1.1)]; exact hW.2.2.1.2.1 q q1 q2⟩
theorem x_throw {xp : String → wS → Prop} {own cls text : String} {ik is ic k : Nat} {Qc : Array Value → State → Outcome → State → Prop} (F : CallFix p m c cc nL s args Ts own) (hK : wK D cy A s) (hW : wO D cy X A s.heap S H locs) (hl : l.stackTraces = false) (hcls : Bundle.fit cls = true) (hk : (Cond.classLink own ik cls).before args s = true) (hini : (Cond.initialized cls).before args s = true) (hstr : (own, is, text, k) ∈ wStr) (hat : ∀ w ∈ vx_atS own ic cls ["java/lang/RuntimeException", "java/lang/Exception"], w.before args s = true) (hgood : ∀ w ∈ Cond.classLink own ik cls :: Cond.initialized cls :: vx_atS own ic cls ["java/lang/RuntimeException", "java/lang/Exception"], vx_ot w = true) (hsz : ls.size = nL) (hexc : ∀ x ∈ c.exceptionTable.toList, False) (hlocks : meth.locks = false)
    (d0 : decode cc pc = .ok (.new ik, 3)) (d3 : decode cc (pc + 3) = .ok (.dup, 1)) (d4 : decode cc (pc + 4) = .ok (.ldc is, 2)) (d6 : decode cc (pc + 6) = .ok (.invokespecial ic, 3)) (d9 : decode cc (pc + 9) = .ok (.athrow, 1)) (hRf : 5 < R.frames) (hRl : (rest.map fun v => v.category).sum + 82 ≤ R.locals) (hRc : cells + 1 ≤ R.cells) (hRs : slots + 6 ≤ R.slots) (hc : cells + 1 ≤ mc) (hs : slots + 6 ≤ ms) (hx : xp cls S) : W p l e R s m args below meth c H locs cells slots (vx_MQ below Qc (wEx D cy X A xp) args s mc ms A) (F0 m pc ls rest) := by
  obtain ⟨hx0, hb, hml, hown, hts⟩ := F
  exact vx_throwS hx0 hb hl hown hcls (by decide) hk hini (hK.2.2.1.2.1 _ hstr) hat hgood hK.2.2.1.2.2.2.2.1 hK.2.2.1.2.2.2.2.2.1 hW.2.2.1 (hsz.trans hml.symm) d0 d3 d4 d6 d9 (fun x h => (hexc x h).elim) hRf hRl hRc hRs hlocks (wEx_here hx hW) hW.2.2.1.2.2 hc hs
theorem x_throwW {xp : String → wS → Prop} {own cls text : String} {ik is ic k : Nat} {Qc : Array Value → State → Outcome → State → Prop} (F : CallFix p m c cc nL s args Ts own) (hK : wK D cy A s) (hW : wO D cy X A s.heap S H locs) (hl : l.stackTraces = false) (hcls : Bundle.fit cls = true) (hk : (Cond.classLink own ik cls).before args s = true) (hini : (Cond.initialized cls).before args s = true) (hstr : (own, is, text, k) ∈ wStr) (hat : ∀ w ∈ vx_atS own ic cls ["java/lang/RuntimeException", "java/lang/Exception"], w.before args s = true) (hgood : ∀ w ∈ Cond.classLink own ik cls :: Cond.initialized cls :: vx_atS own ic cls ["java/lang/RuntimeException", "java/lang/Exception"], vx_ot w = true) (hsz : ls.size = nL) (hexc : ∀ x ∈ c.exceptionTable.toList, False) (hlocks : meth.locks = false)
    (d0 : decode cc pc = .ok (.new ik, 3)) (d3 : decode cc (pc + 3) = .ok (.dup, 1)) (d4 : decode cc (pc + 4) = .ok (.ldc_w is, 3)) (d6 : decode cc (pc + 7) = .ok (.invokespecial ic, 3)) (d9 : decode cc (pc + 10) = .ok (.athrow, 1)) (hRf : 5 < R.frames) (hRl : (rest.map fun v => v.category).sum + 82 ≤ R.locals) (hRc : cells + 1 ≤ R.cells) (hRs : slots + 6 ≤ R.slots) (hc : cells + 1 ≤ mc) (hs : slots + 6 ≤ ms) (hx : xp cls S) : W p l e R s m args below meth c H locs cells slots (vx_MQ below Qc (wEx D cy X A xp) args s mc ms A) (F0 m pc ls rest) := by
  obtain ⟨hx0, hb, hml, hown, hts⟩ := F
  exact vx_throwSW hx0 hb hl hown hcls (by decide) hk hini (hK.2.2.1.2.1 _ hstr) hat hgood hK.2.2.1.2.2.2.2.1 hK.2.2.1.2.2.2.2.2.1 hW.2.2.1 (hsz.trans hml.symm) d0 d3 d4 d6 d9 (fun x h => (hexc x h).elim) hRf hRl hRc hRs hlocks (wEx_here hx hW) hW.2.2.1.2.2 hc hs
theorem w_ald {i : Int32} (F : CallFix p m c cc nL s args Ts own) (hK : wK D cy A s) (hW : wO D cy X A s.heap S H locs) (hL : wM D S a) (hk : sK S a = 24) (hin : vp_in i (sN S a)) (hdg : decode cc pc = .ok (.aaload, 1))
    (kk : W p l e R s m args below meth c H locs cells slots Q (F0 m (pc + 1) ls (va_rf (sR S a i.toNatClampNeg) :: rest))) : W p l e R s m args below meth c H locs cells slots Q (F0 m pc ls (.int i :: .ref a :: rest)) := by
  obtain ⟨hx, hb, hml, hown, hts⟩ := F
  rcases hL with h | h
  · obtain ⟨j, hj⟩ := w_own hW h
    have hP := hW.1
    rw [show wE cy S a = .inl (cy 4, sN S a, .inr (.inr (.inr (.inr (sR S a))))) by simp [wE, hk]] at hj
    exact va_aldq hx hb hK.1 hP j 4 hj rfl hin hdg kk
  · obtain ⟨e1, e2⟩ := w_roK hK hW h
    have hT := (hK.2.2.1.1 a h).2.2.2.2.2 (e1.symm.trans hk)
    exact vb_tq hx hb hT.1 hW.2.2.1 (by rw [← (hW.2.2.2.2 a h).2.1]; exact hin) (by rw [← (hW.2.2.2.2 a h).2.2.2.2]) hdg kk

theorem w_str {own tx : String} {index k : Nat} (F : CallFix p m c cc nL s args Ts own) (hK : wK D cy A s) (hm : (own, index, tx, k) ∈ wStr) (hdg : decode cc pc = .ok (.ldc index, 2))
    (kk : W p l e R s m args below meth c H locs cells slots Q (F0 m (pc + 2) ls (.ref (D.2.2.1 k) :: rest))) : W p l e R s m args below meth c H locs cells slots Q (F0 m pc ls rest) := by
  obtain ⟨hx, hb, hml, hown, hts⟩ := F
  exact va_ldcS hx hb hown (hK.2.2.1.2.1 _ hm) hdg kk
theorem w_strM {own tx : String} {index k : Nat} (hK : wK D cy A s) (hW : wO D cy X A H0 S H locs) (hm : (own, index, tx, k) ∈ wStr) : wM D S (D.2.2.1 k) ∧ sK S (D.2.2.1 k) = 0 := ⟨Or.inr (hK.2.2.2.1 _ hm).1, (hW.2.2.2.2 _ (hK.2.2.2.1 _ hm).1).1.trans (hK.2.2.2.1 _ hm).2⟩
theorem w_stat {C n d : String} {index k kd : Nat} (F : CallFix p m c cc nL s args Ts own) (hK : wK D cy A s) (hW : wO D cy X A s.heap S H locs) (hm : (C, n, d, k, kd) ∈ wSr) (hlink : (Cond.fieldLink own index C n d).before args s = true) (hdg : decode cc pc = .ok (.getstatic index, 3))
    (kk : W p l e R s m args below meth c H locs cells slots Q (F0 m (pc + 3) ls (.ref (D.2.2.1 k) :: rest))) : W p l e R s m args below meth c H locs cells slots Q (F0 m pc ls rest) := by
  obtain ⟨hx, hb, hml, hown, hts⟩ := F
  exact va_gets hx hb (hK.2.2.1.2.2.1 _ hm) hW.2.2.1 hown hlink (fun _ h => h) hdg kk
theorem w_statM {C n d : String} {k kd : Nat} (hK : wK D cy A s) (hW : wO D cy X A H0 S H locs) (hm : (C, n, d, k, kd) ∈ wSr) : wM D S (D.2.2.1 k) ∧ sK S (D.2.2.1 k) = kd := ⟨Or.inr (hK.2.2.2.2.1 _ hm).1, (hW.2.2.2.2 _ (hK.2.2.2.2.1 _ hm).1).1.trans (hK.2.2.2.2.1 _ hm).2⟩
theorem w_staI {C n d : String} {index : Nat} {v : Int32} (F : CallFix p m c cc nL s args Ts own) (hK : wK D cy A s) (hW : wO D cy X A s.heap S H locs) (hm : (C, n, d, v) ∈ wSi) (hlink : (Cond.fieldLink own index C n d).before args s = true) (hdg : decode cc pc = .ok (.getstatic index, 3))
    (kk : W p l e R s m args below meth c H locs cells slots Q (F0 m (pc + 3) ls (.int v :: rest))) : W p l e R s m args below meth c H locs cells slots Q (F0 m pc ls rest) := by
  obtain ⟨hx, hb, hml, hown, hts⟩ := F
  exact va_gets hx hb (hK.2.2.1.2.2.2.1 _ hm) hW.2.2.1 hown hlink (fun _ h => h) hdg kk
theorem w_fresh (hK : wK D cy A s) (hW : wO D cy X A s.heap S H locs) : ¬ wM D S H.size := fun h => by
  rcases h with h | h
  · exact absurd (va_pl_lt hW.1 h) (Nat.lt_irrefl _)
  · exact absurd (Nat.lt_of_lt_of_le (hK.2.2.1.1 _ h).2.1 hW.2.2.1.1) (Nat.lt_irrefl _)
/-- the fields of a new object -/
def wd (k : Nat) : List Value := (List.range (wN k)).map (fun f => if wt k f = 0 then .int 0 else if wt k f = 1 then .long 0 else .null)
theorem ws_new (S : wS) (q k n : Nat) : ws_ k (nA S q k n) q = wd k := by
  unfold ws_ wd
  congr 1
  funext f
  simp [wv, nA, sI, sJ, sR, va_up, va_rf]
theorem wE_new {q k : Nat} (hk : k < 20) (n : Nat) (b : Nat) : va_up (wE cy S) q (.inr (k, wd k)) b = wE cy (nA S q k n) b := by
  refine wE_row (S' := nA S q k n) (a := q) ?_ (fun b hb => wE_ne (by simp [nA, sK, va_up, hb]) (by simp [nA, sN, va_up, hb]) (by simp [nA, sI, va_up, hb]) (by simp [nA, sJ, va_up, hb]) (by simp [nA, sR, va_up, hb])) b
  rw [wE_at (k := k) (by simp [nA, sK, va_up]) hk, ws_new]
theorem w_newq {q : Nat} {e9 : va_E} (hK : wK D cy A s) (hD1 : va_D A (wL cy X S ++ [(q, e9)])) : ¬ wM D S q := fun h => by
  have hq : (wL cy X S ++ [(q, e9)])[(wL cy X S).length]? = some (q, e9) := by simp
  rcases h with h | h
  · obtain ⟨j, hj⟩ := va_pl_get (X := X) (f := wE cy S) h
    have hl := (List.getElem?_eq_some_iff.mp hj).1
    have e := hD1.1 j (wL cy X S).length (q, wE cy S q) (q, e9) (by rw [List.getElem?_append_left hl]; exact hj) hq rfl
    have hl2 : j < (wL cy X S).length := hl
    omega
  · exact (hK.2.2.1.1 q h).1 (hD1.2 _ _ hq)
theorem w_new {k N index : Nat} {C : String} {T : u_T} (F : CallFix p m c cc nL s args Ts own) (hK : wK D cy A s) (hW : wO D cy X A s.heap S H locs) (hc : vwCl[k]? = some (C, T, N)) (hk : k < 20) (hin : ∀ w ∈ u_ws C T N, w ∈ Ts) (ty : Nat → FieldType) (hty : ∀ k, k < N → parseFieldDescriptor (T k).2.2.1 = some (ty k)) (hcl : (Cond.classLink own index C).before args s = true) (hinst : (Cond.instantiable C N).before args s = true) (hini : (Cond.initialized C).before args s = true) (hdef : ∀ j, j < N → defaultValue (ty j) = vp_V (wd k) j) (hcells : cells + 1 ≤ R.cells) (hslots : slots + N ≤ R.slots) (hdg : decode cc pc = .ok (.new index, 3))
    (kk : ∀ (q : Nat) (H1 : Heap), ¬ wM D S q → wO D cy X A s.heap (nA S q k 0) H1 locs → W p l e R s m args below meth c H1 locs (cells + 1) (slots + N) Q (F0 m (pc + 3) ls (.ref q :: rest))) : W p l e R s m args below meth c H locs cells slots Q (F0 m pc ls rest) := by
  obtain ⟨hx, hb, hml, hown, hts⟩ := F
  refine va_new (ci := k) (fs := wd k) hx hb hts hin ty hty hown hcl hinst hini hK.1 hW.1 hW.2.1 hW.2.2.1 hW.2.2.2.1 hc hdef hcells hslots hdg (fun q H1 hP1 hD1 hS1 => ?_)
  have hq : ¬ wM D S q := w_newq hK hD1
  have e1 : wL cy X S ++ [(q, .inr (k, wd k))] = wL cy X (nA S q k 0) := by
    show (X ++ va_pl (sL S) (wE cy S)) ++ _ = _
    rw [List.append_assoc, va_pl_push (fun h => hq (Or.inl h))]
    exact congrArg (fun l => X ++ l) (va_pl_congr (wE_new hk 0))
  rw [e1] at hP1 hD1
  exact kk q H1 hq ⟨hP1, hD1, hS1, hW.2.2.2.1, wRO_nA hW.2.2.2.2 (fun h => hq (Or.inr h))⟩
theorem w_newaB {n : Int32} (F : CallFix p m c cc nL s args Ts own) (hK : wK D cy A s) (hW : wO D cy X A s.heap S H locs) (harr : (Cond.arrayClass (newarray.typeOf .byte)).before args s = true) (hn : ¬ n < 0) (hbytes : n.toNatClampNeg ≤ 1000000) (hcells : cells + 1 ≤ R.cells) (hslots : slots + n.toNatClampNeg ≤ R.slots) (hdg : decode cc pc = .ok (.newarray .byte, 2))
    (kk : ∀ (q : Nat) (H1 : Heap), ¬ wM D S q → wO D cy X A s.heap (nA S q 20 n.toNatClampNeg) H1 locs → W p l e R s m args below meth c H1 locs (cells + 1) (slots + n.toNatClampNeg) Q (F0 m (pc + 2) ls (.ref q :: rest))) : W p l e R s m args below meth c H locs cells slots Q (F0 m pc ls (.int n :: rest)) := by
  obtain ⟨hx, hb, hml, hown, hts⟩ := F
  refine va_newa (atype := .byte) (ty := .byte) (a0 := (n.toNatClampNeg, .inl (fun _ => 0))) hx hb harr rfl hK.1 hW.1 hW.2.1 hW.2.2.1 hW.2.2.2.1 (fun _ => rfl) hn rfl (Nat.le_trans (Nat.mul_le_mul hbytes (show componentBytes .byte ≤ 8 by decide)) (by decide)) hcells hslots hdg (fun q cA H1 hK1 hP1 hD1 hS1 => ?_)
  have hq : ¬ wM D S q := w_newq hK hD1
  have hcy : cA = cy 0 := by
    have h1 := (hK1.2 6 (cA, .byte) rfl).2
    have h2 := (hK.1.2 0 (cy 0, .byte) rfl).2
    exact Option.some.inj (h1.symm.trans h2)
  subst hcy
  have e1 : wL cy X S ++ [(q, .inl (cy 0, n.toNatClampNeg, .inl (fun _ => 0)))] = wL cy X (nA S q 20 n.toNatClampNeg) := by
    show (X ++ va_pl (sL S) (wE cy S)) ++ _ = _
    rw [List.append_assoc, va_pl_push (fun h => hq (Or.inl h))]
    refine congrArg (fun l => X ++ l) (va_pl_congr (wE_row (S' := nA S q 20 n.toNatClampNeg) (a := q) ?_ (fun b hb => wE_ne (by simp [nA, sK, va_up, hb]) (by simp [nA, sN, va_up, hb]) (by simp [nA, sI, va_up, hb]) (by simp [nA, sJ, va_up, hb]) (by simp [nA, sR, va_up, hb]))))
    simp [wE, nA, sK, sN, sI, sJ, va_up]
  rw [e1] at hP1 hD1
  exact kk q H1 hq ⟨hP1, hD1, hS1, hW.2.2.2.1, wRO_nA hW.2.2.2.2 (fun h => hq (Or.inr h))⟩
theorem w_newaI {n : Int32} (F : CallFix p m c cc nL s args Ts own) (hK : wK D cy A s) (hW : wO D cy X A s.heap S H locs) (harr : (Cond.arrayClass (newarray.typeOf .int)).before args s = true) (hn : ¬ n < 0) (hbytes : n.toNatClampNeg ≤ 1000000) (hcells : cells + 1 ≤ R.cells) (hslots : slots + n.toNatClampNeg ≤ R.slots) (hdg : decode cc pc = .ok (.newarray .int, 2))
    (kk : ∀ (q : Nat) (H1 : Heap), ¬ wM D S q → wO D cy X A s.heap (nA S q 21 n.toNatClampNeg) H1 locs → W p l e R s m args below meth c H1 locs (cells + 1) (slots + n.toNatClampNeg) Q (F0 m (pc + 2) ls (.ref q :: rest))) : W p l e R s m args below meth c H locs cells slots Q (F0 m pc ls (.int n :: rest)) := by
  obtain ⟨hx, hb, hml, hown, hts⟩ := F
  refine va_newa (atype := .int) (ty := .int) (a0 := (n.toNatClampNeg, .inl (fun _ => 0))) hx hb harr rfl hK.1 hW.1 hW.2.1 hW.2.2.1 hW.2.2.2.1 (fun _ => rfl) hn rfl (Nat.le_trans (Nat.mul_le_mul hbytes (show componentBytes .int ≤ 8 by decide)) (by decide)) hcells hslots hdg (fun q cA H1 hK1 hP1 hD1 hS1 => ?_)
  have hq : ¬ wM D S q := w_newq hK hD1
  have hcy : cA = cy 1 := by
    have h1 := (hK1.2 6 (cA, .int) rfl).2
    have h2 := (hK.1.2 1 (cy 1, .int) rfl).2
    exact Option.some.inj (h1.symm.trans h2)
  subst hcy
  have e1 : wL cy X S ++ [(q, .inl (cy 1, n.toNatClampNeg, .inl (fun _ => 0)))] = wL cy X (nA S q 21 n.toNatClampNeg) := by
    show (X ++ va_pl (sL S) (wE cy S)) ++ _ = _
    rw [List.append_assoc, va_pl_push (fun h => hq (Or.inl h))]
    refine congrArg (fun l => X ++ l) (va_pl_congr (wE_row (S' := nA S q 21 n.toNatClampNeg) (a := q) ?_ (fun b hb => wE_ne (by simp [nA, sK, va_up, hb]) (by simp [nA, sN, va_up, hb]) (by simp [nA, sI, va_up, hb]) (by simp [nA, sJ, va_up, hb]) (by simp [nA, sR, va_up, hb]))))
    simp [wE, nA, sK, sN, sI, sJ, va_up]
  rw [e1] at hP1 hD1
  exact kk q H1 hq ⟨hP1, hD1, hS1, hW.2.2.2.1, wRO_nA hW.2.2.2.2 (fun h => hq (Or.inr h))⟩
theorem w_newaJ {n : Int32} (F : CallFix p m c cc nL s args Ts own) (hK : wK D cy A s) (hW : wO D cy X A s.heap S H locs) (harr : (Cond.arrayClass (newarray.typeOf .long)).before args s = true) (hn : ¬ n < 0) (hbytes : n.toNatClampNeg ≤ 1000000) (hcells : cells + 1 ≤ R.cells) (hslots : slots + n.toNatClampNeg ≤ R.slots) (hdg : decode cc pc = .ok (.newarray .long, 2))
    (kk : ∀ (q : Nat) (H1 : Heap), ¬ wM D S q → wO D cy X A s.heap (nA S q 22 n.toNatClampNeg) H1 locs → W p l e R s m args below meth c H1 locs (cells + 1) (slots + n.toNatClampNeg) Q (F0 m (pc + 2) ls (.ref q :: rest))) : W p l e R s m args below meth c H locs cells slots Q (F0 m pc ls (.int n :: rest)) := by
  obtain ⟨hx, hb, hml, hown, hts⟩ := F
  refine va_newa (atype := .long) (ty := .long) (a0 := (n.toNatClampNeg, .inr (.inl (fun _ => 0)))) hx hb harr rfl hK.1 hW.1 hW.2.1 hW.2.2.1 hW.2.2.2.1 (fun _ => rfl) hn rfl (Nat.le_trans (Nat.mul_le_mul hbytes (show componentBytes .long ≤ 8 by decide)) (by decide)) hcells hslots hdg (fun q cA H1 hK1 hP1 hD1 hS1 => ?_)
  have hq : ¬ wM D S q := w_newq hK hD1
  have hcy : cA = cy 2 := by
    have h1 := (hK1.2 6 (cA, .long) rfl).2
    have h2 := (hK.1.2 2 (cy 2, .long) rfl).2
    exact Option.some.inj (h1.symm.trans h2)
  subst hcy
  have e1 : wL cy X S ++ [(q, .inl (cy 2, n.toNatClampNeg, .inr (.inl (fun _ => 0))))] = wL cy X (nA S q 22 n.toNatClampNeg) := by
    show (X ++ va_pl (sL S) (wE cy S)) ++ _ = _
    rw [List.append_assoc, va_pl_push (fun h => hq (Or.inl h))]
    refine congrArg (fun l => X ++ l) (va_pl_congr (wE_row (S' := nA S q 22 n.toNatClampNeg) (a := q) ?_ (fun b hb => wE_ne (by simp [nA, sK, va_up, hb]) (by simp [nA, sN, va_up, hb]) (by simp [nA, sI, va_up, hb]) (by simp [nA, sJ, va_up, hb]) (by simp [nA, sR, va_up, hb]))))
    simp [wE, nA, sK, sN, sI, sJ, va_up]
  rw [e1] at hP1 hD1
  exact kk q H1 hq ⟨hP1, hD1, hS1, hW.2.2.2.1, wRO_nA hW.2.2.2.2 (fun h => hq (Or.inr h))⟩
theorem w_newaZ {n : Int32} (F : CallFix p m c cc nL s args Ts own) (hK : wK D cy A s) (hW : wO D cy X A s.heap S H locs) (harr : (Cond.arrayClass (newarray.typeOf .boolean)).before args s = true) (hn : ¬ n < 0) (hbytes : n.toNatClampNeg ≤ 1000000) (hcells : cells + 1 ≤ R.cells) (hslots : slots + n.toNatClampNeg ≤ R.slots) (hdg : decode cc pc = .ok (.newarray .boolean, 2))
    (kk : ∀ (q : Nat) (H1 : Heap), ¬ wM D S q → wO D cy X A s.heap (nA S q 23 n.toNatClampNeg) H1 locs → W p l e R s m args below meth c H1 locs (cells + 1) (slots + n.toNatClampNeg) Q (F0 m (pc + 2) ls (.ref q :: rest))) : W p l e R s m args below meth c H locs cells slots Q (F0 m pc ls (.int n :: rest)) := by
  obtain ⟨hx, hb, hml, hown, hts⟩ := F
  refine va_newa (atype := .boolean) (ty := .boolean) (a0 := (n.toNatClampNeg, .inl (fun _ => 0))) hx hb harr rfl hK.1 hW.1 hW.2.1 hW.2.2.1 hW.2.2.2.1 (fun _ => rfl) hn rfl (Nat.le_trans (Nat.mul_le_mul hbytes (show componentBytes .boolean ≤ 8 by decide)) (by decide)) hcells hslots hdg (fun q cA H1 hK1 hP1 hD1 hS1 => ?_)
  have hq : ¬ wM D S q := w_newq hK hD1
  have hcy : cA = cy 3 := by
    have h1 := (hK1.2 6 (cA, .boolean) rfl).2
    have h2 := (hK.1.2 3 (cy 3, .boolean) rfl).2
    exact Option.some.inj (h1.symm.trans h2)
  subst hcy
  have e1 : wL cy X S ++ [(q, .inl (cy 3, n.toNatClampNeg, .inl (fun _ => 0)))] = wL cy X (nA S q 23 n.toNatClampNeg) := by
    show (X ++ va_pl (sL S) (wE cy S)) ++ _ = _
    rw [List.append_assoc, va_pl_push (fun h => hq (Or.inl h))]
    refine congrArg (fun l => X ++ l) (va_pl_congr (wE_row (S' := nA S q 23 n.toNatClampNeg) (a := q) ?_ (fun b hb => wE_ne (by simp [nA, sK, va_up, hb]) (by simp [nA, sN, va_up, hb]) (by simp [nA, sI, va_up, hb]) (by simp [nA, sJ, va_up, hb]) (by simp [nA, sR, va_up, hb]))))
    simp [wE, nA, sK, sN, sI, sJ, va_up]
  rw [e1] at hP1 hD1
  exact kk q H1 hq ⟨hP1, hD1, hS1, hW.2.2.2.1, wRO_nA hW.2.2.2.2 (fun h => hq (Or.inr h))⟩
theorem w_putIF {k f N index : Nat} {C : String} {T : u_T} {v : Int32} (F : CallFix p m c cc nL s args Ts own) (hK : wK D cy A s) (hW : wO D cy X A s.heap S H locs) (hM : wM D S a) (hk : sK S a = k) (hk2 : k < 20) (hk0 : k ≠ 0) (hc : vwCl[k]? = some (C, T, N)) (hN : wN k = N) (hf : f < N) (hin : ∀ w ∈ u_ws C T N, w ∈ Ts) (ty0 : Nat → FieldType) (hty : ∀ k, k < N → parseFieldDescriptor (T k).2.2.1 = some (ty0 k)) (hnm : ∀ a, a < N → ∀ b, b < N → a ≠ b → (T a).2.1 ≠ (T b).2.1) (hlink : (Cond.fieldLink own index (T f).1 (T f).2.1 (T f).2.2.1).before args s = true) (ht : wt k f = 0) (hfin : (T f).2.2.2 = true) (hin2 : meth.name = "<init>") (hdecl : (T f).1 = own) {ty : FieldType} (hd : parseFieldDescriptor (T f).2.2.1 = some ty) (hn : narrow ty (.int v) = .int v) (hfit : fits ty (.int v) = true) (hdg : decode cc pc = .ok (.putfield index, 3))
    (kk : ∀ (H1 : Heap) (locs1 : List Loc), wO D cy X A s.heap (uI S a f v) H1 locs1 → W p l e R s m args below meth c H1 locs1 cells slots Q (F0 m (pc + 3) ls rest)) : W p l e R s m args below meth c H locs cells slots Q (F0 m pc ls (.int v :: .ref a :: rest)) := by
  have hL := w_mut hK hW hM hk hk0 hk2
  obtain ⟨hx, hb, hml, hown, hts⟩ := F
  obtain ⟨j, hj0⟩ := va_pl_get (X := X) (f := wE cy S) hL
  have hj := hj0
  rw [wE_at hk hk2] at hj
  refine va_putF (D := D.1) (ci := k) (v := .int v) hx hb hts hin ty0 hty hnm hown hK.1 hW.1 hW.2.1 hW.2.2.1 j hj hc f hf hlink (fun _ h9 => h9) hfin hin2 hdecl hd hn hfit (by rw [ws_len, hN]; exact hf) hdg (fun H1 locs1 hP1 hD1 hS1 => kk H1 locs1 ?_)
  have e1 : (wL cy X S).set j (a, .inr (k, (ws_ k S a).set f (.int v))) = wL cy X (uI S a f v) := by
    rw [va_pl_set hW.2.1 hL hj0]
    exact congrArg (fun l => X ++ l) (va_pl_congr (wE_uI hk hk2 ht v))
  rw [e1] at hP1 hD1
  exact ⟨hP1, hD1, hS1, hW.2.2.2.1, wRO_uI hW.2.2.2.2 (w_noRO hK hW hL)⟩
theorem w_putJF {k f N index : Nat} {C : String} {T : u_T} {v : Int64} (F : CallFix p m c cc nL s args Ts own) (hK : wK D cy A s) (hW : wO D cy X A s.heap S H locs) (hM : wM D S a) (hk : sK S a = k) (hk2 : k < 20) (hk0 : k ≠ 0) (hc : vwCl[k]? = some (C, T, N)) (hN : wN k = N) (hf : f < N) (hin : ∀ w ∈ u_ws C T N, w ∈ Ts) (ty0 : Nat → FieldType) (hty : ∀ k, k < N → parseFieldDescriptor (T k).2.2.1 = some (ty0 k)) (hnm : ∀ a, a < N → ∀ b, b < N → a ≠ b → (T a).2.1 ≠ (T b).2.1) (hlink : (Cond.fieldLink own index (T f).1 (T f).2.1 (T f).2.2.1).before args s = true) (ht : wt k f = 1) (hfin : (T f).2.2.2 = true) (hin2 : meth.name = "<init>") (hdecl : (T f).1 = own) (hd : parseFieldDescriptor (T f).2.2.1 = some .long) (hdg : decode cc pc = .ok (.putfield index, 3))
    (kk : ∀ (H1 : Heap) (locs1 : List Loc), wO D cy X A s.heap (uJ S a f v) H1 locs1 → W p l e R s m args below meth c H1 locs1 cells slots Q (F0 m (pc + 3) ls rest)) : W p l e R s m args below meth c H locs cells slots Q (F0 m pc ls (.long v :: .ref a :: rest)) := by
  have hL := w_mut hK hW hM hk hk0 hk2
  obtain ⟨hx, hb, hml, hown, hts⟩ := F
  obtain ⟨j, hj0⟩ := va_pl_get (X := X) (f := wE cy S) hL
  have hj := hj0
  rw [wE_at hk hk2] at hj
  refine va_putF (D := D.1) (ci := k) (v := .long v) hx hb hts hin ty0 hty hnm hown hK.1 hW.1 hW.2.1 hW.2.2.1 j hj hc f hf hlink (fun _ h9 => h9) hfin hin2 hdecl hd rfl rfl (by rw [ws_len, hN]; exact hf) hdg (fun H1 locs1 hP1 hD1 hS1 => kk H1 locs1 ?_)
  have e1 : (wL cy X S).set j (a, .inr (k, (ws_ k S a).set f (.long v))) = wL cy X (uJ S a f v) := by
    rw [va_pl_set hW.2.1 hL hj0]
    exact congrArg (fun l => X ++ l) (va_pl_congr (wE_uJ hk hk2 ht v))
  rw [e1] at hP1 hD1
  exact ⟨hP1, hD1, hS1, hW.2.2.2.1, wRO_uJ hW.2.2.2.2 (w_noRO hK hW hL)⟩
theorem w_putRF {k f N index : Nat} {C : String} {T : u_T} {g : Option Nat} (F : CallFix p m c cc nL s args Ts own) (hK : wK D cy A s) (hW : wO D cy X A s.heap S H locs) (hM : wM D S a) (hk : sK S a = k) (hk2 : k < 20) (hk0 : k ≠ 0) (hc : vwCl[k]? = some (C, T, N)) (hN : wN k = N) (hf : f < N) (hin : ∀ w ∈ u_ws C T N, w ∈ Ts) (ty0 : Nat → FieldType) (hty : ∀ k, k < N → parseFieldDescriptor (T k).2.2.1 = some (ty0 k)) (hnm : ∀ a, a < N → ∀ b, b < N → a ≠ b → (T a).2.1 ≠ (T b).2.1) (hlink : (Cond.fieldLink own index (T f).1 (T f).2.1 (T f).2.2.1).before args s = true) (ht : wt k f = 2) (hfin : (T f).2.2.2 = true) (hin2 : meth.name = "<init>") (hdecl : (T f).1 = own) {ty : FieldType} (hd : parseFieldDescriptor (T f).2.2.1 = some ty) (hn : narrow ty (va_rf g) = va_rf g) (hfit : fits ty (va_rf g) = true) (hdg : decode cc pc = .ok (.putfield index, 3))
    (kk : ∀ (H1 : Heap) (locs1 : List Loc), wO D cy X A s.heap (uR S a f g) H1 locs1 → W p l e R s m args below meth c H1 locs1 cells slots Q (F0 m (pc + 3) ls rest)) : W p l e R s m args below meth c H locs cells slots Q (F0 m pc ls (va_rf g :: .ref a :: rest)) := by
  have hL := w_mut hK hW hM hk hk0 hk2
  obtain ⟨hx, hb, hml, hown, hts⟩ := F
  obtain ⟨j, hj0⟩ := va_pl_get (X := X) (f := wE cy S) hL
  have hj := hj0
  rw [wE_at hk hk2] at hj
  refine va_putF (D := D.1) (ci := k) (v := va_rf g) hx hb hts hin ty0 hty hnm hown hK.1 hW.1 hW.2.1 hW.2.2.1 j hj hc f hf hlink (fun _ h9 => h9) hfin hin2 hdecl hd hn hfit (by rw [ws_len, hN]; exact hf) hdg (fun H1 locs1 hP1 hD1 hS1 => kk H1 locs1 ?_)
  have e1 : (wL cy X S).set j (a, .inr (k, (ws_ k S a).set f (va_rf g))) = wL cy X (uR S a f g) := by
    rw [va_pl_set hW.2.1 hL hj0]
    exact congrArg (fun l => X ++ l) (va_pl_congr (wE_uR hk hk2 ht g))
  rw [e1] at hP1 hD1
  exact ⟨hP1, hD1, hS1, hW.2.2.2.1, wRO_uR hW.2.2.2.2 (w_noRO hK hW hL)⟩
theorem v_narrow (ty : FieldType) (g : Option Nat) : narrow ty (va_rf g) = va_rf g := by cases g <;> cases ty <;> rfl
theorem v_fitsO (n : String) (g : Option Nat) : fits (.object n) (va_rf g) = true := by cases g <;> rfl
theorem v_fitsA (t : FieldType) (g : Option Nat) : fits (.array t) (va_rf g) = true := by cases g <;> rfl
theorem w_cast {k N index : Nat} {C nm : String} {T : u_T} {g : Option Nat} (F : CallFix p m c cc nL s args Ts own) (hK : wK D cy A s) (hW : wO D cy X A s.heap S H locs) (hlink : (Cond.classLink own index nm).before args s = true) (hc : va_Nw (.castable C nm) s) (hk2 : k < 20) (hcl : vwCl[k]? = some (C, T, N)) (hg : ∀ y : Nat, g = some y → wM D S y ∧ sK S y = k) (hdg : decode cc pc = .ok (.checkcast index, 3))
    (kk : W p l e R s m args below meth c H locs cells slots Q (F0 m (pc + 3) ls (va_rf g :: rest))) : W p l e R s m args below meth c H locs cells slots Q (F0 m pc ls (va_rf g :: rest)) := by
  obtain ⟨hx, hb, hml, hown, hts⟩ := F
  cases g with
  | none => exact lv_castN hx hb hdg kk
  | some y =>
    obtain ⟨h1, h2⟩ := hg y rfl
    exact va_castY hx hb hown hlink hc (w_recv hK hW h1 h2 hk2 hcl) hdg kk
theorem w_same {g : JFrame} (k : W p l e R s m args below meth c H locs cells slots Q g) : W p l e R s m args below meth c H locs (cells + 0) (slots + 0) Q g := k
/-- null, or one of the new cells with fields -/
def wQo (S : wS) (g : Option Nat) : Prop := ∀ y : Nat, g = some y → y ∈ sL S ∧ sK S y < 18
theorem w_castObj : ∀ k, k < 18 → ∃ q : vw_C, vwCl[k]? = some q ∧ Cond.castable q.1 "java/lang/Object" ∈ wNW := by
  intro k hk
  rcases (show k = 0 ∨ k = 1 ∨ k = 2 ∨ k = 3 ∨ k = 4 ∨ k = 5 ∨ k = 6 ∨ k = 7 ∨ k = 8 ∨ k = 9 ∨ k = 10 ∨ k = 11 ∨ k = 12 ∨ k = 13 ∨ k = 14 ∨ k = 15 ∨ k = 16 ∨ k = 17 by omega) with h | h | h | h | h | h | h | h | h | h | h | h | h | h | h | h | h | h <;> subst h <;> exact ⟨_, rfl, by decide +kernel⟩
theorem w_ast {i : Int32} {g : Option Nat} (F : CallFix p m c cc nL s args Ts own) (hK : wK D cy A s) (hW : wO D cy X A s.heap S H locs) (hL : a ∈ sL S) (hk : sK S a = 24) (hin : vp_in i (sN S a)) (hg : wQo S g) (hdg : decode cc pc = .ok (.aastore, 1))
    (kk : ∀ (H1 : Heap) (locs1 : List Loc), wO D cy X A s.heap (uR S a i.toNatClampNeg g) H1 locs1 → W p l e R s m args below meth c H1 locs1 cells slots Q (F0 m (pc + 1) ls rest)) : W p l e R s m args below meth c H locs cells slots Q (F0 m pc ls (va_rf g :: .int i :: .ref a :: rest)) := by
  obtain ⟨hx, hb, hml, hown, hts⟩ := F
  obtain ⟨j, hj0⟩ := va_pl_get (X := X) (f := wE cy S) hL
  have hj := hj0
  rw [show wE cy S a = .inl (cy 4, sN S a, .inr (.inr (.inr (.inr (sR S a))))) by simp [wE, hk]] at hj
  cases g with
  | none =>
    refine va_astqN hx hb hK.1 hW.1 hW.2.1 hW.2.2.1 j 4 hj rfl hin hdg (fun H1 locs1 hP1 hD1 hS1 => kk H1 locs1 ?_)
    rw [va_pl_set hW.2.1 hL hj0, va_pl_congr (wE_row (S' := uR S a i.toNatClampNeg none) (a := a) (by simp [wE, uR, sR, sK, hk, va_up]) wE_oR)] at hP1 hD1
    exact ⟨hP1, hD1, hS1, hW.2.2.2.1, wRO_uR hW.2.2.2.2 (w_noRO hK hW hL)⟩
  | some y =>
    obtain ⟨h1, h2⟩ := hg y rfl
    obtain ⟨q, hq, hcw⟩ := w_castObj _ h2
    obtain ⟨jv, hjv⟩ := va_pl_get (X := X) (f := wE cy S) h1
    rw [wE_at rfl (Nat.lt_trans h2 (by decide))] at hjv
    refine va_astqO hx hb hK.1 hW.1 hW.2.1 hW.2.2.1 j 4 jv _ hj rfl (hK.2.1 _ hcw) hjv hq hin hdg (fun H1 locs1 hP1 hD1 hS1 => kk H1 locs1 ?_)
    rw [va_pl_set hW.2.1 hL hj0, va_pl_congr (wE_row (S' := uR S a i.toNatClampNeg (some y)) (a := a) (by simp [wE, uR, sR, sK, hk, va_up]) wE_oR)] at hP1 hD1
    exact ⟨hP1, hD1, hS1, hW.2.2.2.1, wRO_uR hW.2.2.2.2 (w_noRO hK hW hL)⟩
/-! arraycopy of bytes and of ints -/
def uY (S : wS) (a0 a sp dp n : Nat) : wS := (S.1, S.2.1, S.2.2.1, va_up (sI S) a (va_cpy (sI S a0) (sI S a) sp dp n), S.2.2.2.2.1, S.2.2.2.2.2)
theorem wX_uY {a0 sp dp n : Nat} : wX D S (uY S a0 a sp dp n) := ⟨fun _ h => h, fun _ _ => ⟨rfl, rfl⟩⟩
theorem wE_oY {a0 sp dp n : Nat} (b : Nat) (hb : b ≠ a) : wE cy (uY S a0 a sp dp n) b = wE cy S b := wE_ne rfl rfl (by simp [uY, sI, va_up, hb]) rfl rfl
theorem wRO_uY (h : wRO D S) (ha : a ∉ D.2.1) {a0 sp dp n : Nat} : wRO D (uY S a0 a sp dp n) := h.put ha (fun b hb => ⟨rfl, rfl, by simp [uY, sI, va_up, hb], rfl, rfl⟩)
def wyK (k : Nat) : Nat := if k = 20 then 0 else 1
def wyT (k : Nat) : FieldType := if k = 20 then .byte else .int
theorem wE_y {k : Nat} (hk : sK S a = k) (h2 : k = 20 ∨ k = 21) : wE cy S a = .inl (cy (wyK k), sN S a, .inl (sI S a)) := by rcases h2 with h | h <;> subst h <;> simp [wE, wyK, hk]
theorem wT_y {k : Nat} (h2 : k = 20 ∨ k = 21) : (wT cy)[wyK k]? = some (cy (wyK k), wyT k) := by rcases h2 with h | h <;> subst h <;> rfl
theorem w_copy {k a0 index : Nat} {sp dp n : Int32} (F : CallFix p m c cc nL s args Ts own) (hK : wK D cy A s) (hW : wO D cy X A s.heap S H locs) (hml' : c.maxLocals = ls.size) (hlink : (Cond.methodLink own index arraycopyName).before args s = true) (hnat : (Cond.native arraycopyName).before args s = true) (hstat : (Cond.static arraycopyName).before args s = true) (hini : (Cond.initialized "java/lang/System").before args s = true)
    (hL0 : a0 ∈ sL S) (hk0 : sK S a0 = k) (hL : a ∈ sL S) (hk : sK S a = k) (h2k : k = 20 ∨ k = 21)
    (h1 : ¬ sp < 0) (h2 : ¬ dp < 0) (h3 : ¬ n < 0) (h4 : sp.toNatClampNeg + n.toNatClampNeg ≤ sN S a0) (h5 : dp.toNatClampNeg + n.toNatClampNeg ≤ sN S a) (hfit : ∀ i, i < n.toNatClampNeg → fits (wyT k) (.int (sI S a0 (sp.toNatClampNeg + i))) = true)
    (hframes : 1 ≤ R.frames) (hlocals : (rest.map fun v => v.category).sum + (nativeFrameWords "java/lang/System" "arraycopy" 5 + 11) ≤ R.locals) (hdg : decode cc pc = .ok (.invokestatic index, 3))
    (kk : ∀ (H1 : Heap) (locs1 : List Loc), wO D cy X A s.heap (uY S a0 a sp.toNatClampNeg dp.toNatClampNeg n.toNatClampNeg) H1 locs1 → W p l e R s m args below meth c H1 locs1 cells slots Q (F0 m (pc + 3) ls rest)) : W p l e R s m args below meth c H locs cells slots Q (F0 m pc ls (.int n :: .int dp :: .ref a :: .int sp :: .ref a0 :: rest)) := by
  obtain ⟨hx, hb, hml, hown, hts⟩ := F
  obtain ⟨j0, hj00⟩ := va_pl_get (X := X) (f := wE cy S) hL0
  obtain ⟨j, hj0⟩ := va_pl_get (X := X) (f := wE cy S) hL
  have hj := hj0
  rw [wE_y hk h2k] at hj
  rw [wE_y hk0 h2k] at hj00
  refine va_copyi hx hb hml' hown hlink hnat hstat hini hK.1 hW.1 hW.2.1 hW.2.2.1 j0 j _ _ hj00 hj (wT_y h2k) (wT_y h2k) (by rcases h2k with h | h <;> subst h <;> rfl) h1 h2 h3 h4 h5 hfit hframes hlocals hdg (fun H1 locs1 hP1 hD1 hS1 => kk H1 locs1 ?_)
  rw [va_pl_set hW.2.1 hL hj0, va_pl_congr (wE_row (S' := uY S a0 a sp.toNatClampNeg dp.toNatClampNeg n.toNatClampNeg) (a := a) (by rw [wE_y (k := k) (S := uY S a0 a sp.toNatClampNeg dp.toNatClampNeg n.toNatClampNeg) hk h2k]; simp [uY, sI, sN, va_up]) wE_oY)] at hP1 hD1
  exact ⟨hP1, hD1, hS1, hW.2.2.2.1, wRO_uY hW.2.2.2.2 (w_noRO hK hW hL)⟩
/-- a static that nobody looks into -/
theorem w_staQ {index : Nat} (F : CallFix p m c cc nL s args Ts own) (hK : wK D cy A s) (hW : wO D cy X A s.heap S H locs) (hlink : (Cond.fieldLink own index "jdk/internal/util/Preconditions" "SIOOBE_FORMATTER" "Ljava/util/function/BiFunction;").before args s = true) (hdg : decode cc pc = .ok (.getstatic index, 3))
    (kk : ∀ g : Option Nat, W p l e R s m args below meth c H locs cells slots Q (F0 m (pc + 3) ls (va_rf g :: rest))) : W p l e R s m args below meth c H locs cells slots Q (F0 m pc ls rest) := by
  obtain ⟨hx, hb, hml, hown, hts⟩ := F
  rcases hK.2.2.1.2.2.2.2.2.2.1 with h | ⟨t, h⟩
  · exact va_gets hx hb h hW.2.2.1 hown hlink (fun _ h => h) hdg (kk none)
  · exact va_gets hx hb h hW.2.2.1 hown hlink (fun _ h => h) hdg (kk (some t))
theorem w_anew {index : Nat} {n : Int32} (F : CallFix p m c cc nL s args Ts own) (hK : wK D cy A s) (hW : wO D cy X A s.heap S H locs) (hlink : (Cond.classLink own index "java/lang/Object").before args s = true) (hn : ¬ n < 0) (hbytes : n.toNatClampNeg ≤ 1000000) (hcells : cells + 1 ≤ R.cells) (hslots : slots + n.toNatClampNeg ≤ R.slots) (hdg : decode cc pc = .ok (.anewarray index, 3))
    (kk : ∀ (q : Nat) (H1 : Heap), ¬ wM D S q → wO D cy X A s.heap (nA S q 24 n.toNatClampNeg) H1 locs → W p l e R s m args below meth c H1 locs (cells + 1) (slots + n.toNatClampNeg) Q (F0 m (pc + 3) ls (.ref q :: rest))) : W p l e R s m args below meth c H locs cells slots Q (F0 m pc ls (.int n :: rest)) := by
  obtain ⟨hx, hb, hml, hown, hts⟩ := F
  refine va_newq hx hb hown hlink hK.2.2.1.2.2.2.2.2.2.2.1 hK.1 hW.1 hW.2.1 hW.2.2.1 hW.2.2.2.1 hn rfl (Nat.le_trans (Nat.mul_le_mul_right 4 hbytes) (by decide)) hcells hslots hdg (fun q cA H1 hK1 hP1 hD1 hS1 => ?_)
  have hq : ¬ wM D S q := w_newq hK hD1
  have hcy : cA = cy 4 := by
    have h1 := (hK1.2 6 (cA, .object "java/lang/Object") rfl).2
    have h2 := (hK.1.2 4 (cy 4, .object "java/lang/Object") rfl).2
    obtain ⟨kA, comp, k1, k2, k3, k4⟩ := h1
    obtain ⟨kB, com2, q1, q2, q3, q4⟩ := h2
    cases Option.some.inj (k3.symm.trans q3)
    exact Option.some.inj (k4.symm.trans q4)
  subst hcy
  have e1 : wL cy X S ++ [(q, .inl (cy 4, n.toNatClampNeg, .inr (.inr (.inr (.inr (fun _ => none))))))] = wL cy X (nA S q 24 n.toNatClampNeg) := by
    show (X ++ va_pl (sL S) (wE cy S)) ++ _ = _
    rw [List.append_assoc, va_pl_push (fun h => hq (Or.inl h))]
    refine congrArg (fun l => X ++ l) (va_pl_congr (wE_row (S' := nA S q 24 n.toNatClampNeg) (a := q) ?_ (fun b hb => wE_ne (by simp [nA, sK, va_up, hb]) (by simp [nA, sN, va_up, hb]) (by simp [nA, sI, va_up, hb]) (by simp [nA, sJ, va_up, hb]) (by simp [nA, sR, va_up, hb]))))
    simp [wE, nA, sK, sN, sI, sJ, sR, va_up]
  rw [e1] at hP1 hD1
  exact kk q H1 hq ⟨hP1, hD1, hS1, hW.2.2.2.1, wRO_nA hW.2.2.2.2 (fun h => hq (Or.inr h))⟩
theorem w_dld {i : Int32} (F : CallFix p m c cc nL s args Ts own) (hK : wK D cy A s) (hW : wO D cy X A s.heap S H locs) (hL : wM D S a) (hk : sK S a = 25) (hin : vp_in i (sN S a)) (hdg : decode cc pc = .ok (.daload, 1))
    (kk : W p l e R s m args below meth c H locs cells slots Q (F0 m (pc + 1) ls (.double (sJ S a i.toNatClampNeg).toUInt64 :: rest))) : W p l e R s m args below meth c H locs cells slots Q (F0 m pc ls (.int i :: .ref a :: rest)) := by
  obtain ⟨hx, hb, hml, hown, hts⟩ := F
  rcases hL with h | h
  · obtain ⟨j, hj⟩ := w_own hW h
    have hP := hW.1
    rw [show wE cy S a = .inl (cy 5, sN S a, .inr (.inr (.inr (.inl (fun i => (sJ S a i).toUInt64))))) by simp [wE, hk]] at hj
    exact va_dald hx hb hK.1 hP j 5 hj rfl hin hdg kk
  · obtain ⟨e1, e2⟩ := w_roK hK hW h
    omega

theorem w_dst {i : Int32} {x : UInt64} (F : CallFix p m c cc nL s args Ts own) (hK : wK D cy A s) (hW : wO D cy X A s.heap S H locs) (hL : a ∈ sL S) (hk : sK S a = 25) (hin : vp_in i (sN S a)) (hdg : decode cc pc = .ok (.dastore, 1))
    (kk : ∀ (H1 : Heap) (locs1 : List Loc), wO D cy X A s.heap (uJ S a i.toNatClampNeg x.toInt64) H1 locs1 → W p l e R s m args below meth c H1 locs1 cells slots Q (F0 m (pc + 1) ls rest)) : W p l e R s m args below meth c H locs cells slots Q (F0 m pc ls (.double x :: .int i :: .ref a :: rest)) := by
  obtain ⟨hx, hb, hml, hown, hts⟩ := F
  obtain ⟨j, hj0⟩ := va_pl_get (X := X) (f := wE cy S) hL
  have hj := hj0
  rw [show wE cy S a = .inl (cy 5, sN S a, .inr (.inr (.inr (.inl (fun i => (sJ S a i).toUInt64))))) by simp [wE, hk]] at hj
  refine va_dast hx hb hK.1 hW.1 hW.2.1 hW.2.2.1 j 5 hj rfl hin hdg (fun H1 locs1 hP1 hD1 hS1 => kk H1 locs1 ?_)
  have hk9 : sK (uJ S a i.toNatClampNeg x.toInt64) a = 25 := hk
  have he : wE cy (uJ S a i.toNatClampNeg x.toInt64) a = .inl (cy 5, sN S a, .inr (.inr (.inr (.inl (vf_upd (fun j => (sJ S a j).toUInt64) i.toNatClampNeg x))))) := by
    have h9 : wE cy (uJ S a i.toNatClampNeg x.toInt64) a = .inl (cy 5, sN (uJ S a i.toNatClampNeg x.toInt64) a, .inr (.inr (.inr (.inl (fun j => (sJ (uJ S a i.toNatClampNeg x.toInt64) a j).toUInt64))))) := by simp [wE, hk9]
    rw [h9]
    refine congrArg (fun z => Sum.inl (cy 5, sN S a, Sum.inr (Sum.inr (Sum.inr (Sum.inl z))))) (funext fun j => ?_)
    rw [uJ_J]
    by_cases hj9 : j = i.toNatClampNeg
    · simp [vf_upd, hj9]
    · simp [vf_upd, hj9]
  rw [va_pl_set hW.2.1 hL hj0, va_pl_congr (wE_row (S' := uJ S a i.toNatClampNeg x.toInt64) (a := a) he wE_oJ)] at hP1 hD1
  exact ⟨hP1, hD1, hS1, hW.2.2.2.1, wRO_uJ hW.2.2.2.2 (w_noRO hK hW hL)⟩
theorem w_newaD {n : Int32} (F : CallFix p m c cc nL s args Ts own) (hK : wK D cy A s) (hW : wO D cy X A s.heap S H locs) (harr : (Cond.arrayClass (newarray.typeOf .double)).before args s = true) (hn : ¬ n < 0) (hbytes : n.toNatClampNeg ≤ 1000000) (hcells : cells + 1 ≤ R.cells) (hslots : slots + n.toNatClampNeg ≤ R.slots) (hdg : decode cc pc = .ok (.newarray .double, 2))
    (kk : ∀ (q : Nat) (H1 : Heap), ¬ wM D S q → wO D cy X A s.heap (nA S q 25 n.toNatClampNeg) H1 locs → W p l e R s m args below meth c H1 locs (cells + 1) (slots + n.toNatClampNeg) Q (F0 m (pc + 2) ls (.ref q :: rest))) : W p l e R s m args below meth c H locs cells slots Q (F0 m pc ls (.int n :: rest)) := by
  obtain ⟨hx, hb, hml, hown, hts⟩ := F
  refine va_newa (atype := .double) (ty := .double) (a0 := (n.toNatClampNeg, .inr (.inr (.inr (.inl (fun _ => 0)))))) hx hb harr rfl hK.1 hW.1 hW.2.1 hW.2.2.1 hW.2.2.2.1 (fun _ => rfl) hn rfl (Nat.le_trans (Nat.mul_le_mul hbytes (show componentBytes .double ≤ 8 by decide)) (by decide)) hcells hslots hdg (fun q cA H1 hK1 hP1 hD1 hS1 => ?_)
  have hq : ¬ wM D S q := w_newq hK hD1
  have hcy : cA = cy 5 := by
    have h1 := (hK1.2 6 (cA, .double) rfl).2
    have h2 := (hK.1.2 5 (cy 5, .double) rfl).2
    exact Option.some.inj (h1.symm.trans h2)
  subst hcy
  have e1 : wL cy X S ++ [(q, .inl (cy 5, n.toNatClampNeg, .inr (.inr (.inr (.inl (fun _ => 0))))))] = wL cy X (nA S q 25 n.toNatClampNeg) := by
    show (X ++ va_pl (sL S) (wE cy S)) ++ _ = _
    rw [List.append_assoc, va_pl_push (fun h => hq (Or.inl h))]
    refine congrArg (fun l => X ++ l) (va_pl_congr (wE_row (S' := nA S q 25 n.toNatClampNeg) (a := q) ?_ (fun b hb => wE_ne (by simp [nA, sK, va_up, hb]) (by simp [nA, sN, va_up, hb]) (by simp [nA, sI, va_up, hb]) (by simp [nA, sJ, va_up, hb]) (by simp [nA, sR, va_up, hb]))))
    simp [wE, nA, sK, sN, sI, sJ, va_up]
    rfl
  rw [e1] at hP1 hD1
  exact kk q H1 hq ⟨hP1, hD1, hS1, hW.2.2.2.1, wRO_nA hW.2.2.2.2 (fun h => hq (Or.inr h))⟩
theorem x_tab1 {α β : Type} {f : α → β} {l : List α} {a : β} (h : l.map f = [a]) : ∃ x, l = [x] ∧ f x = a := by
  cases l with
  | nil => cases h
  | cons x l => cases l with
    | nil => exact ⟨x, rfl, (List.cons.inj h).1⟩
    | cons y l => cases (List.cons.inj h).2
theorem x_tab2 {α β : Type} {f : α → β} {l : List α} {a b : β} (h : l.map f = [a, b]) : ∃ x y, l = [x, y] ∧ f x = a ∧ f y = b := by
  cases l with
  | nil => cases h
  | cons x l =>
    obtain ⟨h1, h2⟩ := List.cons.inj h
    obtain ⟨y, rfl, hy⟩ := x_tab1 h2
    exact ⟨x, y, rfl, h1, hy⟩
theorem x_tab3 {α β : Type} {f : α → β} {l : List α} {a b c : β} (h : l.map f = [a, b, c]) : ∃ x y z, l = [x, y, z] ∧ f x = a ∧ f y = b ∧ f z = c := by
  cases l with
  | nil => cases h
  | cons x l =>
    obtain ⟨h1, h2⟩ := List.cons.inj h
    obtain ⟨y, z, rfl, hy, hz⟩ := x_tab2 h2
    exact ⟨x, y, z, rfl, h1, hy, hz⟩
def xhF (h : ExceptionTableEntry) : Nat × Nat × Nat × Nat := (h.startPc, h.endPc, h.handlerPc, h.catchType)
/-- caught by a row of the method's table: the rows ahead name other classes -/
theorem x_catch {own E nm : String} {q9 : Addr} {ce : Cell} {a1 b1 t1 k1 : Nat} (F : CallFix p m c cc nL s args Ts own) (hK : wK D cy A s) (pre : List ExceptionTableEntry) (x : ExceptionTableEntry) (suf : List ExceptionTableEntry) (hsplit : c.exceptionTable.toList = pre ++ x :: suf) (hx : xhF x = (a1, b1, t1, k1)) (hin : a1 ≤ pc ∧ pc < b1) (hk1 : k1 ≠ 0)
    (hpass : ∀ z ∈ pre, z.catchType ≠ 0 ∧ ∃ nm : String, (Cond.classLink own z.catchType nm).before args s = true ∧ (E, nm) ∈ wNC)
    (hlink : (Cond.classLink own k1 nm).before args s = true) (hcast : Cond.castable E nm ∈ wNW) (h1 : H[q9]? = some ce) (h2 : ce.vm = .none) (h3 : s.vm.findClass E = some ce.cls)
    (kk : W p l e R s m args below meth c H locs cells slots Q (F0 m t1 ls [.ref q9])) : vx_W p l e R s m args below meth c H locs cells slots Q (F0 m pc ls rest) q9 := by
  obtain ⟨hx0, hb, hml, hown, hts⟩ := F
  obtain ⟨e1, e2, e3, e4⟩ : x.startPc = a1 ∧ x.endPc = b1 ∧ x.handlerPc = t1 ∧ x.catchType = k1 := by
    simp only [xhF, Prod.mk.injEq] at hx; exact hx
  refine vx_catch hown pre x suf hsplit (fun z hz => Or.inr ?_) (by simp only [covers, e1, e2]; simp [hin.1, hin.2]) (by rw [e4]; exact hk1) (by rw [e4]; exact hlink) (va_Nw.use rfl (hK.2.1 _ hcast)) h1 h2 h3 (by rw [e3]; exact kk)
  obtain ⟨g1, nm9, g2, g3⟩ := hpass z hz
  exact ⟨g1, nm9, g2, hK.2.2.1.2.2.2.2.2.2.2.2.1 _ g3⟩
/-- bytes, also out of a cell that is only read -/
theorem w_copyM {a0 index : Nat} {sp dp n : Int32} (F : CallFix p m c cc nL s args Ts own) (hK : wK D cy A s) (hW : wO D cy X A s.heap S H locs) (hml' : c.maxLocals = ls.size) (hlink : (Cond.methodLink own index arraycopyName).before args s = true) (hnat : (Cond.native arraycopyName).before args s = true) (hstat : (Cond.static arraycopyName).before args s = true) (hini : (Cond.initialized "java/lang/System").before args s = true)
    (hL0 : wM D S a0) (hk0 : sK S a0 = 20) (hL : a ∈ sL S) (hk : sK S a = 20)
    (h1 : ¬ sp < 0) (h2 : ¬ dp < 0) (h3 : ¬ n < 0) (h4 : sp.toNatClampNeg + n.toNatClampNeg ≤ sN S a0) (h5 : dp.toNatClampNeg + n.toNatClampNeg ≤ sN S a) (hfit : ∀ i, i < n.toNatClampNeg → fits .byte (.int (sI S a0 (sp.toNatClampNeg + i))) = true)
    (hframes : 1 ≤ R.frames) (hlocals : (rest.map fun v => v.category).sum + (nativeFrameWords "java/lang/System" "arraycopy" 5 + 11) ≤ R.locals) (hdg : decode cc pc = .ok (.invokestatic index, 3))
    (kk : ∀ (H1 : Heap) (locs1 : List Loc), wO D cy X A s.heap (uY S a0 a sp.toNatClampNeg dp.toNatClampNeg n.toNatClampNeg) H1 locs1 → W p l e R s m args below meth c H1 locs1 cells slots Q (F0 m (pc + 3) ls rest)) : W p l e R s m args below meth c H locs cells slots Q (F0 m pc ls (.int n :: .int dp :: .ref a :: .int sp :: .ref a0 :: rest)) := by
  rcases hL0 with h0 | h0
  · exact w_copy (k := 20) F hK hW hml' hlink hnat hstat hini h0 hk0 hL hk (Or.inl rfl) h1 h2 h3 h4 h5 hfit hframes hlocals hdg kk
  · obtain ⟨hx, hb, hml, hown, hts⟩ := F
    have q1 := (hK.2.2.1.1 a0 h0).2.2.2.1 ((hW.2.2.2.2 a0 h0).1.symm.trans hk0)
    rw [← (hW.2.2.2.2 a0 h0).2.1, ← (hW.2.2.2.2 a0 h0).2.2.1] at q1
    have hT : va_T .byte a0 (sN S a0) (fun j => .int (sI S a0 j)) A s s.heap := q1
    obtain ⟨j, hj0⟩ := va_pl_get (X := X) (f := wE cy S) hL
    have hj := hj0
    rw [wE_y hk (Or.inl rfl)] at hj
    refine vk_copyt hx hb hml' hown hlink hnat hstat hini hK.1 hW.1 hW.2.1 hW.2.2.1 hT j 0 hj rfl h1 h2 h3 h4 h5 hfit hframes hlocals hdg (fun H1 locs1 hP1 hD1 hS1 => kk H1 locs1 ?_)
    rw [va_pl_set hW.2.1 hL hj0, va_pl_congr (wE_row (S' := uY S a0 a sp.toNatClampNeg dp.toNatClampNeg n.toNatClampNeg) (a := a) (by rw [wE_y (k := 20) (S := uY S a0 a sp.toNatClampNeg dp.toNatClampNeg n.toNatClampNeg) hk (Or.inl rfl)]; simp [uY, sI, sN, va_up]) wE_oY)] at hP1 hD1
    exact ⟨hP1, hD1, hS1, hW.2.2.2.1, wRO_uY hW.2.2.2.2 (w_noRO hK hW hL)⟩
end WD
