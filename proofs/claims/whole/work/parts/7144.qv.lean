/-! texts of moves: what is read -/
def brkB (c : Int) : Bool := decide (c = 40) || decide (c = 41) || decide (c = 123) || decide (c = 125)
def digB (c : Int) : Bool := decide (48 ≤ c) && decide (c ≤ 57)
/-- where a word ends: at a blank, a bracket or the end of the text -/
def wEnd (t : Int → Int) (len : Int) : Nat → Int → Int
  | 0, a => a
  | n + 1, a => if len ≤ a ∨ t a = 32 ∨ brkB (t a) = true then a else wEnd t len n (a + 1)
/-- where a note's closing bracket stands; the end of the text if there is none -/
def nEnd (t : Int → Int) (len : Int) : Nat → Int → Int
  | 0, a => a
  | n + 1, a => if len ≤ a ∨ t a = 125 then a else nEnd t len n (a + 1)
/-- how many digits, and how many dots, stand from a place on -/
def dgN (t : Int → Int) (e : Int) : Nat → Int → Int
  | 0, _ => 0
  | n + 1, a => if a < e ∧ digB (t a) = true then 1 + dgN t e n (a + 1) else 0
def dtN (t : Int → Int) (e : Int) : Nat → Int → Int
  | 0, _ => 0
  | n + 1, a => if a < e ∧ t a = 46 then 1 + dtN t e n (a + 1) else 0
def numB (t : Int → Int) (a e : Int) : Bool :=
  (decide (1 ≤ dgN t e (e - a).toNat a) && decide (dgN t e (e - a).toNat a ≤ 3)) && (decide (dtN t e (e - (a + dgN t e (e - a).toNat a)).toNat (a + dgN t e (e - a).toNat a) = 1) || decide (dtN t e (e - (a + dgN t e (e - a).toNat a)).toNat (a + dgN t e (e - a).toNat a) = 3)) &&
    decide (a + dgN t e (e - a).toNat a + dtN t e (e - (a + dgN t e (e - a).toNat a)).toNat (a + dgN t e (e - a).toNat a) = e)
def halfB (t : Int → Int) (a : Int) : Bool := decide (t a = 49) && decide (t (a + 1) = 47) && decide (t (a + 2) = 50)
def resB (t : Int → Int) (a e : Int) : Bool :=
  if e - a = 1 then decide (t a = 42)
  else if e - a = 3 then decide (t (a + 1) = 45) && ((decide (t a = 49) && decide (t (a + 2) = 48)) || (decide (t a = 48) && decide (t (a + 2) = 49)))
  else if e - a = 7 then halfB t a && decide (t (a + 3) = 45) && halfB t (a + 4)
  else false
/-- whether a word is the letters of a move -/
def letsB (t : Int → Int) (a e : Int) (W : List Int) (z : Int) : Bool :=
  (decide (e - a = W.length) || decide (e - a = W.length + 1)) && allL (fun k => decide (W.getD k.toNat 0 = t (a + k))) 0 W.length && (decide (e - a = W.length) || decide (z = t (a + W.length)))
def namB (F R : Int) (v : Int → Int) (t : Int → Int) (a e k : Int) : Nat → Int
  | 0 => -1
  | d + 1 => if letsB t a e (sanA F v (movesL F R v) ((movesL F R v).getD k.toNat (0, 0, 0))) (endC F R (mkT F R v ((movesL F R v).getD k.toNat (0, 0, 0)))) = true then k else namB F R v t a e (k + 1) d
/-- depth, next positions, positions ahead, lengths, the line, moves aside, behind a number, behind a result -/
abbrev RD : Type := Int × (Int → Int → Int) × (Int → Int → Int) × (Int → Int) × List Mv × Int × Bool × Bool
def setR {α : Type} (f : Int → α) (d : Int) (v : α) : Int → α := fun j => if j = d then v else f j
def wordS (F R made : Int) (t : Int → Int) (a e : Int) (s : RD) : Option RD :=
  if s.2.2.2.2.2.2.2 = true then none
  else if numB t a e = true then (if s.2.2.2.2.2.2.1 = true then none else some (s.1, s.2.1, s.2.2.1, s.2.2.2.1, s.2.2.2.2.1, s.2.2.2.2.2.1, true, false))
  else if resB t a e = true then (if s.1 = 0 ∧ s.2.2.2.2.2.2.1 = false then some (s.1, s.2.1, s.2.2.1, s.2.2.2.1, s.2.2.2.2.1, s.2.2.2.2.2.1, false, true) else none)
  else if s.1 = 0 ∧ 80 ≤ made + s.2.2.2.1 0 then none
  else if namB F R (s.2.1 s.1) t a e 0 (movesL F R (s.2.1 s.1)).length = -1 then none
  else some (s.1, setR s.2.1 s.1 (mkT F R (s.2.1 s.1) ((movesL F R (s.2.1 s.1)).getD (namB F R (s.2.1 s.1) t a e 0 (movesL F R (s.2.1 s.1)).length).toNat (0, 0, 0))), setR s.2.2.1 s.1 (s.2.1 s.1), setR s.2.2.2.1 s.1 (s.2.2.2.1 s.1 + 1),
    (if s.1 = 0 then s.2.2.2.2.1 ++ [(movesL F R (s.2.1 s.1)).getD (namB F R (s.2.1 s.1) t a e 0 (movesL F R (s.2.1 s.1)).length).toNat (0, 0, 0)] else s.2.2.2.2.1), (if s.1 = 0 then s.2.2.2.2.2.1 else s.2.2.2.2.2.1 + 1), false, false)
def brkS (c : Int) (s : RD) : Option RD :=
  if s.2.2.2.2.2.2.2 = true ∨ s.2.2.2.2.2.2.1 = true ∨ s.2.2.2.1 s.1 = 0 ∨ c = 125 then none
  else if c = 41 then (if s.1 = 0 then none else some (s.1 - 1, s.2))
  else if c = 40 then (if s.1 < 4 then some (s.1 + 1, setR s.2.1 (s.1 + 1) (s.2.2.1 s.1), s.2.2.1, setR s.2.2.2.1 (s.1 + 1) 0, s.2.2.2.2) else none)
  else some s
/-- the fault of a text (-1: none) and what was read -/
def rdM (F R made : Int) (t : Int → Int) (len : Int) : Nat → Int → RD → Int × RD
  | 0, a, s => (-1, s)
  | n + 1, a, s =>
    if len ≤ a then (if 0 < s.1 ∨ s.2.2.2.2.2.2.1 = true then len else -1, s)
    else if t a = 32 then rdM F R made t len n (a + 1) s
    else if brkB (t a) = true then (match brkS (t a) s with
      | none => (a, s)
      | some s1 => if t a = 123 then (if nEnd t len 501 (a + 1) = len then (len, s1) else rdM F R made t len n (nEnd t len 501 (a + 1) + 1) s1) else rdM F R made t len n (a + 1) s1)
    else (match wordS F R made t a (wEnd t len 501 (a + 1)) s with
      | none => (a, s)
      | some s1 => rdM F R made t len n (wEnd t len 501 (a + 1)) s1)
def rd0 (v : Int → Int) : RD := (0, fun _ => v, fun _ => v, fun _ => 0, [], 0, false, false)
