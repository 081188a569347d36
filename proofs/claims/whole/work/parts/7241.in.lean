/-! PHASE 5: the relation of the two sides -/
/-- the cells of a shelf's games -/
def gmC (e : SDt) : List Nat := (List.range e.1.length).flatMap fun g => [e.1.getD g 0, (e.2.2.2.2.2.2 (g : Int)).1, (e.2.2.2.2.2.2 (g : Int)).2.1, (e.2.2.2.2.2.2 (g : Int)).2.2]
/-- the shelves' rows, but for the one that all empty lists share -/
def ylC (D : wD) (yl : Int → Nat) : List Nat := (if yl 0 = D.2.2.1 106 then [] else [yl 0]) ++ (if yl 1 = D.2.2.1 106 then [] else [yl 1])
/-- all cells of both sides that are written to -/
def ownL (D : wD) (o : Nat → Nat) (x : Nat) (A : Nat → Nat) (yb : Nat → Nat) (yl : Int → Nat) (d : Int → SDt) (ye lw : List Nat) : List Nat :=
  (List.range 52).map o ++ (xCs x A ++ ([yb 29, yb 49, yb 50] ++ (ylC D yl ++ (gmC (d 0) ++ (gmC (d 1) ++ (ye ++ lw))))))
abbrev HPo (D : wD) (U : wS) (l : List Nat) : Prop := l.Nodup ∧ ∀ a ∈ l, a ∈ sL U ∧ a ∉ D.2.1
/-- a solved ending's table -/
def T0 (F N kd : Int) : Int → Int := tabE F N kd (fun _ => 0)
/-- a game by the rules -/
abbrev GMo (F R : Int) (n : Int) (w : Int → Int → Int) (mv : Int → Mv) : Prop := (∀ k : Int, 0 ≤ k → k < n → PV F R (w k) ∧ okMv F R (w k) (mv k) ∧ w (k + 1) = mkT F R (w k) (mv k)) ∧ ∀ k : Int, 0 ≤ k → k ≤ n → clV (w k) ∧ okV F R (w k)
/-- texts -/
abbrev TXo (D : wD) (U : wS) (o : Nat → Nat) (yb : Nat → Nat) (L W : List Int) : Prop := (SB U (o 49) (yb 49) L ∧ SB U (o 50) (yb 50) W ∧ ∃ Z, SB U (o 29) (yb 29) Z) ∧ (L.length ≤ 500 ∧ W.length ≤ 128 ∧ (∀ z ∈ L, 32 ≤ z ∧ z ≤ 126) ∧ ∀ z ∈ W, 0 ≤ z ∧ z ≤ 127) ∧
  ∀ r, (r = 29 ∨ r = 49 ∨ r = 50) → 16 ≤ sN U (yb r) ∧ sN U (yb r) ≤ 1002
/-- what is told of a shelf's games -/
abbrev INo (e : SDt) (q : Int) : Prop := ∀ g : Int, 0 ≤ g → g < e.1.length → (0 ≤ e.2.2.2.2.2.1 g 4 ∧ e.2.2.2.2.2.1 g 4 ≤ 2) ∧ (1800 ≤ e.2.2.2.2.2.1 g 5 ∧ e.2.2.2.2.2.1 g 5 ≤ 2100) ∧ (0 ≤ e.2.2.2.2.2.1 g 6 ∧ e.2.2.2.2.2.1 g 6 ≤ 3500) ∧ (0 ≤ e.2.2.2.2.2.1 g 7 ∧ e.2.2.2.2.2.1 g 7 ≤ 4) ∧ 0 ≤ e.2.2.2.2.2.1 g 8 ∧ e.2.2.2.2.2.1 g 8 ≤ q + 20
/-- the endings' rows -/
abbrev ERo (D : wD) (U : wS) (o : Nat → Nat) (c : cM) (F R : Int) (ye : List Nat) (q : Int) : Prop := SLV c ∧ ((ye = [] ∧ ENo D U o ∧ ∀ k : Int, 2 ≤ k → k ≤ 5 → c.1 46 k = 0) ∨
  ∃ y, ye = [y 0, y 1, y 2] ∧ EC D U o y ∧ EB (e0S U y, 0) 40000 (800000 * q) ∧ ∀ kd : Int, 2 ≤ kd → kd ≤ 5 → c.1 46 kd = 1 → F * R ≤ 25 ∧ (∀ i, VIx (F * R) i → valE kd (e0S U y) i = T0 F (F * R) kd (31250 * (kd - 2) + swI i)) ∧ c.1 47 kd = wonN kd (T0 F (F * R) kd) ∧ c.1 48 kd = lngL kd (T0 F (F * R) kd) (-1) 0 31250)
/-- THE CLASS'S SIDE, behind q calls -/
def CLo (D : wD) (U : wS) (o : Nat → Nat) (c : cM) (F R : Int) (v : Int → Int) (n : Int) (w : Int → Int → Int) (mv : Int → Mv) (L W : List Int) (yb : Nat → Nat) (yl : Int → Nat) (d : Int → SDt) (ye : List Nat) (q : Int) : Prop :=
  (NOW c F R v ∧ PG c n w mv ∧ w n = v ∧ GMo F R n w mv) ∧ TXo D U o yb L W ∧ (∀ s : Int, (s = 0 ∨ s = 1) → SHD D U (o (slO s)) (yl s) (d s) ∧ gdD F R (d s) ∧ INo (d s) q) ∧
  ((∀ k : Int, 0 ≤ k → k < 64 → 0 ≤ c.1 51 k ∧ c.1 51 k ≤ 15) ∧ i32 (c.1 0 16) ∧ 0 ≤ c.1 0 17 ∧ c.1 0 17 ≤ q) ∧ ERo D U o c F R ye q
/-- the ranges of the reference's rows -/
def XRo (m : xM) (F R : Int) : Prop := RG m F R ∧ SG m F R ∧ MG m ∧ (∀ k, 0 ≤ k → k < 500 → 0 ≤ m 12 k ∧ m 12 k ≤ 255) ∧ (∀ k, 0 ≤ k → k < 80 → (0 ≤ m 36 k ∧ m 36 k ≤ 3500) ∧ (0 ≤ m 37 k ∧ m 37 k ≤ 4) ∧ i32 (m 38 k)) ∧ EO (m 41) ∧ (∀ k, 0 ≤ k → k < 6 → m 42 k = 0 ∨ m 42 k = 1) ∧ (∀ k, 0 ≤ k → k < 80 → (0 ≤ m 10 k ∧ m 10 k ≤ 1) ∧ i32 (m 9 k)) ∧ (∀ k, 0 ≤ k → k < 128 → 0 ≤ m 14 k ∧ m 14 k ≤ 255) ∧ m 42 0 = 0 ∧ m 42 1 = 0
/-- BOTH SIDES HOLD THE SAME -/
def LKo (m : xM) (c : cM) (F R : Int) (n : Int) (w : Int → Int → Int) (mv : Int → Mv) (L W : List Int) (d : Int → SDt) (ye : List Nat) (ε : Bool) : Prop :=
  (m 50 1 = F ∧ m 50 2 = R ∧ (ε = true → ye ≠ [])) ∧ (m 50 11 = n ∧ (∀ k : Int, 0 ≤ k → k ≤ n → gv m k = w k) ∧ (∀ k : Int, 0 ≤ k → k < n → m 9 k = codeT (mv k)) ∧ ∀ k : Int, 0 ≤ k → k < n → (quietC w mv k = true ↔ m 10 k = 0)) ∧
  (m 50 13 = L.length ∧ ∀ k : Int, 0 ≤ k → k < L.length → m 12 k = tx L k) ∧ (m 50 15 = W.length ∧ ∀ k : Int, 0 ≤ k → k < W.length → m 14 k = tx W k) ∧
  (m 50 16 = c.1 0 16 ∧ m 50 39 = c.1 0 17 ∧ ∀ k : Int, 0 ≤ k → k < 64 → m 40 k = c.1 51 k) ∧ (shD m 0 (d 0) ∧ shD m 1 (d 1)) ∧
  (∀ kd : Int, 2 ≤ kd → kd ≤ 5 → m 42 kd = c.1 46 kd) ∧ ∀ kd : Int, 2 ≤ kd → kd ≤ 5 → m 42 kd = 1 → ∀ i, 31250 * (kd - 2) ≤ i → i < 31250 * (kd - 2) + 31250 → m 41 i = T0 F (F * R) kd i
/-- the law's own rows have one place -/
abbrev LWo (D : wD) (U : wS) (lw : List Nat) : Prop := ∀ a ∈ lw, wM D U a ∧ sN U a = 1
/-- the relation, behind q calls; lw: the law's own two rows; ε: the endings' rows are there -/
def RELo (D : wD) (U : wS) (o : Nat → Nat) (x : Nat) (A : Nat → Nat) (lw : List Nat) (q : Int) (ε : Bool) : Prop :=
  ∃ (c : cM) (m : xM) (F R : Int) (v : Int → Int) (n : Int) (w : Int → Int → Int) (mv : Int → Mv) (L W : List Int) (yb : Nat → Nat) (yl : Int → Nat) (d : Int → SDt) (ye : List Nat),
    BF D U o c x A m ∧ (CST D U ∧ LWo D U lw) ∧ HPo D U (ownL D o x A yb yl d ye lw) ∧ CLo D U o c F R v n w mv L W yb yl d ye q ∧ XRo m F R ∧ LKo m c F R n w mv L W d ye ε
