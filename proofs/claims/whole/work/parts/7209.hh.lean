def wF1 : List (Nat × Nat × Nat) := [(18, 0, 0), (1080, 1044, 1044), (414, 378, 378), (1080, 1044, 1044), (486, 450, 450), (36, 0, 0), (1080, 1044, 1044), (378, 360, 360), (1044, 1044, 1044), (36, 18, 0), (36, 0, 0), (990, 954, 954), (846, 810, 810), (36, 0, 0), (766, 748, 730), (782, 782, 782), (0, 36, 0), (270, 288, 252), (1080, 1080, 1062), (1080, 1062, 1044), (36, 18, 0), (0, 0, 0), (954, 972, 918), (1044, 1080, 1044), (0, 54, 0), (894, 930, 894), (1062, 1080, 1044), (1062, 1080, 1044), (348, 366, 294), (1062, 1080, 1044), (0, 36, 0), (0, 54, 0), (264, 318, 264), (1044, 1080, 1026), (6, 24, 0), (1008, 1026, 996), (54, 72, 0), (0, 18, 0), (1026, 1062, 1008), (1026, 1080, 1026), (1044, 1080, 1044), (0, 18, 0), (1008, 1008, 972), (144, 126, 108), (1080, 1062, 1044), (1080, 1080, 1062), (108, 126, 90), (0, 36, 0), (0, 18, 0), (18, 18, 0), (1080, 1062, 1044), (1080, 1044, 1044), (144, 108, 108), (36, 18, 0), (1080, 1080, 1062), (1062, 1080, 1062), (530, 540, 530), (36, 28, 0), (1080, 1054, 1054), (334, 298, 298), (1080, 1044, 1044), (350, 332, 332), (36, 36, 0), (1062, 1080, 1062)]
def lF1 : List (List Nat) := [[0, 1, 2, 3, 4, 5, 6, 7], [8, 9, 10, 11, 12, 13, 14, 15], [16, 17, 18, 19, 20, 21, 22, 23], [24, 25, 26, 27, 28, 29, 30, 31], [32, 33, 34, 35, 36, 37, 38, 39], [40, 41, 42, 43, 44, 45, 46, 47], [48, 49, 50, 51, 52, 53, 54, 55], [56, 57, 58, 59, 60, 61, 62, 63]]
def wF8 : List (Nat × Nat × Nat) := [(540, 540, 540), (1044, 1062, 1044), (1044, 1080, 1044), (486, 522, 486), (1044, 1080, 1044), (324, 360, 324), (892, 910, 892), (180, 180, 180), (36, 18, 0), (1044, 1044, 1026), (378, 396, 378), (90, 108, 54), (216, 234, 180), (0, 18, 0), (314, 314, 296), (1080, 1062, 1044), (1062, 1026, 1026), (36, 18, 0), (36, 36, 0), (900, 900, 900), (1026, 1026, 1026), (1044, 1044, 990), (1080, 1062, 1044), (36, 0, 0), (1080, 1044, 1044), (168, 132, 132), (1044, 1026, 1008), (36, 36, 0), (1080, 1080, 1044), (260, 242, 242), (1080, 1044, 1044), (1080, 1044, 1044), (798, 762, 762), (36, 0, 0), (36, 18, 0), (1080, 1080, 1062), (18, 18, 0), (1080, 1062, 1062), (36, 0, 0), (1080, 1044, 1044), (36, 0, 0), (1080, 1050, 1044), (1080, 1080, 1080), (810, 828, 810), (0, 18, 0), (1008, 1008, 990), (1080, 1062, 1044), (504, 468, 468), (984, 966, 948), (30, 18, 0), (424, 442, 388), (1044, 1080, 1008), (36, 72, 0), (36, 54, 0), (18, 18, 0), (252, 234, 216), (0, 0, 0), (1074, 1080, 1074), (422, 458, 422), (0, 54, 0), (1026, 1080, 1026), (712, 748, 712), (0, 18, 0), (324, 324, 324)]
def lF8 : List (List Nat) := [[0, 8, 16, 24, 32, 40, 48, 56], [1, 9, 17, 25, 33, 41, 49, 57], [2, 10, 18, 26, 34, 42, 50, 58], [3, 11, 19, 27, 35, 43, 51, 59], [4, 12, 20, 28, 36, 44, 52, 60], [5, 13, 21, 29, 37, 45, 53, 61], [6, 14, 22, 30, 38, 46, 54, 62], [7, 15, 23, 31, 39, 47, 55, 63]]
def wF9 : List (Nat × Nat × Nat) := [(1044, 1080, 1044), (0, 36, 0), (108, 144, 108), (558, 576, 558), (0, 18, 0), (720, 720, 720), (18, 18, 18), (540, 540, 540), (0, 18, 0), (1062, 1080, 1062), (1062, 1080, 1062), (1062, 1080, 1062), (36, 36, 0), (1062, 1062, 1026), (18, 18, 0), (1080, 1080, 1062), (0, 18, 0), (774, 774, 756), (1026, 1026, 990), (36, 36, 0), (1062, 1080, 1026), (1080, 1080, 1080), (108, 108, 90), (918, 918, 900), (594, 612, 594), (18, 18, 0), (36, 18, 0), (36, 18, 0), (1080, 1080, 1062), (36, 54, 0), (36, 36, 0), (1044, 1044, 1044), (0, 0, 0), (1062, 1062, 1044), (1080, 1080, 1062), (36, 18, 0), (1080, 1062, 1044), (54, 54, 0), (0, 18, 0), (1062, 1080, 1062), (0, 0, 0), (560, 560, 524), (36, 36, 0), (126, 126, 72), (1026, 1026, 990), (36, 36, 0), (900, 918, 900), (1044, 1080, 1044), (1080, 1080, 1062), (1044, 1044, 1008), (638, 638, 620), (1080, 1080, 1062), (1062, 1080, 1062), (990, 1008, 990), (0, 18, 0), (756, 792, 756), (540, 540, 540), (18, 18, 34), (612, 612, 612), (1016, 1034, 1034), (0, 18, 0), (1044, 1080, 1044), (1044, 1080, 1044), (180, 216, 180)]
def lF9 : List (List Nat) := [[0, 9, 18, 27, 36, 45, 54, 63], [1, 10, 19, 28, 37, 46, 55], [2, 11, 20, 29, 38, 47], [3, 12, 21, 30, 39], [4, 13, 22, 31], [5, 14, 23], [6, 15], [7], [8, 17, 26, 35, 44, 53, 62], [16, 25, 34, 43, 52, 61], [24, 33, 42, 51, 60], [32, 41, 50, 59], [40, 49, 58], [48, 57], [56]]
def wF7 : List (Nat × Nat × Nat) := [(540, 540, 540), (18, 18, 18), (558, 558, 558), (0, 18, 0), (594, 612, 594), (1044, 1080, 1044), (152, 188, 152), (1044, 1080, 1044), (1080, 1080, 1062), (18, 18, 0), (684, 684, 648), (18, 18, 0), (1062, 1080, 1062), (1062, 1080, 1062), (1062, 1080, 1062), (0, 18, 0), (1080, 1080, 1062), (1080, 1080, 1062), (18, 18, 0), (144, 162, 90), (36, 36, 0), (36, 36, 0), (18, 18, 0), (144, 162, 144), (450, 450, 450), (1080, 1080, 1044), (18, 36, 0), (1026, 1026, 990), (144, 126, 108), (802, 784, 766), (1044, 1044, 1026), (0, 18, 0), (1062, 1080, 1062), (0, 18, 0), (1038, 1038, 1002), (36, 18, 0), (1008, 990, 990), (1026, 1026, 1008), (1080, 1080, 1062), (1080, 1080, 1080), (1044, 1080, 1044), (514, 532, 514), (36, 36, 0), (1080, 1080, 1026), (54, 54, 0), (36, 36, 0), (54, 54, 18), (576, 576, 576), (60, 96, 60), (1062, 1080, 1062), (0, 18, 0), (1062, 1080, 1062), (900, 900, 882), (1080, 1080, 1062), (1080, 1080, 1044), (54, 54, 36), (1044, 1080, 1044), (998, 1034, 998), (0, 36, 0), (756, 774, 756), (0, 18, 18), (0, 0, 0), (1044, 1044, 1080), (540, 540, 540)]
def lF7 : List (List Nat) := [[0], [1, 8], [2, 9, 16], [3, 10, 17, 24], [4, 11, 18, 25, 32], [5, 12, 19, 26, 33, 40], [6, 13, 20, 27, 34, 41, 48], [7, 14, 21, 28, 35, 42, 49, 56], [15, 22, 29, 36, 43, 50, 57], [23, 30, 37, 44, 51, 58], [31, 38, 45, 52, 59], [39, 46, 53, 60], [47, 54, 61], [55, 62], [63]]
def bFNT : List (Nat × Nat) := [(644, 18), (640, 18), (709, 18), (855, 18), (839, 18), (1090, 18), (1155, 18), (1153, 18), (1218, 18), (1285, 18), (1283, 18), (1375, 18), (1350, 18), (1348, 18), (1640, 18), (1680, 18), (1696, 18), (1761, 18), (1902, 18), (1895, 18), (1967, 18), (2160, 18), (2227, 6), (2200, 18), (2216, 18), (2225, 6), (2292, 18), (2281, 6), (2290, 18), (2357, 18), (2422, 18), (2415, 18), (2399, 18), (2487, 18), (2675, 12), (2648, 18), (2720, 18), (2736, 18), (2854, 18), (2935, 18), (2919, 18)]
def bFAT : List (Nat × Nat) := [(3128, 46), (3193, 34), (3258, 46), (3323, 54), (3388, 54), (3453, 54), (3518, 54), (3583, 54)]
def bFDT : List (Nat × Nat) := [(3129, 8), (3192, 46), (3194, 46), (3257, 26), (3259, 36), (3324, 54), (3387, 18), (3389, 36), (3454, 54), (3517, 18), (3519, 54)]
def dFT : List Nat := [0, 0, 0, 0, 0, 0, 0, 0, 0, 0, 0, 0, 0, 0, 0, 782, 0, 0, 0, 0, 0, 0, 0, 0, 0, 0, 0, 0, 492, 0, 0, 0, 0, 0, 0, 0, 0, 0, 0, 2124, 0, 0, 0, 0, 0, 0, 0, 0, 0, 0, 0, 2124, 0, 0, 36, 0, 0, 0, 0, 0, 0, 0, 18, 0]
def sm (f : Nat → Nat) : Nat → Nat
  | 0 => 0
  | n + 1 => sm f n + f n
theorem sm_le {f g : Nat → Nat} : ∀ {n : Nat}, (∀ i, i < n → f i ≤ g i) → sm f n ≤ sm g n
  | 0, _ => Nat.le_refl _
  | n + 1, h => by
    have h1 := sm_le (n := n) (fun i z => h i (by omega))
    have h2 := h n (by omega)
    unfold sm; omega
theorem sm_add (f g : Nat → Nat) : ∀ n, sm (fun i => f i + g i) n = sm f n + sm g n
  | 0 => rfl
  | n + 1 => by unfold sm; rw [sm_add f g n]; omega
theorem sm_mul (k : Nat) (f : Nat → Nat) : ∀ n, sm (fun i => k * f i) n = k * sm f n
  | 0 => rfl
  | n + 1 => by unfold sm; rw [sm_mul k f n, Nat.mul_add]
theorem sm_zero : ∀ n, sm (fun _ => 0) n = 0
  | 0 => rfl
  | n + 1 => by unfold sm; rw [sm_zero n]
theorem sm_swap (f : Nat → Nat → Nat) (k : Nat) : ∀ n, sm (fun i => sm (fun j => f i j) k) n = sm (fun j => sm (fun i => f i j) n) k
  | 0 => by show 0 = sm (fun _ => 0) k; rw [sm_zero]
  | n + 1 => by
    show sm (fun i => sm (fun j => f i j) k) n + sm (fun j => f n j) k = sm (fun j => sm (fun i => f i j) n + f n j) k
    rw [sm_swap f k n, sm_add]
/-- the prefix of squares that a slider can go to -/
def pre (τ : Nat → Nat) : List Nat → Nat
  | [] => 0
  | x :: c => if τ x ≤ 1 then pre τ c + 1 else 0
def gH (τ : Nat → Nat) : List Nat → List Nat → Nat
  | _, [] => 0
  | l, x :: c => (if τ x = 2 then pre τ c + pre τ l else 0) + gH τ (x :: l) c
def gV (τ : Nat → Nat) : Nat → Bool → List Nat → Nat
  | _, _, [] => 0
  | k, q, x :: c => if τ x ≤ 1 then (if q then 1 else 0) + gV τ (k + 1) q c else if τ x = 2 then k + gV τ 0 true c else gV τ 0 false c
theorem gH_gV (τ : Nat → Nat) : ∀ (c l : List Nat) (q : Bool), gH τ l c + (if q then pre τ c else 0) = gV τ (pre τ l) q c
  | [], l, q => by cases q <;> rfl
  | x :: c, l, q => by
    have i1 := gH_gV τ c (x :: l) q
    have i2 := gH_gV τ c (x :: l) true
    have i3 := gH_gV τ c (x :: l) false
    simp only [gH, gV, pre] at i1 i2 i3 ⊢
    by_cases h1 : τ x ≤ 1
    · have : ¬ τ x = 2 := by omega
      simp only [h1, this, if_true, if_false, ite_true, ite_false] at i1 ⊢
      cases q <;> simp at i1 ⊢ <;> omega
    · by_cases h2 : τ x = 2
      · have : ¬ (2 : Nat) ≤ 1 := by omega
        simp [h2] at i1 i2 i3 ⊢
        omega
      · simp [h1, h2] at i1 i2 i3 ⊢
        exact i3
def w3 (w : Nat × Nat × Nat) (t : Nat) : Nat := if t ≤ 1 then w.1 else if t = 2 then w.2.1 else w.2.2
/-- the check of a line: every pattern of pieces -/
def gC : List (Nat × Nat × Nat) → Nat → Nat → Nat → Bool → Bool
  | [], n, h, _, _ => Nat.ble n h
  | w :: ws, n, h, k, q => gC ws (n + cond q 18 0) (h + w.1) (k + 1) q && (gC ws (n + 18 * k) (h + w.2.1) 0 true && gC ws n (h + w.2.2) 0 false)
def wS3 (τ : Nat → Nat) (W : Nat → Nat × Nat × Nat) : List Nat → Nat
  | [] => 0
  | x :: c => w3 (W x) (τ x) + wS3 τ W c
theorem gC_ok (τ : Nat → Nat) (W : Nat → Nat × Nat × Nat) : ∀ (c : List Nat) (n h k : Nat) (q : Bool), gC (c.map W) n h k q = true → n + 18 * gV τ k q c ≤ h + wS3 τ W c
  | [], n, h, k, q, e => by simp only [List.map_nil, gC] at e; simp only [gV, wS3]; exact Nat.le_of_ble_eq_true e
  | x :: c, n, h, k, q, e => by
    simp only [List.map_cons, gC, Bool.and_eq_true] at e
    obtain ⟨e1, e2, e3⟩ := e
    have i1 := gC_ok τ W c _ _ _ _ e1
    have i2 := gC_ok τ W c _ _ _ _ e2
    have i3 := gC_ok τ W c _ _ _ _ e3
    simp only [gV, wS3, w3]
    by_cases h1 : τ x ≤ 1
    · simp only [h1, if_true]
      cases q <;> simp at i1 ⊢ <;> omega
    · by_cases h2 : τ x = 2
      · simp [h2] at i2 ⊢; omega
      · simp [h1, h2] at i3 ⊢; omega
/-- the squares from s in a direction, to the border of 8 x 8 -/
def ray8 (x y dx dy : Int) : Nat → List Nat
  | 0 => []
  | n + 1 => if 0 ≤ x + dx ∧ x + dx < 8 ∧ 0 ≤ y + dy ∧ y + dy < 8 then (8 * (y + dy) + (x + dx)).toNat :: ray8 (x + dx) (y + dy) dx dy n else []
def rayF (s : Nat) (dx dy : Int) : List Nat := ray8 ((s % 8 : Nat) : Int) ((s / 8 : Nat) : Int) dx dy 8
def lineOK (dx dy : Int) : List Nat → List Nat → Bool
  | _, [] => true
  | l, x :: c => rayF x dx dy == c && (rayF x (-dx) (-dy) == l && lineOK dx dy (x :: l) c)
def smL (f : Nat → Nat) : List Nat → Nat
  | [] => 0
  | x :: c => f x + smL f c
theorem smL_gH (τ : Nat → Nat) (dx dy : Int) : ∀ (c l : List Nat), lineOK dx dy l c = true → smL (fun s => if τ s = 2 then pre τ (rayF s dx dy) + pre τ (rayF s (-dx) (-dy)) else 0) c = gH τ l c
  | [], l, _ => rfl
  | x :: c, l, e => by
    simp only [lineOK, Bool.and_eq_true, beq_iff_eq] at e
    obtain ⟨e1, e2, e3⟩ := e
    simp only [smL, gH]
    rw [smL_gH τ dx dy c _ e3, e1, e2]
theorem smL_w (τ : Nat → Nat) (W : Nat → Nat × Nat × Nat) : ∀ c, wS3 τ W c = smL (fun s => w3 (W s) (τ s)) c
  | [] => rfl
  | x :: c => by simp only [wS3, smL]; rw [smL_w τ W c]
def smLL (f : Nat → Nat) : List (List Nat) → Nat
  | [] => 0
  | l :: L => smL f l + smLL f L
theorem smL_app (f : Nat → Nat) : ∀ a b, smL f (a ++ b) = smL f a + smL f b
  | [], b => by simp [smL]
  | x :: a, b => by simp only [List.cons_append, smL]; rw [smL_app f a b]; omega
theorem smLL_flat (f : Nat → Nat) : ∀ L, smLL f L = smL f L.flatten
  | [] => rfl
  | l :: L => by simp only [smLL, List.flatten_cons]; rw [smL_app, smLL_flat f L]
theorem smL_perm (f : Nat → Nat) {a b : List Nat} (h : a.Perm b) : smL f a = smL f b := by
  induction h with
  | nil => rfl
  | cons x _ ih => simp only [smL, ih]
  | swap x y l => simp only [smL]; omega
  | trans _ _ i1 i2 => exact i1.trans i2
theorem smL_range (f : Nat → Nat) : ∀ n, smL f (List.range n) = sm f n
  | 0 => rfl
  | n + 1 => by rw [List.range_succ, smL_app, smL_range f n]; simp [smL, sm]
/-- all lines of a direction -/
def dirOK (dx dy : Int) (W : Nat → Nat × Nat × Nat) (L : List (List Nat)) : Bool :=
  L.all fun l => lineOK dx dy [] l && gC (l.map W) (540 * l.length) 0 0 false
theorem dir_bound (τ : Nat → Nat) (dx dy : Int) (W : Nat → Nat × Nat × Nat) : ∀ (L : List (List Nat)), dirOK dx dy W L = true →
    540 * L.flatten.length + 18 * smLL (fun s => if τ s = 2 then pre τ (rayF s dx dy) + pre τ (rayF s (-dx) (-dy)) else 0) L ≤ smLL (fun s => w3 (W s) (τ s)) L
  | [], _ => by simp [smLL]
  | l :: L, e => by
    simp only [dirOK, List.all_cons, Bool.and_eq_true] at e
    obtain ⟨⟨e1, e2⟩, e3⟩ := e
    have i := dir_bound τ dx dy W L e3
    have g := gC_ok τ W l _ _ _ _ e2
    have s1 := smL_gH τ dx dy l [] e1
    have s2 := gH_gV τ l [] false
    rw [smL_w] at g
    simp only [smLL, List.flatten_cons, List.length_append, s1]
    simp [pre] at s2
    omega
def wF (T : List (Nat × Nat × Nat)) (s : Nat) : Nat × Nat × Nat := T.getD s (0, 0, 0)
theorem dir_64 (τ : Nat → Nat) (dx dy : Int) (W : Nat → Nat × Nat × Nat) (L : List (List Nat)) (h1 : dirOK dx dy W L = true) (h2 : L.flatten.Perm (List.range 64)) :
    540 * 64 + 18 * sm (fun s => if τ s = 2 then pre τ (rayF s dx dy) + pre τ (rayF s (-dx) (-dy)) else 0) 64 ≤ sm (fun s => w3 (W s) (τ s)) 64 := by
  have b := dir_bound τ dx dy W L h1
  rw [smLL_flat, smLL_flat, smL_perm _ h2, smL_perm _ h2, smL_range, smL_range, h2.length_eq, List.length_range] at b
  exact b
theorem dir_1 : dirOK 1 0 (wF wF1) lF1 = true := by decide +kernel
theorem dir_8 : dirOK 0 1 (wF wF8) lF8 = true := by decide +kernel
theorem dir_9 : dirOK 1 1 (wF wF9) lF9 = true := by decide +kernel
theorem dir_7 : dirOK (-1) 1 (wF wF7) lF7 = true := by decide +kernel
theorem per_1 : lF1.flatten.Perm (List.range 64) := by decide +kernel
theorem per_8 : lF8.flatten.Perm (List.range 64) := by decide +kernel
theorem per_9 : lF9.flatten.Perm (List.range 64) := by decide +kernel
theorem per_7 : lF7.flatten.Perm (List.range 64) := by decide +kernel
