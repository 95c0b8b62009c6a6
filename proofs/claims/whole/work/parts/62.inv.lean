/-! what stays between calls, and how the class's picture and the reference's belong together -/
def rfT : List (Nat × Nat × Nat) := [(0, 0, 1), (0, 1, 10), (0, 8, 41), (0, 10, 87), (0, 11, 93), (0, 12, 97), (0, 13, 98), (0, 15, 99), (0, 16, 102), (0, 17, 109), (0, 18, 111), (1, 0, 2), (2, 0, 3), (1, 1, 4), (4, 0, 5), (1, 2, 6), (6, 0, 7), (1, 3, 8), (8, 0, 9), (11, 5, 12), (11, 6, 13), (11, 7, 14), (11, 8, 15), (11, 9, 16), (11, 10, 17), (11, 11, 19), (11, 12, 25), (17, 0, 18), (19, 2, 20), (19, 3, 21), (19, 4, 22), (19, 5, 23), (19, 6, 24), (26, 5, 27), (26, 6, 28), (26, 7, 29), (26, 8, 30), (26, 9, 31), (26, 10, 32), (26, 11, 34), (26, 12, 40), (32, 0, 33), (34, 2, 35), (34, 3, 36), (34, 4, 37), (34, 5, 38), (34, 6, 39), (42, 5, 43), (42, 6, 44), (42, 7, 45), (42, 8, 46), (42, 9, 47), (42, 10, 48), (42, 11, 50), (42, 12, 56), (48, 0, 49), (50, 2, 51), (50, 3, 52), (50, 4, 53), (50, 5, 54), (50, 6, 55), (57, 5, 58), (57, 6, 59), (57, 7, 60), (57, 8, 61), (57, 9, 62), (57, 10, 63), (57, 11, 65), (57, 12, 71), (63, 0, 64), (65, 2, 66), (65, 3, 67), (65, 4, 68), (65, 5, 69), (65, 6, 70), (72, 5, 73), (72, 6, 74), (72, 7, 75), (72, 8, 76), (72, 9, 77), (72, 10, 78), (72, 11, 80), (72, 12, 86), (78, 0, 79), (80, 2, 81), (80, 3, 82), (80, 4, 83), (80, 5, 84), (80, 6, 85), (41, 0, 42), (41, 1, 57), (41, 2, 72), (87, 2, 88), (87, 3, 89), (87, 4, 90), (87, 5, 91), (87, 6, 92), (93, 2, 94), (93, 9, 96), (94, 10, 95), (99, 0, 100), (99, 1, 101), (102, 1, 103), (102, 4, 104), (102, 5, 105), (102, 6, 106), (102, 7, 107), (102, 8, 108), (109, 0, 110), (111, 2, 112), (111, 3, 113), (114, 0, 115), (114, 1, 116), (114, 5, 117), (114, 6, 118), (114, 7, 119), (114, 8, 120), (114, 9, 121), (114, 21, 122), (114, 24, 123), (114, 25, 124), (114, 28, 125), (114, 29, 126), (114, 30, 127), (114, 31, 128), (114, 32, 129), (114, 34, 130), (114, 35, 131), (114, 36, 132), (114, 37, 133), (114, 38, 134), (114, 40, 135), (114, 41, 136), (114, 42, 137), (114, 43, 138), (114, 44, 139), (114, 47, 140), (114, 48, 141), (114, 49, 142)]
def RefsOk (R : Nat → Nat → Option Nat) : Prop := ∀ q ∈ rfT, R q.1 q.2.1 = some q.2.2
def aw_wI (S : aw_S) (k : Nat) (g : Nat → Int32) : aw_S := (va_up S.1 k g, S.2.1, S.2.2)
def aw_wL (S : aw_S) (k : Nat) (g : Nat → Int64) : aw_S := (S.1, va_up S.2.1 k g, S.2.2)
theorem uI_w (S : aw_S) (k j : Nat) (v : Int32) : aw_uI S k j v = aw_wI S k (upd (S.1 k) j v) := rfl
theorem uL_w (S : aw_S) (k j : Nat) (v : Int64) : aw_uL S k j v = aw_wL S k (vp_updL (S.2.1 k) j v) := rfl
theorem wI_self (S : aw_S) (k : Nat) (g : Nat → Int32) : (aw_wI S k g).1 k = g := by simp [aw_wI, va_up]
theorem wL_self (S : aw_S) (k : Nat) (g : Nat → Int64) : (aw_wL S k g).2.1 k = g := by simp [aw_wL, va_up]
theorem wI_ne (S : aw_S) {k c : Nat} (g : Nat → Int32) (h : c ≠ k) : (aw_wI S k g).1 c = S.1 c := by simp [aw_wI, va_up, h]
theorem wL_ne (S : aw_S) {k c : Nat} (g : Nat → Int64) (h : c ≠ k) : (aw_wL S k g).2.1 c = S.2.1 c := by simp [aw_wL, va_up, h]
theorem wI_wI (S : aw_S) (k : Nat) (g g' : Nat → Int32) : aw_wI (aw_wI S k g) k g' = aw_wI S k g' := by
  simp only [aw_wI, bx_uu]
theorem wL_wL (S : aw_S) (k : Nat) (g g' : Nat → Int64) : aw_wL (aw_wL S k g) k g' = aw_wL S k g' := by
  simp only [aw_wL, bx_uu]
theorem uI_ne (S : aw_S) {k c : Nat} (j : Nat) (v : Int32) (h : c ≠ k) : (aw_uI S k j v).1 c = S.1 c := wI_ne S _ h
theorem uL_ne (S : aw_S) {k c : Nat} (j : Nat) (v : Int64) (h : c ≠ k) : (aw_uL S k j v).2.1 c = S.2.1 c := wL_ne S _ h
theorem uI_at (S : aw_S) (k j : Nat) (v : Int32) (c i : Nat) : (aw_uI S k j v).1 c i = if c = k then (if i = j then v else S.1 k i) else S.1 c i := by
  by_cases h : c = k
  · subst h; simp [aw_uI, va_up, upd]
  · simp [aw_uI, va_up, h]
theorem uL_at (S : aw_S) (k j : Nat) (v : Int64) (c i : Nat) : (aw_uL S k j v).2.1 c i = if c = k then (if i = j then v else S.2.1 k i) else S.2.1 c i := by
  by_cases h : c = k
  · subst h; simp [aw_uL, va_up, vp_updL]
  · simp [aw_uL, va_up, h]
/-- how many gaps n have -/
def gpN (n : Nat) : Nat := if n < 2 then 0 else if n = 2 then 1 else n
/-- in how many of the first m passes one is -/
def usN (f : Nat → Nat) (d : Nat) : Nat → Nat
  | 0 => 0
  | k + 1 => usN f d k + (if f k / 16 % 8 = d ∨ f k / 128 % 8 = d then 1 else 0)
/-- gaps that touch -/
def tchN (n g h : Nat) : Bool := decide (g = h) || (decide (2 < n) && (decide ((g + 1) % n = h) || decide ((h + 1) % n = g)))
/-- no pass of the plait undoes an earlier one -/
def redN (n : Nat) (f : Nat → Nat) (m : Nat) : Prop := ∀ j k, j < k → k < m → f j % 8 = f k % 8 → f j / 8 % 2 ≠ f k / 8 % 2 → ∃ i, j < i ∧ i < k ∧ tchN n (f i % 8) (f k % 8) = true
/-- a name, in five and in eight bits a letter -/
def p5 : List Nat → Nat
  | [] => 0
  | c :: w => p5 w * 32 + (c - 96)
def p8 : List Nat → Nat
  | [] => 0
  | c :: w => p8 w * 256 + c
def nmR (x y : Int64) : Prop := (x = 0 ∧ y = 0) ∨ ∃ w : List Nat, 0 < w.length ∧ w.length ≤ 8 ∧ (∀ c ∈ w, 97 ≤ c ∧ c ≤ 122) ∧ x = lN (p5 w) ∧ y = lN (p8 w)
/-- how many entries ahead of e are no ends -/
def ncN (cd : Nat → Nat) : Nat → Nat
  | 0 => 0
  | e + 1 => ncN cd e + (if cd e = 13 then 0 else 1)
/-- a step as the class keeps it (kind, test, first, second, behind), and the entry e of the reference's table (code, 1, 2, 4, 5) -/
def stR (n : Nat) (cd : Nat → Nat) (N e : Nat) (kd ts fs sd bh : Int32) (x1 x2 x4 x5 : Int32) : Prop :=
  (cd e = 3 ∧ kd = 4 ∧ (∃ g o, g < gpN n ∧ o < 2 ∧ fs = nI g ∧ x1 = nI g ∧ sd = nI o ∧ x2 = nI o) ∧ bh = nI (ncN cd e + 1)) ∨
  (cd e = 7 ∧ kd = 7 ∧ bh = nI (ncN cd e + 1)) ∨
  (cd e = 8 ∧ kd = 8 ∧ (∃ w, 1 ≤ w ∧ w ≤ 9 ∧ fs = nI w ∧ x1 = nI w) ∧ bh = nI (ncN cd e + 1)) ∨
  (cd e = 9 ∧ kd = 9 ∧ (∃ d c, d < n ∧ c ≤ 5 ∧ fs = nI d ∧ x1 = nI d ∧ sd = nI c ∧ x2 = nI c) ∧ bh = nI (ncN cd e + 1)) ∨
  (cd e = 10 ∧ kd = 10 ∧ bh = nI (ncN cd e + 1)) ∨
  (cd e = 14 ∧ kd = 18 ∧ bh = nI (ncN cd e + 1)) ∨
  (∃ p, e < p ∧ p < N ∧ cd p = 13 ∧ x4 = nI p ∧ bh = nI (ncN cd p) ∧
    ((cd e = 12 ∧ kd = 16 ∧ ∃ w, 1 ≤ w ∧ w ≤ 99 ∧ fs = nI w ∧ x1 = nI w) ∨
     (kd = 11 ∧ ((cd e = 1115 ∧ ts = 12 ∧ ∃ d, d < n ∧ fs = nI d ∧ x1 = nI d) ∨
      (cd e = 1116 ∧ ts = 13 ∧ ∃ d q, d < n ∧ q < n ∧ fs = nI d ∧ x1 = nI d ∧ sd = nI q ∧ x2 = nI q) ∨
      (cd e = 1117 ∧ ts = 14 ∧ ∃ g c, g < gpN n ∧ c ≤ 6 ∧ fs = nI g ∧ x1 = nI g ∧ sd = nI c ∧ x2 = nI c) ∨
      (cd e = 1118 ∧ ts = 15 ∧ ∃ s c, (s = 60 ∨ s = 61 ∨ s = 62) ∧ c ≤ 40 ∧ fs = nI s ∧ x5 = nI s ∧ sd = nI c ∧ x2 = nI c)))))
/-- the partner of an opening entry, by the table -/
def opN (cd : Nat → Nat) (e : Nat) : Bool := cd e = 12 || decide (1100 ≤ cd e)
/-- FEASTS: the object c, and the slot at s of the reference -/
def feR (n : Nat) (I : Nat → Nat → Int32) (c s : Nat) : Prop :=
  (I c 0 = 0 ∧ I c 1 = 0 ∧ I 115 (s + 5) = -1) ∨ (I c 0 = 1 ∧ ∃ (N : Nat) (cd pr : Nat → Nat), N ≤ 60 ∧ ncN cd N ≤ 30 ∧ I c 1 = nI (ncN cd N) ∧ I 115 (s + 5) = nI N ∧
    (∀ e, e < N → I 115 (s + 184 + 6 * e) = nI (cd e) ∧ cd e < 2000 ∧ (cd e = 13 → pr e < e ∧ opN cd (pr e) = true ∧ pr (pr e) = e ∧ I 115 (s + 184 + 6 * e + 4) = nI (pr e)) ∧
      (¬ cd e = 13 → stR n cd N e (I (c + 1) (ncN cd e)) (I (c + 2) (ncN cd e)) (I (c + 3) (ncN cd e)) (I (c + 4) (ncN cd e)) (I (c + 5) (ncN cd e)) (I 115 (s + 184 + 6 * e + 1)) (I 115 (s + 184 + 6 * e + 2)) (I 115 (s + 184 + 6 * e + 4)) (I 115 (s + 184 + 6 * e + 5)) ∧ (opN cd e = true → I 115 (s + 184 + 6 * e + 4) = nI (pr e) ∧ e < pr e ∧ pr e < N ∧ cd (pr e) = 13 ∧ pr (pr e) = e))) ∧
    (∀ e e', e < N → e' < N → opN cd e = true → opN cd e' = true → e < e' → e' < pr e → pr e' < pr e) ∧
    (∀ a b c d, d < N → opN cd a = true → opN cd b = true → opN cd c = true → opN cd d = true → a < b → b < pr a → b < c → c < pr b → c < d → d < pr c → False))
/-- bounds of a green: n dancers, odds, long, m passes f, colours, who stands where -/
def bdP (n od lg m : Nat) (f col std : Nat → Nat) : Prop := n ≤ 7 ∧ od ≤ 16 ∧ 1 ≤ lg ∧ lg ≤ 40 ∧ m ≤ 40 ∧
  (∀ k, k < m → f k < 1024 ∧ f k % 8 < gpN n ∧ f k / 16 % 8 < n ∧ f k / 128 % 8 < n ∧ f k / 16 % 8 ≠ f k / 128 % 8) ∧
  (∀ d, d < n → col d ≤ 5) ∧ (∀ p, p < n → std p < n) ∧ (∀ p q, p < n → q < n → std p = std q → p = q)
/-- the object a holds it -/
def GrP (I : Nat → Nat → Int32) (a n od lg m : Nat) (f col std : Nat → Nat) : Prop :=
  I a 0 = nI n ∧ I a 1 = nI od ∧ I a 2 = nI lg ∧ I (a + 6) 1 = nI m ∧ (∀ k, k < m → I (a + 7) k = nI (f k)) ∧ (∀ d, d < n → I (a + 2) d = nI (col d)) ∧
  (∀ p, p < n → I (a + 5) p = nI (std p) ∧ I (a + 3) (std p) = nI p) ∧ (∀ d, d < n → I (a + 4) d = nI (usN f d m))
/-- the reference's slot at s holds it -/
def MdP (I : Nat → Nat → Int32) (s n od lg m : Nat) (f col std : Nat → Nat) : Prop :=
  I 115 s = nI n ∧ I 115 (s + 1) = nI od ∧ I 115 (s + 2) = nI lg ∧ I 115 (s + 3) = nI m ∧
  (∀ k, k < m → I 115 (s + 24 + 4 * k) = nI (f k % 8) ∧ I 115 (s + 24 + 4 * k + 1) = nI (f k / 8 % 2) ∧ I 115 (s + 24 + 4 * k + 2) = nI (f k / 16 % 8) ∧ I 115 (s + 24 + 4 * k + 3) = nI (f k / 128 % 8)) ∧
  (∀ d, d < n → I 115 (s + 10 + d) = nI (col d)) ∧ (∀ p, p < n → I 115 (s + 17 + p) = nI (std p))
/-- GREENS: the object a, and the slot at s of the reference's numbers, at t of its names -/
def ggR (I : Nat → Nat → Int32) (L : Nat → Nat → Int64) (a s t : Nat) : Prop :=
  ∃ (n od lg m : Nat) (f col std : Nat → Nat), bdP n od lg m f col std ∧ redN n f m ∧ GrP I a n od lg m f col std ∧ MdP I s n od lg m f col std ∧
    I 115 (s + 4) = I a 3 + I a 4 ∧ (∀ d, d < n → nmR (L (a + 1) d) (L 116 (t + d))) ∧ feR n I (a + 8) s
/-- TRAYS -/
def trR (I : Nat → Nat → Int32) (L : Nat → Nat → Int64) : Prop := ∀ t, t < 4 → (I (2 + 2 * t) 1 = 0 ∧ I 118 t = -1) ∨ (I (2 + 2 * t) 1 = 1 ∧ ∃ n k, n ≤ 60 ∧ k ≤ 3 ∧ I (2 + 2 * t) 3 = nI n ∧ I 118 t = nI n ∧ I (2 + 2 * t) 2 = nI k ∧ I 117 t = nI k ∧ ∀ j, j < n → L (3 + 2 * t) j = L 119 (60 * t + j))
def Inv (S : aw_S) : Prop :=
  S.1 0 3 = S.1 114 2 ∧ (S.2.1 111 0 = S.2.1 114 3 ∧ S.2.1 111 1 = S.2.1 114 4) ∧ (S.1 0 4 = S.1 114 16 ∧ S.1 0 5 = S.1 114 17) ∧
  ((S.1 0 14 = 0 ∨ S.1 0 14 = 1) ∧ S.1 114 50 = S.1 0 14 ∧ (S.1 0 14 = 1 → ∀ j, j < 5 → S.1 98 j = S.1 142 j)) ∧
  (∃ n, n ≤ 900 ∧ S.1 0 2 = nI n ∧ S.1 114 10 = nI n ∧ ∀ j, j < n → S.1 10 j = S.1 120 j ∧ (S.1 10 j).toInt8.toInt32 = S.1 10 j) ∧
  (∃ k, k ≤ 3 ∧ S.1 0 9 = nI k ∧ S.1 114 51 = nI k ∧ ∀ i, i < k → ggR S.1 S.2.1 (42 + 15 * i) (552 * (i + 1)) (7 * (i + 1))) ∧
  (∃ a b, S.2.2 0 6 = some a ∧ S.2.2 0 7 = some b ∧ ((a = 11 ∧ b = 26) ∨ (a = 26 ∧ b = 11)) ∧ ggR S.1 S.2.1 a 0 0) ∧
  trR S.1 S.2.1 ∧ RefsOk S.2.2 ∧ (∀ j, j < 19 → S.2.1 95 j = (E_To_init aw_S0 94 95).2.1 95 j)
