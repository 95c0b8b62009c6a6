/-! what shows, and rows that are counted -/
def shC (col f : Nat → Nat) (gap : Nat) : Nat → Nat
  | 0 => 6
  | k + 1 => if f k % 8 = gap then col (f k / 16 % 8) else shC col f gap k
theorem sh_C (col f : Nat → Nat) (gap : Nat) : ∀ m, (match lt_in f gap m with | none => 6 | some k => col (f k / 16 % 8)) = shC col f gap m := by
  intro m
  induction m with
  | zero => rfl
  | succ m ih =>
    unfold lt_in shC
    by_cases e : f m % 8 = gap
    · rw [if_pos e, if_pos e]
    · rw [if_neg e, if_neg e]
      exact ih
theorem shN_C (g : GM) (gap : Nat) : shN g gap = shC g.col g.f gap g.m := sh_C g.col g.f gap g.m
theorem shC_cong {col f h : Nat → Nat} {gap : Nat} : ∀ m, (∀ i, i < m → f i = h i) → shC col f gap m = shC col h gap m := by
  intro m
  induction m with
  | zero => intro _; rfl
  | succ m ih =>
    intro e
    unfold shC
    rw [e m (by omega), ih (fun i hi => e i (by omega))]
theorem shC_rem {col f : Nat → Nat} {gap k : Nat} (hk : f k % 8 ≠ gap) : ∀ m, k ≤ m → shC col (remF f k) gap m = shC col f gap (m + 1) := by
  intro m
  induction m with
  | zero =>
    intro h
    have : k = 0 := by omega
    subst this
    show 6 = shC col f gap (0 + 1)
    unfold shC
    rw [if_neg hk]
    rfl
  | succ m ih =>
    intro h
    by_cases e : k = m + 1
    · subst e
      rw [shC_cong (h := f) (m + 1) (fun i hi => by unfold remF; rw [if_pos hi])]
      show _ = shC col f gap (m + 1 + 1)
      conv => rhs; unfold shC
      rw [if_neg hk]
    · have e2 : remF f k m = f (m + 1) := by unfold remF; rw [if_neg (by omega)]
      show shC col (remF f k) gap (m + 1) = shC col f gap (m + 1 + 1)
      unfold shC
      rw [e2, ih (by omega)]
theorem shC_skip {col f : Nat → Nat} {gap k : Nat} : ∀ m, k ≤ m → (∀ o, k ≤ o → o < m → f o % 8 ≠ gap) → shC col f gap m = shC col f gap k := by
  intro m
  induction m with
  | zero =>
    intro h _
    have : k = 0 := by omega
    rw [this]
  | succ m ih =>
    intro h q
    by_cases e : k = m + 1
    · rw [e]
    · conv => lhs; unfold shC
      rw [if_neg (q m (by omega) (by omega))]
      exact ih (by omega) (fun o h1 h2 => q o h1 (by omega))
section SH
variable {g : GM} {gap over : Nat}
theorem ub_out {k : Nat} (hu : ubG g gap over = some k) (ht : tchN g.n gap gap = true) : ∀ o, k < o → o < g.m → g.f o % 8 ≠ gap := by
  have h := ((ub_iff (f := g.f) (t := tchN g.n gap) (gap := gap) (over := over) ht k) g.m).mp hu
  intro o h1 h2 e
  have := h.2.2 o h1 h2
  rw [e, ht] at this
  exact absurd this (by decide)
theorem ps_she2 {k : Nat} (hu : ubG g gap over = some k) (ht : tchN g.n gap gap = true) : shN (rmG g k) gap = shC g.col g.f gap k := by
  obtain ⟨h1, h2, h3⟩ := ub_lt hu
  have ho := ub_out hu ht
  rw [shN_C]
  show shC g.col (remF g.f k) gap (g.m - 1) = _
  rw [shC_skip (k := k) (g.m - 1) (by omega) (fun o q1 q2 => by
    unfold remF
    rw [if_neg (by omega)]
    exact ho (o + 1) (by omega) (by omega))]
  exact shC_cong k (fun i hi => by unfold remF; rw [if_pos hi])
theorem ps_she1 {v : Nat} : shN (inG g g.m v) gap = if v % 8 = gap then g.col (v / 16 % 8) else shN g gap := by
  rw [shN_C, shN_C]
  show (if insF g.f g.m v g.m % 8 = gap then g.col (insF g.f g.m v g.m / 16 % 8) else shC g.col (insF g.f g.m v) gap g.m) = _
  rw [insF_k, shC_cong (h := g.f) g.m (fun i hi => by unfold insF; rw [if_pos hi])]
theorem ps_shn {gap' : Nat} (hb : bdG g) (hg : gap < gpN g.n) (ho : over < 2) (hne : gap' ≠ gap) : shN (psG g gap over).2 gap' = shN g gap' := by
  cases hu : ubG g gap over with
  | some k =>
    obtain ⟨h1, h2, h3⟩ := ub_lt hu
    rw [ps_2 hu, shN_C, shN_C]
    show shC g.col (remF g.f k) gap' (g.m - 1) = _
    rw [shC_rem (by omega) (g.m - 1) (by omega), show g.m - 1 + 1 = g.m by omega]
  | none =>
    by_cases c : canN g gap
    · rw [ps_1 hu c, ps_she1, if_neg]
      rw [(np_ok hb hg ho).2.1]
      exact fun z => hne z.symm
    · rw [ps_0 hu c]
variable {l : Launch} {d : Nat} {sh : aw_SH} {S : aw_S} {a : Nat}
theorem sp_Gr_colourBehind {P : Int32 → aw_S → Prop} (hS : GrS sh S.2.2 a) (hb : bdG g) (H : GrG S.1 a g) (hg : gap < gpN g.n) (ho : over < 2) (h0 : (psG g gap over).1 = 0 → P (-1) S) (h1 : (psG g gap over).1 ≠ 0 → P (nI (shN (psG g gap over).2 gap)) S) : Sp l m_Gr_colourBehind (d + 1 + 1 + 1 + 1) 0 0 [.ref a, .int (nI gap), .int (nI over)] sh S (gI sh P) := by
  have hn : g.n ≤ 7 := hb.1
  have g2 := gp_2 hg
  have g3 := gp_le g.n
  have hm : g.m ≤ 40 := hb.2.2.2.2.1
  have H6 := H.2.2.2.2.2.1
  have H7 := H.2.2.2.2.2.2.1
  have hst := hb.2.2.2.2.2.2.2.1
  have hx := nx_lt (n := g.n) (p := gap) (by omega)
  have ht : tchN g.n gap gap = true := tch_self _ _
  refine e_Gr_colourBehind hS.sa ⟨a + 6, hS.r10, sp_Gr_touching hS.sa hn hg H.1 ⟨hS.s6, sp_undoneBy hS hb H hg ho ?_⟩⟩
  cases hu : ubG g gap over with
  | some k =>
    obtain ⟨k1, k2, k3⟩ := ub_lt hu
    rw [ps_2 hu] at h1
    have h1 := h1 (by decide : (2 : Nat) ≠ 0)
    rw [ps_she2 hu ht] at h1
    refine ⟨fun q => absurd q (nI_ne_m1 (by omega)), fun _ => sp_Gr_colourIn hS hb H (by omega) (by omega) ?_⟩
    have e := sh_C g.col g.f gap k
    cases hl : lt_in g.f gap k with
    | none =>
      rw [hl] at e
      have e : 6 = shC g.col g.f gap k := e
      rw [← e] at h1
      exact h1
    | some j =>
      rw [hl] at e
      have e : g.col (g.f j / 16 % 8) = shC g.col g.f gap k := e
      rw [← e] at h1
      exact h1
  | none =>
    refine ⟨fun _ => sp_Gr_canAdd hS hb H hg (fun c => ⟨fun _ => ⟨a + 2, hS.r6, ?_⟩, fun q => absurd q (by decide)⟩) (fun c => ⟨fun q => absurd rfl q, fun _ => h0 (by rw [ps_0 hu c])⟩), fun q => absurd rfl q⟩
    rw [ps_1 hu c] at h1
    have h1 := h1 (by decide : (1 : Nat) ≠ 0)
    rw [ps_she1, if_pos (np_ok hb hg ho).2.1] at h1
    have hs1 := hst gap (by omega)
    have hs2 := hst (nx g.n gap) hx
    have eu : npN g gap over / 16 % 8 = if over = 1 then g.std gap else g.std (nx g.n gap) := by
      unfold npN
      by_cases c : over = 1
      · simp only [if_pos c]; exact (pkd (by omega) ho (by omega) (by omega)).2.2.1
      · simp only [if_neg c]; exact (pkd (by omega) ho (by omega) (by omega)).2.2.1
    rw [eu] at h1
    refine ⟨fun q => ⟨a + 5, hS.r9, sp_Gr_nextPlace hS.sa hn (by omega) H.1 ⟨7, hS.s5, vp_in_nI (by omega) (by omega), 7, hS.s2, ?_⟩⟩, fun q => ⟨a + 5, hS.r9, 7, hS.s5, vp_in_nI (by omega) (by omega), 7, hS.s2, ?_⟩⟩
    · have e : over ≠ 1 := fun z => q (by rw [z]; rfl)
      rw [if_neg e] at h1
      rw [nI_clamp (by omega), (H7 _ hx).1, nI_clamp (by omega), H6 _ hs2]
      exact ⟨vp_in_nI (by omega) (by omega), h1⟩
    · have e : over = 1 := (nI_inj (b := 1) (by omega) (by omega)).mp q
      rw [if_pos e] at h1
      rw [nI_clamp (by omega), (H7 gap (by omega)).1, nI_clamp (by omega), H6 _ hs1]
      exact ⟨vp_in_nI (by omega) (by omega), h1⟩
end SH
/-! rows, counted -/
def sumF (f : Nat → Nat) : Nat → Nat
  | 0 => 0
  | n + 1 => sumF f n + f n
theorem sumF_le {f h : Nat → Nat} : ∀ n, (∀ i, i < n → f i ≤ h i) → sumF f n ≤ sumF h n := by
  intro n
  induction n with
  | zero => intro _; exact Nat.le_refl _
  | succ n ih =>
    intro e
    exact Nat.add_le_add (ih (fun i hi => e i (by omega))) (e n (by omega))
theorem sumF_k {f : Nat → Nat} {c : Nat} : ∀ n, (∀ i, i < n → f i ≤ c) → sumF f n ≤ n * c := by
  intro n
  induction n with
  | zero => intro _; exact Nat.zero_le _
  | succ n ih =>
    intro e
    have h1 := ih (fun i hi => e i (by omega))
    have h2 := e n (by omega)
    rw [Nat.succ_mul]
    exact Nat.add_le_add h1 h2
theorem sumF_0 {f : Nat → Nat} : ∀ n, (∀ i, i < n → f i = 0) → sumF f n = 0 := by
  intro n
  induction n with
  | zero => intro _; rfl
  | succ n ih =>
    intro e
    show sumF f n + f n = 0
    rw [ih (fun i hi => e i (by omega)), e n (by omega)]
theorem sumF_c {f h : Nat → Nat} : ∀ n, (∀ i, i < n → f i = h i) → sumF f n = sumF h n := by
  intro n
  induction n with
  | zero => intro _; rfl
  | succ n ih =>
    intro e
    show sumF f n + f n = sumF h n + h n
    rw [ih (fun i hi => e i (by omega)), e n (by omega)]
def rowsN (ok : GM → Bool) : Nat → GM → Nat
  | 0, g => if ok g = true then 1 else 0
  | r + 1, g => sumF (fun x => if (chG g x).1 = 0 then 0 else rowsN ok r (chG g x).2) (2 * gpN g.n)
def tabN (ok : GM → Bool) (gap c : Nat) : Nat → GM → Nat
  | 0, g => if ok g = true ∧ shN g gap = c then 1 else 0
  | r + 1, g => sumF (fun x => if (chG g x).1 = 0 then 0 else tabN ok gap c r (chG g x).2) (2 * gpN g.n)
theorem tab_le {ok : GM → Bool} {gap c : Nat} : ∀ r g, tabN ok gap c r g ≤ rowsN ok r g := by
  intro r
  induction r with
  | zero =>
    intro g
    unfold tabN rowsN
    by_cases h : ok g = true
    · rw [if_pos h]; split <;> omega
    · rw [if_neg h, if_neg (fun z => h z.1)]; omega
  | succ r ih =>
    intro g
    refine sumF_le _ (fun x _ => ?_)
    show (if (chG g x).1 = 0 then 0 else tabN ok gap c r (chG g x).2) ≤ (if (chG g x).1 = 0 then 0 else rowsN ok r (chG g x).2)
    split
    · exact Nat.le_refl _
    · exact ih _
theorem rows_le {ok : GM → Bool} : ∀ r g, bdG g → redN g.n g.f g.m → rowsN ok r g ≤ 14 ^ r := by
  intro r
  induction r with
  | zero =>
    intro g _ _
    unfold rowsN
    split <;> simp
  | succ r ih =>
    intro g hb hr
    have hn : g.n ≤ 7 := hb.1
    have hgp := gp_le g.n
    have h1 := sumF_k (f := fun x => if (chG g x).1 = 0 then 0 else rowsN ok r (chG g x).2) (c := 14 ^ r) (2 * gpN g.n) (fun x hx => by
      show (if (chG g x).1 = 0 then 0 else rowsN ok r (chG g x).2) ≤ 14 ^ r
      obtain ⟨cb, cr, cn⟩ := ch_n (x := x) hb hr (by omega)
      split
      · exact Nat.zero_le _
      · exact ih _ cb cr)
    have h2 : 2 * gpN g.n * 14 ^ r ≤ 14 * 14 ^ r := Nat.mul_le_mul (by omega) (Nat.le_refl _)
    have h3 : 14 ^ (r + 1) = 14 * 14 ^ r := by rw [Nat.pow_succ, Nat.mul_comm]
    rw [h3]
    exact Nat.le_trans h1 h2
/-- the first row that counts -/
def FR (ok : GM → Bool) : Nat → GM → (Nat → Nat) → Prop
  | 0, _, _ => True
  | r + 1, g, p => p 0 < 2 * gpN g.n ∧ (chG g (p 0)).1 ≠ 0 ∧ rowsN ok r (chG g (p 0)).2 ≠ 0 ∧ (∀ y, y < p 0 → (chG g y).1 ≠ 0 → rowsN ok r (chG g y).2 = 0) ∧ FR ok r (chG g (p 0)).2 (fun i => p (i + 1))
theorem FR.eq {ok : GM → Bool} : ∀ {r : Nat} {g : GM} {p q : Nat → Nat}, FR ok r g p → FR ok r g q → ∀ i, i < r → p i = q i := by
  intro r
  induction r with
  | zero => intro g p q _ _ i hi; exact absurd hi (Nat.not_lt_zero i)
  | succ r ih =>
    intro g p q ⟨a1, a2, a3, a4, a5⟩ ⟨b1, b2, b3, b4, b5⟩ i hi
    have e : p 0 = q 0 := by
      by_cases c1 : p 0 < q 0
      · exact absurd (b4 _ c1 a2) a3
      · by_cases c2 : q 0 < p 0
        · exact absurd (a4 _ c2 b2) b3
        · omega
    cases i with
    | zero => exact e
    | succ i =>
      rw [e] at a5
      exact ih a5 b5 i (by omega)
/-- how many gaps show what they must not -/
def suB (w : Int32) (c : Nat) : Bool := decide (w = -1 ∨ w = nI c)
def wrC (w : Nat → Int32) (s : Nat → Nat) : Nat → Nat
  | 0 => 0
  | j + 1 => wrC w s j + if suB (w j) (s j) = true then 0 else 1
theorem wrC_0 {w : Nat → Int32} {s : Nat → Nat} : ∀ n, wrC w s n = 0 ↔ ∀ i, i < n → suB (w i) (s i) = true := by
  intro n
  induction n with
  | zero => exact ⟨fun _ i hi => absurd hi (Nat.not_lt_zero i), fun _ => rfl⟩
  | succ n ih =>
    unfold wrC
    refine ⟨fun h i hi => ?_, fun h => ?_⟩
    · by_cases e : i = n
      · rw [e]
        by_cases c : suB (w n) (s n) = true
        · exact c
        · rw [if_neg c] at h; omega
      · exact ih.mp (by omega) i (by omega)
    · rw [ih.mpr (fun i hi => h i (by omega)), if_pos (h n (by omega))]
theorem wrC_1 {w : Nat → Int32} {s s' : Nat → Nat} {x : Nat} : ∀ n, (∀ i, i < n → i ≠ x → s' i = s i) → wrC w s n ≤ wrC w s' n + (if x < n then 1 else 0) := by
  intro n
  induction n with
  | zero => intro _; exact Nat.zero_le _
  | succ n ih =>
    intro h
    have h1 := ih (fun i hi => h i (by omega))
    unfold wrC
    by_cases e : n = x
    · have q1 : x < n + 1 := by omega
      have q2 : ¬ x < n := by omega
      rw [if_pos q1]
      rw [if_neg q2] at h1
      split <;> split <;> omega
    · rw [h n (by omega) e]
      split <;> split at h1 <;> split <;> omega
/-- a wrong gap that isn't touched stays wrong -/
theorem wrC_pos {w : Nat → Int32} {s : Nat → Nat} {i n : Nat} (hi : i < n) (h : suB (w i) (s i) = false) : wrC w s n ≠ 0 := fun z => by
  have := (wrC_0 n).mp z i hi
  rw [h] at this
  exact absurd this (by decide)
theorem ch_shn {g : GM} {x gap : Nat} (hb : bdG g) (hx : x ≤ 2 * gpN g.n) (h : gap ≠ x / 2) : shN (chG g x).2 gap = shN g gap := by
  by_cases e : x = 2 * gpN g.n
  · rw [e, ch_no]
  · rw [ch_lt (by omega)]
    exact ps_shn hb (by omega) (by omega) h
def OkW (ok : GM → Bool) (w : Nat → Int32) (n : Nat) : Prop := ∀ g, bdG g → g.n = n → (ok g = true ↔ wrC w (shN g) (gpN n) = 0)
theorem rows_pr {ok : GM → Bool} {w : Nat → Int32} {n : Nat} (hw : OkW ok w n) : ∀ r g, bdG g → redN g.n g.f g.m → g.n = n → r < wrC w (shN g) (gpN n) → rowsN ok r g = 0 := by
  intro r
  induction r with
  | zero =>
    intro g hb hr e h
    unfold rowsN
    rw [if_neg]
    intro z
    have := (hw g hb e).mp z
    omega
  | succ r ih =>
    intro g hb hr e h
    refine sumF_0 _ (fun x hx => ?_)
    show (if (chG g x).1 = 0 then 0 else rowsN ok r (chG g x).2) = 0
    obtain ⟨cb, cr, cn⟩ := ch_n (x := x) hb hr (by omega)
    split
    · rfl
    · refine ih _ cb cr (by omega) ?_
      have := wrC_1 (w := w) (s := shN g) (s' := shN (chG g x).2) (x := x / 2) (gpN n) (fun i _ hi => ch_shn hb (by omega) hi)
      split at this <;> omega
