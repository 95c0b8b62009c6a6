/-! the last pass of a row, counted at once -/
def acN (ok : GM → Bool) (g : GM) (x : Nat) : Nat := if (chG g x).1 = 0 then 0 else rowsN ok 0 (chG g x).2
theorem ac_01 (ok : GM → Bool) (g : GM) (x : Nat) : acN ok g x = 0 ∨ acN ok g x = 1 := by
  unfold acN rowsN
  split
  · exact Or.inl rfl
  · split
    · exact Or.inr rfl
    · exact Or.inl rfl
theorem wrC_dr {w : Nat → Int32} {s : Nat → Nat} {i : Nat} (h : suB (w i) (s i) = false) : ∀ n, i < n → wrC w s n = wrC (fun k => if k = i then -1 else w k) s n + 1 := by
  have lo : ∀ n, n ≤ i → wrC (fun k => if k = i then -1 else w k) s n = wrC w s n := by
    intro n
    induction n with
    | zero => intro _; rfl
    | succ n ih =>
      intro hn
      unfold wrC
      rw [ih (by omega), if_neg (show ¬ n = i by omega)]
  intro n
  induction n with
  | zero => intro hn; exact absurd hn (Nat.not_lt_zero i)
  | succ n ih =>
    intro hn
    by_cases e : n = i
    · subst e
      unfold wrC
      rw [lo n (Nat.le_refl _), if_pos rfl, h, if_neg (by decide), if_pos (show suB (-1) (s n) = true from decide_eq_true (Or.inl rfl))]
    · unfold wrC
      rw [ih (by omega), if_neg e]
      omega
theorem wrC_2 {w : Nat → Int32} {s : Nat → Nat} {i j n : Nat} (hi : i < n) (hj : j < n) (hij : i ≠ j) (h1 : suB (w i) (s i) = false) (h2 : suB (w j) (s j) = false) : 2 ≤ wrC w s n := by
  have e1 := wrC_dr h1 n hi
  have e2 := wrC_pos (w := fun k => if k = i then -1 else w k) (s := s) hj (by rw [if_neg (fun z => hij z.symm)]; exact h2)
  omega
theorem wrC_ex {w : Nat → Int32} {s : Nat → Nat} {n : Nat} (h : wrC w s n ≠ 0) : ∃ i, i < n ∧ suB (w i) (s i) = false := by
  refine Classical.byContradiction (fun z => h ((wrC_0 n).mpr (fun i hi => ?_)))
  cases e : suB (w i) (s i) with
  | true => rfl
  | false => exact absurd ⟨i, hi, e⟩ z
theorem ac_iff {ok : GM → Bool} {w : Nat → Int32} {g : GM} {x : Nat} (hw : OkW ok w g.n) (hb : bdG g) (hr : redN g.n g.f g.m) (hx : x < 2 * gpN g.n) (h1 : wrC w (shN g) (gpN g.n) ≤ 1) : acN ok g x = 1 ↔ (wrC w (shN g) (gpN g.n) = 0 ∨ suB (w (x / 2)) (shN g (x / 2)) = false) ∧ acW w g x := by
  obtain ⟨cb, cr, cn⟩ := ch_n (x := x) hb hr (by omega)
  unfold acN acW
  by_cases c : (chG g x).1 = 0
  · rw [if_pos c]
    exact ⟨fun q => absurd q (by decide), fun q => absurd c q.2.1⟩
  · rw [if_neg c]
    have ho := hw _ cb cn
    have hn : ∀ gap, gap ≠ x / 2 → shN (chG g x).2 gap = shN g gap := fun gap hg => ch_shn hb (by omega) hg
    unfold rowsN
    constructor
    · intro q
      by_cases o : ok (chG g x).2 = true
      · have h0 := (wrC_0 _).mp (ho.mp o)
        refine ⟨?_, c, h0 (x / 2) (by omega)⟩
        by_cases z : wrC w (shN g) (gpN g.n) = 0
        · exact Or.inl z
        · obtain ⟨i, i1, i2⟩ := wrC_ex z
          by_cases e : i = x / 2
          · rw [← e]; exact Or.inr i2
          · have := h0 i i1
            rw [hn i e, i2] at this
            exact absurd this (by decide)
      · rw [if_neg o] at q
        exact absurd q (by decide)
    · intro ⟨q1, q2, q3⟩
      rw [if_pos]
      refine ho.mpr ((wrC_0 _).mpr (fun i hi => ?_))
      by_cases e : i = x / 2
      · rw [e]; exact q3
      · rw [hn i e]
        cases z : suB (w i) (shN g i) with
        | true => rfl
        | false =>
          exfalso
          rcases q1 with q1 | q1
          · exact wrC_pos hi z q1
          · have := wrC_2 hi (show x / 2 < gpN g.n by omega) e z q1
            omega
def cgN (ok : GM → Bool) (g : GM) (gap X : Nat) : Nat := sumF (fun x => if x / 2 = gap then acN ok g x else 0) X
def ccN (ok : GM → Bool) (g : GM) (gap c X : Nat) : Nat := sumF (fun x => if x / 2 = gap ∧ shN (chG g x).2 gap = c then acN ok g x else 0) X
theorem cg_le (ok : GM → Bool) (g : GM) (gap X : Nat) : cgN ok g gap X ≤ sumF (acN ok g) X := by
  refine sumF_le X (fun i _ => ?_)
  show (if i / 2 = gap then acN ok g i else 0) ≤ acN ok g i
  split <;> omega
theorem tab1 {ok : GM → Bool} {g : GM} {gap c : Nat} (hb : bdG g) : ∀ X, X ≤ 2 * gpN g.n → sumF (fun x => if (chG g x).1 = 0 then 0 else tabN ok gap c 0 (chG g x).2) X = ccN ok g gap c X + (if shN g gap = c then sumF (acN ok g) X - cgN ok g gap X else 0) := by
  intro X
  induction X with
  | zero =>
    intro _
    show 0 = 0 + _
    split <;> rfl
  | succ X ih =>
    intro hX
    have h1 := ih (by omega)
    have h2 := cg_le ok g gap X
    show sumF (fun x => if (chG g x).1 = 0 then 0 else tabN ok gap c 0 (chG g x).2) X + (if (chG g X).1 = 0 then 0 else tabN ok gap c 0 (chG g X).2) = (ccN ok g gap c X + (if X / 2 = gap ∧ shN (chG g X).2 gap = c then acN ok g X else 0)) + (if shN g gap = c then (sumF (acN ok g) X + acN ok g X) - (cgN ok g gap X + (if X / 2 = gap then acN ok g X else 0)) else 0)
    have e : (if (chG g X).1 = 0 then 0 else tabN ok gap c 0 (chG g X).2) = if shN (chG g X).2 gap = c then acN ok g X else 0 := by
      unfold acN tabN rowsN
      by_cases q : (chG g X).1 = 0
      · rw [if_pos q, if_pos q, ite_self]
      · rw [if_neg q, if_neg q]
        by_cases q2 : shN (chG g X).2 gap = c
        · by_cases q3 : ok (chG g X).2 = true
          · rw [if_pos ⟨q3, q2⟩, if_pos q2, if_pos q3]
          · rw [if_neg (fun z => q3 z.1), if_pos q2, if_neg q3]
        · rw [if_neg (fun z => q2 z.2), if_neg q2]
    rw [e, h1]
    by_cases c1 : X / 2 = gap
    · by_cases c2 : shN (chG g X).2 gap = c
      · have c12 : X / 2 = gap ∧ shN (chG g X).2 gap = c := ⟨c1, c2⟩
        by_cases c3 : shN g gap = c
        · simp only [if_pos c1, if_pos c2, if_pos c12, if_pos c3]; omega
        · simp only [if_pos c2, if_pos c12, if_neg c3]; omega
      · have c12 : ¬ (X / 2 = gap ∧ shN (chG g X).2 gap = c) := fun z => c2 z.2
        by_cases c3 : shN g gap = c
        · simp only [if_pos c1, if_neg c2, if_neg c12, if_pos c3]; omega
        · simp only [if_neg c2, if_neg c12, if_neg c3]
    · have c12 : ¬ (X / 2 = gap ∧ shN (chG g X).2 gap = c) := fun z => c1 z.1
      rw [if_neg c12, ch_shn hb (by omega) (fun z => c1 z.symm)]
      by_cases c3 : shN g gap = c
      · simp only [if_neg c1, if_pos c3]; omega
      · simp only [if_neg c3]
/-- how far the last passes have come: the codes ahead of X -/
def FI (ok : GM → Bool) (g : GM) (dep R : Nat) (T : Nat → Nat → Nat) (X : Nat) (S U : aw_S) : Prop :=
  FrI (fun k j => (k = 102 ∧ j = 0) ∨ k = 103 ∨ k = 104 ∨ k = 107 ∨ k = 108) S U ∧ U.1 102 0 = nI (R + sumF (acN ok g) X) ∧ (∀ gap, gap < 7 → U.1 107 gap = nI (cgN ok g gap X)) ∧ (∀ gap c, gap < gpN g.n → c ≤ 6 → U.1 108 (7 * gap + c) = nI (T gap c + ccN ok g gap c X)) ∧
  ((R ≠ 0 ∨ sumF (acN ok g) X = 0) → ∀ j, U.1 103 j = S.1 103 j) ∧ (R = 0 → sumF (acN ok g) X ≠ 0 → ∃ x0, x0 < X ∧ acN ok g x0 ≠ 0 ∧ (∀ y, y < x0 → acN ok g y = 0) ∧ (∀ i, i < dep → U.1 103 i = S.1 104 i) ∧ U.1 103 dep = nI x0) ∧ (∀ i, i < dep → U.1 104 i = S.1 104 i)
theorem sum_s (f : Nat → Nat) (X : Nat) : sumF f (X + 1) = sumF f X + f X := rfl
theorem sum_z {f : Nat → Nat} : ∀ X, sumF f X = 0 → ∀ y, y < X → f y = 0 := by
  intro X
  induction X with
  | zero => intro _ y hy; exact absurd hy (Nat.not_lt_zero y)
  | succ X ih =>
    intro h y hy
    rw [sum_s] at h
    by_cases e : y = X
    · rw [e]; omega
    · exact ih (by omega) y (by omega)
theorem FI.s0 {ok : GM → Bool} {g : GM} {dep R X : Nat} {T : Nat → Nat → Nat} {S U : aw_S} (h : FI ok g dep R T X S U) (h0 : acN ok g X = 0) : FI ok g dep R T (X + 1) S U := by
  obtain ⟨f1, f2, f3, f4, f5, f6, f7⟩ := h
  have e1 : sumF (acN ok g) (X + 1) = sumF (acN ok g) X := by rw [sum_s, h0, Nat.add_zero]
  refine ⟨f1, by rw [e1]; exact f2, fun gap hg => ?_, fun gap c hg hc => ?_, by rw [e1]; exact f5, fun r q => ?_, f7⟩
  · rw [f3 gap hg]
    unfold cgN
    rw [sum_s, h0, ite_self, Nat.add_zero]
  · rw [f4 gap c hg hc]
    unfold ccN
    rw [sum_s, h0, ite_self, Nat.add_zero]
  · rw [e1] at q
    obtain ⟨x0, a1, a2⟩ := f6 r q
    exact ⟨x0, by omega, a2⟩
theorem FI.s1 {ok : GM → Bool} {g : GM} {dep R X : Nat} {T : Nat → Nat → Nat} {S U V : aw_S} (h : FI ok g dep R T X S U) (h1 : acN ok g X = 1) (hX : X / 2 < 7) (hc6 : shN (chG g X).2 (X / 2) ≤ 6)
    (F : FrI (fun k j => (k = 102 ∧ j = 0) ∨ k = 103 ∨ k = 104 ∨ (k = 107 ∧ j = X / 2) ∨ (k = 108 ∧ j = 7 * (X / 2) + shN (chG g X).2 (X / 2))) U V) (v1 : V.1 102 0 = nI (R + sumF (acN ok g) X + 1)) (v2 : V.1 107 (X / 2) = U.1 107 (X / 2) + 1) (v3 : V.1 108 (7 * (X / 2) + shN (chG g X).2 (X / 2)) = U.1 108 (7 * (X / 2) + shN (chG g X).2 (X / 2)) + 1)
    (v4 : R + sumF (acN ok g) X ≠ 0 → (∀ j, V.1 103 j = U.1 103 j) ∧ ∀ j, V.1 104 j = U.1 104 j) (v5 : R + sumF (acN ok g) X = 0 → (∀ j, j < dep → V.1 103 j = U.1 104 j) ∧ V.1 103 dep = nI X ∧ ∀ j, j < dep → V.1 104 j = U.1 104 j) : FI ok g dep R T (X + 1) S V := by
  obtain ⟨f1, f2, f3, f4, f5, f6, f7⟩ := h
  have e1 : sumF (acN ok g) (X + 1) = sumF (acN ok g) X + 1 := by rw [sum_s, h1]
  refine ⟨f1.trans (F.mono (fun k j q => by omega)), by rw [e1]; exact v1, fun gap hg => ?_, fun gap c hg hc => ?_, fun q => ?_, fun r q => ?_, fun i hi => ?_⟩
  · have e : cgN ok g gap (X + 1) = cgN ok g gap X + (if X / 2 = gap then 1 else 0) := by
      unfold cgN
      rw [sum_s, h1]
    rw [e]
    by_cases c : X / 2 = gap
    · rw [if_pos c, ← c, v2, f3 _ hX, nI_1]
    · rw [if_neg c, F.1 107 gap (by omega), f3 gap hg, Nat.add_zero]
  · have e : ccN ok g gap c (X + 1) = ccN ok g gap c X + (if X / 2 = gap ∧ shN (chG g X).2 gap = c then 1 else 0) := by
      unfold ccN
      rw [sum_s, h1]
    rw [e]
    by_cases q : X / 2 = gap ∧ shN (chG g X).2 gap = c
    · obtain ⟨q1, q2⟩ := q
      subst q1
      subst q2
      rw [if_pos ⟨rfl, rfl⟩, v3, f4 _ _ hg hc, nI_1, Nat.add_assoc]
    · rw [if_neg q, F.1 108 _ (fun z => ?_), f4 gap c hg hc, Nat.add_zero]
      have z : 7 * gap + c = 7 * (X / 2) + shN (chG g X).2 (X / 2) := by omega
      have z1 : X / 2 = gap := by omega
      rw [z1] at z
      exact q ⟨z1, by omega⟩
  · intro j
    have q2 : R ≠ 0 := by omega
    rw [(v4 (by omega)).1 j, f5 (Or.inl q2) j]
  · by_cases c : sumF (acN ok g) X = 0
    · obtain ⟨y1, y2, y3⟩ := v5 (by omega)
      refine ⟨X, by omega, by omega, sum_z X c, fun i hi => ?_, y2⟩
      rw [y1 i hi]
      exact f7 i hi
    · obtain ⟨x0, a1, a2, a3, a4, a5⟩ := f6 r c
      obtain ⟨y1, -⟩ := v4 (by omega)
      refine ⟨x0, by omega, a2, a3, fun i hi => ?_, ?_⟩
      · rw [y1 i]; exact a4 i hi
      · rw [y1 dep]; exact a5
  · by_cases c : R + sumF (acN ok g) X = 0
    · rw [(v5 c).2.2 i hi]; exact f7 i hi
    · rw [(v4 c).2 i]; exact f7 i hi
/-- what an extension does: rows R and table T before it -/
def ExP (ok : GM → Bool) (g : GM) (b dep r R : Nat) (T : Nat → Nat → Nat) (S U : aw_S) : Prop :=
  FrI (fun k j => (k = 102 ∧ j = 0) ∨ k = 103 ∨ k = 104 ∨ k = 106 ∨ k = 107 ∨ k = 108 ∨ GX b k j) S U ∧ GrG U.1 b g ∧ U.1 102 0 = nI (R + rowsN ok r g) ∧ (∀ gap c, gap < gpN g.n → c ≤ 6 → U.1 108 (7 * gap + c) = nI (T gap c + tabN ok gap c r g)) ∧
  ((R ≠ 0 ∨ rowsN ok r g = 0) → ∀ j, U.1 103 j = S.1 103 j) ∧ (R = 0 → rowsN ok r g ≠ 0 → ∃ p, FR ok r g p ∧ (∀ i, i < dep → U.1 103 i = S.1 104 i) ∧ ∀ i, i < r → U.1 103 (dep + i) = nI (p i)) ∧ (∀ i, i < dep → U.1 104 i = S.1 104 i)
