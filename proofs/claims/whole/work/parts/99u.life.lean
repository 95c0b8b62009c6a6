/-! a life: blocks of steps -/
def itF (h : LvS → LvS) : Nat → LvS → LvS
  | 0, s => s
  | k + 1, s => if s.hl = true then s else itF h k (h s)
def up1 (s : LvS) : LvS := (s.g, s.dr, s.st + 1, s.ms, s.ci, s.co, s.hl, s.lf)
def haS (s : LvS) : LvS := (s.g, s.dr, s.st, s.ms, s.ci, s.co, true, s.lf)
def lfS (s : LvS) : LvS := (s.g, s.dr, s.st, s.ms, s.ci, s.co, true, true)
/-- the steps from the entry b on, ahead of t -/
def bkF (cd pr xa xb xc : Nat → Nat) : Nat → Nat → Nat → LvS → LvS
  | 0, _, _, s => s
  | f + 1, b, t, s => if t ≤ b ∨ s.hl = true then s else if 300 ≤ s.st then lfS s else
      if cd b = 14 then haS (up1 s) else
      if cd b = 12 then bkF cd pr xa xb xc f (pr b + 1) t (itF (bkF cd pr xa xb xc f (b + 1) (pr b)) (xa b) (up1 s)) else
      if 1100 ≤ cd b then bkF cd pr xa xb xc f (pr b + 1) t (if hdP (cd b) (xa b) (xb b) (xc b) s.g = true then bkF cd pr xa xb xc f (b + 1) (pr b) (up1 s) else up1 s) else
      bkF cd pr xa xb xc f (b + 1) t (msS (stQ (cd b) (xa b) (xb b) (up1 s)))
/-- an entry that is no end -/
def enR (n : Nat) (cd pr : Nat → Nat) (e x1 x2 x5 : Nat) (kd ts fs sd bh y1 y2 y4 y5 : Int32) : Prop :=
  (opOk n (cd e) x1 x2 ∧ kd = (if cd e = 3 then 4 else nI (cd e)) ∧ ((cd e = 3 ∨ cd e = 8 ∨ cd e = 9) → fs = nI x1 ∧ y1 = nI x1) ∧ ((cd e = 3 ∨ cd e = 9) → sd = nI x2 ∧ y2 = nI x2) ∧ bh = nI (ncN cd e + 1)) ∨
  (cd e = 14 ∧ kd = 18 ∧ bh = nI (ncN cd e + 1)) ∨
  (cd e = 12 ∧ kd = 16 ∧ (1 ≤ x1 ∧ x1 ≤ 99) ∧ (fs = nI x1 ∧ y1 = nI x1) ∧ bh = nI (ncN cd (pr e)) ∧ y4 = nI (pr e)) ∨
  (kd = 11 ∧ bh = nI (ncN cd (pr e)) ∧ y4 = nI (pr e) ∧ hdR n (cd e) x1 x2 x5 ts fs sd y1 y2 y5)
/-- entries, their ends -/
def WfP (N : Nat) (cd pr : Nat → Nat) : Prop := N ≤ 60 ∧ ncN cd N ≤ 30 ∧ (∀ e, e < N → cd e = 13 → pr e < e ∧ opN cd (pr e) = true ∧ pr (pr e) = e) ∧ (∀ e, e < N → opN cd e = true → e < pr e ∧ pr e < N ∧ cd (pr e) = 13 ∧ pr (pr e) = e) ∧
  (∀ e e', e < N → e' < N → opN cd e = true → opN cd e' = true → e < e' → e' < pr e → pr e' < pr e) ∧
  (∀ a b c d, d < N → opN cd a = true → opN cd b = true → opN cd c = true → opN cd d = true → a < b → b < pr a → b < c → c < pr b → c < d → d < pr c → False)
def dpC (cd pr : Nat → Nat) : Nat → Nat → Prop
  | 0, o => opN cd o = true
  | k + 1, o => opN cd o = true ∧ ∃ o', o' < o ∧ o < pr o' ∧ dpC cd pr k o'
def WB (N : Nat) (cd pr : Nat → Nat) (b t : Nat) : Prop := b ≤ t ∧ t ≤ N ∧ (∀ e, b ≤ e → e < t → cd e = 13 → b ≤ pr e) ∧ (∀ e, b ≤ e → e < t → opN cd e = true → pr e < t)
theorem nc_mono (cd : Nat → Nat) {x y : Nat} (h : x ≤ y) : ncN cd x ≤ ncN cd y := by
  induction h with
  | refl => exact Nat.le_refl _
  | step _ ih => exact Nat.le_trans ih (Nat.le_add_right _ _)
theorem nc_1 {cd : Nat → Nat} {e : Nat} (h : ¬ cd e = 13) : ncN cd (e + 1) = ncN cd e + 1 := by
  show ncN cd e + (if cd e = 13 then 0 else 1) = _
  rw [if_neg h]
theorem nc_0 {cd : Nat → Nat} {e : Nat} (h : cd e = 13) : ncN cd (e + 1) = ncN cd e := by
  show ncN cd e + (if cd e = 13 then 0 else 1) = _
  rw [if_pos h]
  rfl
theorem op_13 {cd : Nat → Nat} {e : Nat} (h : opN cd e = true) : ¬ cd e = 13 := by
  intro z
  unfold opN at h
  rw [z] at h
  exact absurd h (by decide)
theorem op_12 {cd : Nat → Nat} {e : Nat} (h : cd e = 12) : opN cd e = true := by
  unfold opN
  rw [h]
  decide
theorem op_11 {cd : Nat → Nat} {e : Nat} (h : 1100 ≤ cd e) : opN cd e = true := by
  unfold opN
  rw [Bool.or_eq_true, decide_eq_true_iff, decide_eq_true_iff]
  exact Or.inr h
theorem op_no {cd : Nat → Nat} {e : Nat} (h : ¬ cd e = 12) (h2 : ¬ 1100 ≤ cd e) : ¬ opN cd e = true := by
  unfold opN
  rw [Bool.or_eq_true, decide_eq_true_iff, decide_eq_true_iff]
  exact fun z => z.elim h h2
section WBS
variable {N : Nat} {cd pr : Nat → Nat} {b t : Nat}
theorem WB.ne (W : WfP N cd pr) (h : WB N cd pr b t) (hb : b < t) : ¬ cd b = 13 := by
  intro z
  have h1 := (W.2.2.1 b (by have := h.2.1; omega) z).1
  have h2 := h.2.2.1 b (Nat.le_refl _) hb z
  omega
theorem WB.next (W : WfP N cd pr) (h : WB N cd pr b t) (hb : b < t) (ho : ¬ opN cd b = true) : WB N cd pr (b + 1) t := by
  refine ⟨hb, h.2.1, fun e h1 h2 h3 => ?_, fun e h1 h2 h3 => h.2.2.2 e (by omega) h2 h3⟩
  have k1 := h.2.2.1 e (by omega) h2 h3
  have k2 := (W.2.2.1 e (by have := h.2.1; omega) h3).2.1
  have : pr e ≠ b := fun z => ho (by rw [← z]; exact k2)
  omega
theorem WB.sub (W : WfP N cd pr) (h : WB N cd pr b t) (hb : b < t) (ho : opN cd b = true) : WB N cd pr (b + 1) (pr b) := by
  have hN := h.2.1
  obtain ⟨w1, w2, w3, w4⟩ := W.2.2.2.1 b (by omega) ho
  refine ⟨w1, by omega, fun e h1 h2 h3 => ?_, fun e h1 h2 h3 => W.2.2.2.2.1 b e (by omega) (by omega) ho h3 (by omega) h2⟩
  have pt := h.2.2.2 b (Nat.le_refl _) hb ho
  have k1 := h.2.2.1 e (by omega) (by omega) h3
  have k2 := (W.2.2.1 e (by omega) h3).2.2
  have : pr e ≠ b := fun z => by rw [z] at k2; omega
  omega
theorem WB.rest (W : WfP N cd pr) (h : WB N cd pr b t) (hb : b < t) (ho : opN cd b = true) : WB N cd pr (pr b + 1) t := by
  have hN := h.2.1
  obtain ⟨w1, w2, w3, w4⟩ := W.2.2.2.1 b (by omega) ho
  have pt := h.2.2.2 b (Nat.le_refl _) hb ho
  refine ⟨pt, h.2.1, fun e h1 h2 h3 => ?_, fun e h1 h2 h3 => h.2.2.2 e (by omega) h2 h3⟩
  have k1 := h.2.2.1 e (by omega) (by omega) h3
  obtain ⟨k2, k3, k4⟩ := W.2.2.1 e (by omega) h3
  have n1 : pr e ≠ b := fun z => by rw [z] at k4; omega
  have n2 : pr e ≠ pr b := fun z => op_13 k3 (by rw [z]; exact w3)
  have n3 : ¬ (b < pr e ∧ pr e < pr b) := fun z => by
    have := W.2.2.2.2.1 b (pr e) (by omega) (by omega) ho k3 z.1 z.2
    omega
  omega
theorem WB.all (W : WfP N cd pr) : WB N cd pr 0 N := ⟨Nat.zero_le _, Nat.le_refl _, fun _ _ _ _ => Nat.zero_le _, fun e _ h2 h3 => (W.2.2.2.1 e h2 h3).2.1⟩
theorem dp_3 (W : WfP N cd pr) {o : Nat} (ho : o < N) (h : dpC cd pr 3 o) : False := by
  obtain ⟨h1, o1, q1, q2, h2, o2, q3, q4, h3, o3, q5, q6, h4⟩ := h
  exact W.2.2.2.2.2 o3 o2 o1 o ho h4 h3 h2 h1 q5 q6 q3 q4 q1 q2
end WBS
theorem LsB.up {n : Nat} {s : LvS} (h : LsB n s) (hs : s.st < 300) : LsB n (up1 s) := ⟨h.1, h.2.1, h.2.2.1, h.2.2.2.1, hs⟩
theorem it_B {n : Nat} {h : LvS → LvS} (hh : ∀ s, LsB n s → LsB n (h s)) : ∀ k s, LsB n s → LsB n (itF h k s) := by
  intro k
  induction k with
  | zero => intro s B; exact B
  | succ k ih =>
    intro s B
    show LsB n (if s.hl = true then s else itF h k (h s))
    split
    · exact B
    · exact ih _ (hh s B)
/-- what the entries of a program are -/
def enA (n N : Nat) (cd pr xa xb xc : Nat → Nat) (I : Nat → Nat → Int32) (c : Nat) : Prop := ∀ e, e < N → ¬ cd e = 13 → enR n cd pr e (xa e) (xb e) (xc e) (I (c + 1) (ncN cd e)) (I (c + 2) (ncN cd e)) (I (c + 3) (ncN cd e)) (I (c + 4) (ncN cd e)) (I (c + 5) (ncN cd e)) (I 115 (184 + 6 * e + 1)) (I 115 (184 + 6 * e + 2)) (I 115 (184 + 6 * e + 4)) (I 115 (184 + 6 * e + 5))
theorem enR.ty {n : Nat} {cd pr : Nat → Nat} {e x1 x2 x5 : Nat} {kd ts fs sd bh y1 y2 y4 y5 : Int32} (h : enR n cd pr e x1 x2 x5 kd ts fs sd bh y1 y2 y4 y5) (h1 : ¬ cd e = 14) (h2 : ¬ cd e = 12) (h3 : ¬ 1100 ≤ cd e) : opOk n (cd e) x1 x2 ∧ kd = (if cd e = 3 then 4 else nI (cd e)) ∧ ((cd e = 3 ∨ cd e = 8 ∨ cd e = 9) → fs = nI x1 ∧ y1 = nI x1) ∧ ((cd e = 3 ∨ cd e = 9) → sd = nI x2 ∧ y2 = nI x2) ∧ bh = nI (ncN cd e + 1) := by
  rcases h with h | ⟨h, -⟩ | ⟨h, -⟩ | ⟨-, -, -, h⟩
  · exact h
  · exact absurd h h1
  · exact absurd h h2
  · exfalso
    rcases h with ⟨h, -⟩ | ⟨h, -⟩ | ⟨h, -⟩ | ⟨h, -⟩ <;> omega
theorem enR.t14 {n : Nat} {cd pr : Nat → Nat} {e x1 x2 x5 : Nat} {kd ts fs sd bh y1 y2 y4 y5 : Int32} (h : enR n cd pr e x1 x2 x5 kd ts fs sd bh y1 y2 y4 y5) (h1 : cd e = 14) : kd = 18 ∧ bh = nI (ncN cd e + 1) := by
  rcases h with ⟨h, -⟩ | ⟨-, h⟩ | ⟨h, -⟩ | ⟨-, -, -, h⟩
  · exfalso
    rcases h with ⟨h, -⟩ | h | ⟨h, -⟩ | ⟨h, -⟩ | h <;> omega
  · exact h
  · omega
  · exfalso
    rcases h with ⟨h, -⟩ | ⟨h, -⟩ | ⟨h, -⟩ | ⟨h, -⟩ <;> omega
theorem enR.t12 {n : Nat} {cd pr : Nat → Nat} {e x1 x2 x5 : Nat} {kd ts fs sd bh y1 y2 y4 y5 : Int32} (h : enR n cd pr e x1 x2 x5 kd ts fs sd bh y1 y2 y4 y5) (h1 : cd e = 12) : kd = 16 ∧ (1 ≤ x1 ∧ x1 ≤ 99) ∧ (fs = nI x1 ∧ y1 = nI x1) ∧ bh = nI (ncN cd (pr e)) ∧ y4 = nI (pr e) := by
  rcases h with ⟨h, -⟩ | ⟨h, -⟩ | ⟨-, h⟩ | ⟨-, -, -, h⟩
  · exfalso
    rcases h with ⟨h, -⟩ | h | ⟨h, -⟩ | ⟨h, -⟩ | h <;> omega
  · omega
  · exact h
  · exfalso
    rcases h with ⟨h, -⟩ | ⟨h, -⟩ | ⟨h, -⟩ | ⟨h, -⟩ <;> omega
theorem enR.t11 {n : Nat} {cd pr : Nat → Nat} {e x1 x2 x5 : Nat} {kd ts fs sd bh y1 y2 y4 y5 : Int32} (h : enR n cd pr e x1 x2 x5 kd ts fs sd bh y1 y2 y4 y5) (h1 : 1100 ≤ cd e) : kd = 11 ∧ bh = nI (ncN cd (pr e)) ∧ y4 = nI (pr e) ∧ hdR n (cd e) x1 x2 x5 ts fs sd y1 y2 y5 := by
  rcases h with ⟨h, -⟩ | ⟨h, -⟩ | ⟨h, -⟩ | h
  · exfalso
    rcases h with ⟨h, -⟩ | h | ⟨h, -⟩ | ⟨h, -⟩ | h <;> omega
  · omega
  · omega
  · exact h
section BKF
variable {n N : Nat} {cd pr xa xb xc : Nat → Nat} {I : Nat → Nat → Int32} {c : Nat}
theorem bkF_B (W : WfP N cd pr) (E : enA n N cd pr xa xb xc I c) : ∀ f b t s, WB N cd pr b t → LsB n s → LsB n (bkF cd pr xa xb xc f b t s) := by
  intro f
  induction f with
  | zero => intro b t s _ B; exact B
  | succ f ih =>
    intro b t s w B
    unfold bkF
    split
    · exact B
    · rename_i h0
      have hb : b < t := by omega
      have hN := w.2.1
      have e := E b (by omega) (w.ne W hb)
      split
      · exact B
      · rename_i h1
        split
        · exact B.up (by omega)
        · rename_i h2
          split
          · rename_i h3
            have ho := op_12 h3
            exact ih _ _ _ (w.rest W hb ho) (it_B (fun s' B' => ih _ _ s' (w.sub W hb ho) B') _ _ (B.up (by omega)))
          · rename_i h3
            split
            · rename_i h4
              have ho := op_11 h4
              refine ih _ _ _ (w.rest W hb ho) ?_
              split
              · exact ih _ _ _ (w.sub W hb ho) (B.up (by omega))
              · exact B.up (by omega)
            · rename_i h4
              exact ih _ _ _ (w.next W hb (op_no h3 h4)) (LsB.ms1 ((B.up (by omega)).st1 (e.ty h2 h3 h4).1))
theorem bkF_hl {f b t : Nat} {s : LvS} (h : s.hl = true) : bkF cd pr xa xb xc f b t s = s := by
  cases f with
  | zero => rfl
  | succ f =>
    unfold bkF
    rw [if_pos (Or.inr h)]
theorem bkF_end {f b : Nat} {s : LvS} : bkF cd pr xa xb xc f b b s = s := by
  cases f with
  | zero => rfl
  | succ f =>
    unfold bkF
    rw [if_pos (Or.inl (Nat.le_refl _))]
end BKF
