/-! weave -/
def wst (st : GM × Nat × Nat) (gap over : Nat) : GM × Nat × Nat := ((psG st.1 gap over).2, st.2.1 + (if (psG st.1 gap over).1 = 1 then 1 else 0), st.2.2 + (if (psG st.1 gap over).1 = 2 then 1 else 0))
def wv1 (n : Nat) : Nat → Nat → GM × Nat × Nat → GM × Nat × Nat
  | 0, _, st => st
  | j + 1, gap, st => if gap < gpN n then (if 0 < gap ∧ tchN n gap 0 = true then wv1 n j (gap + 2) st else wv1 n j (gap + 2) (wst st gap 1)) else st
def wv2 (n : Nat) : Nat → Nat → GM × Nat × Nat → GM × Nat × Nat
  | 0, _, st => st
  | j + 1, gap, st => if gap < gpN n then wv2 n j (gap + 2) (wst st gap 0) else st
def wvO (n : Nat) (st : GM × Nat × Nat) : GM × Nat × Nat := wv2 n 4 1 (wv1 n 4 0 st)
def wvT (n : Nat) : Nat → GM × Nat × Nat → GM × Nat × Nat
  | 0, st => st
  | t + 1, st => wvT n t (wvO n st)
theorem k1_n (k : Nat) : k1 k = nI (if k = 1 then 1 else 0) := by
  unfold k1
  split <;> rfl
theorem k2_n (k : Nat) : k2 k = nI (if k = 2 then 1 else 0) := by
  unfold k2
  split <;> rfl
/-- a green, and how many came and went on the way to it -/
def WvB (n : Nat) (g : GM) (st : GM × Nat × Nat) : Prop := bdG st.1 ∧ redN st.1.n st.1.f st.1.m ∧ st.1.n = n ∧ st.1.col = g.col ∧ st.1.od = g.od
def WvC (S S' : aw_S) (a : Nat) (st : GM × Nat × Nat) : Prop := FrI (GX a) S S' ∧ GrG S'.1 a st.1 ∧ S'.1 a 3 = S.1 a 3 + nI st.2.1 ∧ S'.1 a 4 = S.1 a 4 + nI st.2.2
def MXw (k j : Nat) : Prop := MXd k j ∨ (k = 114 ∧ (j = 26 ∨ j = 27))
def WvM (S S' : aw_S) (i0 o0 : Nat) (st : GM × Nat × Nat) : Prop := FrI MXw S S' ∧ MdG S'.1 0 st.1 ∧ S'.1 114 26 = nI (st.2.1 - i0) ∧ S'.1 114 27 = nI (st.2.2 - o0) ∧ S'.1 115 4 = S.1 115 4 + nI (st.2.1 - i0) + nI (st.2.2 - o0) ∧ i0 ≤ st.2.1 ∧ o0 ≤ st.2.2
theorem WvB.step {n gap over : Nat} {g : GM} {st : GM × Nat × Nat} (h : WvB n g st) (hg : gap < gpN n) (ho : over < 2) : WvB n g (wst st gap over) := by
  obtain ⟨h1, h2, h3, h4, h5⟩ := h
  obtain ⟨p1, p2, p3, p4, p5, p6⟩ := ps_ok h1 h2 (by rw [h3]; exact hg) ho
  exact ⟨p1, p2, p3.trans h3, p5.trans h4, p6.trans h5⟩
theorem wst_sum (st : GM × Nat × Nat) (gap over : Nat) (h : (psG st.1 gap over).1 < 3) : (wst st gap over).2.1 + (wst st gap over).2.2 = st.2.1 + st.2.2 + (if (psG st.1 gap over).1 = 0 then 0 else 1) := by
  unfold wst
  show st.2.1 + _ + (st.2.2 + _) = _
  have : (psG st.1 gap over).1 = 0 ∨ (psG st.1 gap over).1 = 1 ∨ (psG st.1 gap over).1 = 2 := by omega
  rcases this with e | e | e <;> rw [e] <;> simp <;> omega
theorem wst_0 {st : GM × Nat × Nat} {gap over : Nat} (h : (psG st.1 gap over).1 = 0) : wst st gap over = st := by
  have e2 : (psG st.1 gap over).2 = st.1 := by
    revert h
    unfold psG
    split
    · intro h; exact absurd h (by decide : ¬ (2 : Nat) = 0)
    · split
      · intro h; exact absurd h (by decide : ¬ (1 : Nat) = 0)
      · exact fun _ => rfl
  unfold wst
  rw [h, e2]
  rfl
theorem wst_mono (st : GM × Nat × Nat) (gap over : Nat) : st.2.1 ≤ (wst st gap over).2.1 ∧ st.2.2 ≤ (wst st gap over).2.2 := ⟨Nat.le_add_right _ _, Nat.le_add_right _ _⟩
theorem wst_up (st : GM × Nat × Nat) (gap over : Nat) : (wst st gap over).2.1 ≤ st.2.1 + 1 ∧ (wst st gap over).2.2 ≤ st.2.2 + 1 := by
  unfold wst
  constructor
  · show st.2.1 + _ ≤ _
    split <;> omega
  · show st.2.2 + _ ≤ _
    split <;> omega
section WV
variable {l : Launch} {d : Nat} {sh : aw_SH} {S : aw_S} {g : GM} {a n : Nat}
theorem sp_makeW {P : Int32 → aw_S → Prop} {S' : aw_S} {gap over : Nat} {st : GM × Nat × Nat} (hS : GrS sh S.2.2 a) (B : WvB n g st) (C : WvC S S' a st) (hg : gap < gpN n) (ho : over < 2) (h : ∀ r S'', WvC S S'' a (wst st gap over) → ((psG st.1 gap over).1 = 0 ↔ r = -1) → P r S'') : Sp l m_Gr_makePass (d + 1 + 1 + 1 + 1) 0 0 [.ref a, .int (nI (2 * gap + over))] sh S' (gI sh P) := by
  obtain ⟨b1, b2, b3, b4, b5⟩ := B
  obtain ⟨c1, c2, c3, c4⟩ := C
  refine sp_make (by rw [c1.R]; exact hS) b1 c2 (by rw [b3]; exact hg) ho (fun r S'' F G hr e3 e4 => h r S'' ⟨c1.trans F, G, ?_, ?_⟩ hr)
  · rw [e3, c3, k1_n, Int32.add_assoc, nI_add]
    rfl
  · rw [e4, c4, k2_n, Int32.add_assoc, nI_add]
    rfl
theorem sp_weaves1 {P : aw_S → Prop} {S' : aw_S} {gap over i0 o0 : Nat} {st : GM × Nat × Nat} (hS : MdS sh S.2.2) (B : WvB n g st) (C : WvM S S' i0 o0 st) (hg : gap < gpN n) (ho : over < 2) (h : ∀ S'', WvM S S'' i0 o0 (wst st gap over) → P S'') : Sp l m_Md_weaves1 (d + 1 + 1 + 1 + 1 + 1) 0 0 [.ref 114, .int (nI gap), .int (nI over)] sh S' (gV sh P) := by
  obtain ⟨b1, b2, b3, b4, b5⟩ := B
  obtain ⟨c1, c2, c3, c4, c5, c6, c7⟩ := C
  refine e_Md_weaves1 hS.1 (sp_danced (by rw [c1.R]; exact hS) b1 b2 c2 (by rw [b3]; exact hg) ho (fun T F M e4 => ?_))
  have p4 := (ps_ok b1 b2 (by rw [b3]; exact hg) ho).2.2.2.1
  have t26 : T.1 114 26 = nI (st.2.1 - i0) := by rw [F.1 114 26 (by unfold MXd; omega)]; exact c3
  have t27 : T.1 114 27 = nI (st.2.2 - o0) := by rw [F.1 114 27 (by unfold MXd; omega)]; exact c4
  have fin : ∀ x y : Nat, x = (if (psG st.1 gap over).1 = 1 then 1 else 0) → y = (if (psG st.1 gap over).1 = 2 then 1 else 0) → P (aw_uI (aw_uI T 114 26 (T.1 114 26 + nI x)) 114 27 ((aw_uI T 114 26 (T.1 114 26 + nI x)).1 114 27 + nI y)) := by
    intro x y hx hy
    refine h _ ⟨((c1.trans (F.mono (fun k j q => Or.inl q))).uI _ (by unfold MXw; omega)).uI _ (by unfold MXw; omega), ?_, ?_, ?_, ?_, Nat.le_trans c6 (wst_mono _ _ _).1, Nat.le_trans c7 (wst_mono _ _ _).2⟩
    · refine M.fr (ps_ok b1 b2 (by rw [b3]; exact hg) ho).1.1 (ps_ok b1 b2 (by rw [b3]; exact hg) ho).1.2.2.2.2.1 (fun j _ => ?_)
      rw [uI_ne _ _ _ (by omega), uI_ne _ _ _ (by omega)]
    · rw [uI_at, if_pos rfl, if_neg (by omega), uI_at, if_pos rfl, if_pos rfl, t26, nI_add]
      show _ = nI (st.2.1 + _ - i0)
      rw [← hx]
      congr 1
      omega
    · rw [uI_at, if_pos rfl, if_pos rfl, uI_at, if_pos rfl, if_neg (by omega), t27, nI_add]
      show _ = nI (st.2.2 + _ - o0)
      rw [← hy]
      congr 1
      omega
    · rw [uI_ne _ _ _ (by omega), uI_ne _ _ _ (by omega), e4, c5, k1_n, k2_n, ← hx, ← hy]
      show _ = S.1 115 4 + nI (st.2.1 + (if (psG st.1 gap over).1 = 1 then 1 else 0) - i0) + nI (st.2.2 + (if (psG st.1 gap over).1 = 2 then 1 else 0) - o0)
      rw [← hx, ← hy, show st.2.1 + x - i0 = (st.2.1 - i0) + x by omega, show st.2.2 + y - o0 = (st.2.2 - o0) + y by omega]
      simp only [Int32.add_assoc, nI_add]
      congr 2
      omega
  have e : (psG st.1 gap over).1 = 0 ∨ (psG st.1 gap over).1 = 1 ∨ (psG st.1 gap over).1 = 2 := by omega
  rcases e with e | e | e
  · have f := fin 0 0 (by rw [e]; rfl) (by rw [e]; rfl)
    rw [e]
    exact ⟨fun _ => ⟨fun _ => f, fun q => absurd q (by decide)⟩, fun q => absurd q (by decide)⟩
  · have f := fin 1 0 (by rw [e]; rfl) (by rw [e]; rfl)
    rw [e]
    exact ⟨fun q => absurd rfl q, fun _ => ⟨fun _ => f, fun q => absurd q (by decide)⟩⟩
  · have f := fin 0 1 (by rw [e]; rfl) (by rw [e]; rfl)
    rw [e]
    exact ⟨fun _ => ⟨fun q => absurd rfl q, fun _ => f⟩, fun q => absurd q (by decide)⟩
/-- a weave that does nothing leaves all as it is -/
theorem wv1_0 : ∀ j gap st, (wv1 n j gap st).2.1 + (wv1 n j gap st).2.2 = st.2.1 + st.2.2 → (∀ gap over, (psG st.1 gap over).1 < 3) → wv1 n j gap st = st := by
  intro j
  induction j with
  | zero => exact fun _ _ _ _ => rfl
  | succ j ih =>
    intro gap st h hp
    unfold wv1 at h ⊢
    split at h
    · next c =>
      rw [if_pos c]
      split at h
      · next c2 =>
        rw [if_pos c2]
        exact ih _ st h hp
      · next c2 =>
        rw [if_neg c2]
        have mono : ∀ j gap st, st.2.1 + st.2.2 ≤ (wv1 n j gap st).2.1 + (wv1 n j gap st).2.2 := by
          intro j
          induction j with
          | zero => exact fun _ _ => Nat.le_refl _
          | succ j ih =>
            intro gap st
            unfold wv1
            split
            · split
              · exact ih _ _
              · have := ih (gap + 2) (wst st gap 1)
                have := wst_mono st gap 1
                omega
            · exact Nat.le_refl _
        have m := mono j (gap + 2) (wst st gap 1)
        have s := wst_sum st gap 1 (hp gap 1)
        have e : (psG st.1 gap 1).1 = 0 := by
          by_cases z : (psG st.1 gap 1).1 = 0
          · exact z
          · rw [if_neg z] at s
            omega
        rw [wst_0 e] at h ⊢
        exact ih _ st h hp
    · next c => rw [if_neg c]
theorem wv1_mono : ∀ j gap st, st.2.1 ≤ (wv1 n j gap st).2.1 ∧ st.2.2 ≤ (wv1 n j gap st).2.2 := by
  intro j
  induction j with
  | zero => exact fun _ _ => ⟨Nat.le_refl _, Nat.le_refl _⟩
  | succ j ih =>
    intro gap st
    unfold wv1
    split
    · split
      · exact ih _ _
      · have := ih (gap + 2) (wst st gap 1)
        have := wst_mono st gap 1
        omega
    · exact ⟨Nat.le_refl _, Nat.le_refl _⟩
theorem wv2_mono : ∀ j gap st, st.2.1 ≤ (wv2 n j gap st).2.1 ∧ st.2.2 ≤ (wv2 n j gap st).2.2 := by
  intro j
  induction j with
  | zero => exact fun _ _ => ⟨Nat.le_refl _, Nat.le_refl _⟩
  | succ j ih =>
    intro gap st
    unfold wv2
    split
    · have := ih (gap + 2) (wst st gap 0)
      have := wst_mono st gap 0
      omega
    · exact ⟨Nat.le_refl _, Nat.le_refl _⟩
theorem wv2_0 : ∀ j gap st, (wv2 n j gap st).2.1 + (wv2 n j gap st).2.2 = st.2.1 + st.2.2 → (∀ gap over, (psG st.1 gap over).1 < 3) → wv2 n j gap st = st := by
  intro j
  induction j with
  | zero => exact fun _ _ _ _ => rfl
  | succ j ih =>
    intro gap st h hp
    unfold wv2 at h ⊢
    split at h
    · next c =>
      rw [if_pos c]
      have m := wv2_mono (n := n) j (gap + 2) (wst st gap 0)
      have s := wst_sum st gap 0 (hp gap 0)
      have e : (psG st.1 gap 0).1 = 0 := by
        by_cases z : (psG st.1 gap 0).1 = 0
        · exact z
        · rw [if_neg z] at s
          omega
      rw [wst_0 e] at h ⊢
      exact ih _ st h hp
    · next c => rw [if_neg c]
theorem ps_lt (g : GM) (gap over : Nat) : (psG g gap over).1 < 3 := by
  unfold psG
  split
  · exact (by decide : (2 : Nat) < 3)
  · split
    · exact (by decide : (1 : Nat) < 3)
    · exact (by decide : (0 : Nat) < 3)
theorem wvO_0 {st : GM × Nat × Nat} (h : (wvO n st).2.1 + (wvO n st).2.2 = st.2.1 + st.2.2) : wvO n st = st := by
  unfold wvO at h ⊢
  have m1 := wv1_mono (n := n) 4 0 st
  have m2 := wv2_mono (n := n) 4 1 (wv1 n 4 0 st)
  have e1 := wv1_0 (n := n) 4 0 st (by omega) (fun _ _ => ps_lt _ _ _)
  rw [e1] at h ⊢
  exact wv2_0 4 1 st h (fun _ _ => ps_lt _ _ _)
theorem wvO_mono (st : GM × Nat × Nat) : st.2.1 ≤ (wvO n st).2.1 ∧ st.2.2 ≤ (wvO n st).2.2 := by
  have m1 := wv1_mono (n := n) 4 0 st
  have m2 := wv2_mono (n := n) 4 1 (wv1 n 4 0 st)
  unfold wvO
  omega
theorem wvT_0 {st : GM × Nat × Nat} (h : wvO n st = st) : ∀ t, wvT n t st = st := by
  intro t
  induction t with
  | zero => rfl
  | succ t ih =>
    show wvT n t (wvO n st) = st
    rw [h]
    exact ih
theorem wv1_B : ∀ j gap st, WvB n g st → WvB n g (wv1 n j gap st) := by
  intro j
  induction j with
  | zero => exact fun _ _ h => h
  | succ j ih =>
    intro gap st h
    unfold wv1
    split
    · next c =>
      split
      · exact ih _ _ h
      · exact ih _ _ (h.step c (by omega))
    · exact h
theorem wv2_B : ∀ j gap st, WvB n g st → WvB n g (wv2 n j gap st) := by
  intro j
  induction j with
  | zero => exact fun _ _ h => h
  | succ j ih =>
    intro gap st h
    unfold wv2
    split
    · next c => exact ih _ _ (h.step c (by omega))
    · exact h
theorem wvO_B {st : GM × Nat × Nat} (h : WvB n g st) : WvB n g (wvO n st) := wv2_B 4 1 _ (wv1_B 4 0 _ h)
theorem wv1_up : ∀ j gap st, (wv1 n j gap st).2.1 ≤ st.2.1 + j ∧ (wv1 n j gap st).2.2 ≤ st.2.2 + j := by
  intro j
  induction j with
  | zero => exact fun _ _ => ⟨Nat.le_refl _, Nat.le_refl _⟩
  | succ j ih =>
    intro gap st
    unfold wv1
    split
    · split
      · have := ih (gap + 2) st
        omega
      · have := ih (gap + 2) (wst st gap 1)
        have := wst_up st gap 1
        omega
    · omega
theorem wv2_up : ∀ j gap st, (wv2 n j gap st).2.1 ≤ st.2.1 + j ∧ (wv2 n j gap st).2.2 ≤ st.2.2 + j := by
  intro j
  induction j with
  | zero => exact fun _ _ => ⟨Nat.le_refl _, Nat.le_refl _⟩
  | succ j ih =>
    intro gap st
    unfold wv2
    split
    · have := ih (gap + 2) (wst st gap 0)
      have := wst_up st gap 0
      omega
    · omega
theorem wvO_up (st : GM × Nat × Nat) : (wvO n st).2.1 ≤ st.2.1 + 8 ∧ (wvO n st).2.2 ≤ st.2.2 + 8 := by
  have m1 := wv1_up (n := n) 4 0 st
  have m2 := wv2_up (n := n) 4 1 (wv1 n 4 0 st)
  unfold wvO
  omega
theorem sp_Gr_weaveTimes {P : Int32 → aw_S → Prop} {T : Nat} (hS : GrS sh S.2.2 a) (hn : n ≤ 7) (B : WvB n g (g, 0, 0)) (H : GrG S.1 a g) (hT : T ≤ 9) (h : ∀ S', WvC S S' a (wvT n T (g, 0, 0)) → P (nI ((wvT n T (g, 0, 0)).2.1 + (wvT n T (g, 0, 0)).2.2)) S') : Sp l m_Gr_weaveTimes (d + 1 + 1 + 1 + 1 + 1) 0 0 [.ref a, .int (nI T)] sh S (gI sh P) := by
  have hgp := gp_le n
  have gn : g.n = n := B.2.2.1
  refine e_Gr_weaveTimes hS.sa (sp_Gr_gaps hS.sa hn (by rw [← gn]; exact H.1) ?_)
  -- the second half of a weave
  have key2 : ∀ j gap st S' (t : Nat) (b0 : Int32), gpN n ≤ gap + 2 * j → gap < 2 ^ 20 → st.2.1 + st.2.2 + j < 2 ^ 20 → WvB n g st → WvC S S' a st → (∀ S'', WvC S S'' a (wv2 n j gap st) → ((nI ((wv2 n j gap st).2.1 + (wv2 n j gap st).2.2) ≤ b0 → AW l m_Gr_weaveTimes (d + 1 + 1 + 1 + 1 + 1) 0 0 (gI sh P) 0 0 13 [.ref a, .int (nI T), .int (nI ((wv2 n j gap st).2.1 + (wv2 n j gap st).2.2)), .int (nI (gpN n)), .int 0, .int (nI t + 1), .null, .null, .null] [] sh S'') ∧ (¬ nI ((wv2 n j gap st).2.1 + (wv2 n j gap st).2.2) ≤ b0 → AW l m_Gr_weaveTimes (d + 1 + 1 + 1 + 1 + 1) 0 0 (gI sh P) 0 0 13 [.ref a, .int (nI T), .int (nI ((wv2 n j gap st).2.1 + (wv2 n j gap st).2.2)), .int (nI (gpN n)), .int 1, .int (nI t + 1), .null, .null, .null] [] sh S''))) → AW l m_Gr_weaveTimes (d + 1 + 1 + 1 + 1 + 1) 0 0 (gI sh P) 0 0 90 [.ref a, .int (nI T), .int (nI (st.2.1 + st.2.2)), .int (nI (gpN n)), .null, .int (nI t), .int b0, .int (nI gap), .null] [] sh S' := by
    intro j
    induction j with
    | zero =>
      intro gap st S' t b0 h1 h2 h3 hB hC hK
      exact s_Gr_weaveTimes_90 hS.sa ⟨fun _ => hK S' hC, fun q => absurd (nI_le (by omega) (by omega)) q⟩
    | succ j ih =>
      intro gap st S' t b0 h1 h2 h3 hB hC hK
      unfold wv2 at hK
      by_cases c : gap < gpN n
      · rw [if_pos c] at hK
        refine s_Gr_weaveTimes_90 hS.sa ⟨fun q => absurd q (nI_ge c (by omega)), fun _ => ?_⟩
        rw [show (2 : Int32) = nI 2 from rfl, pk_mul]
        refine sp_makeW (over := 0) hS hB hC c (by omega) (fun r S'' hC' hr => ?_)
        have s := wst_sum st gap 0 (ps_lt _ _ _)
        have e := ih (gap + 2) (wst st gap 0) S'' t b0 (by omega) (by omega) (by have := wst_up st gap 0; have := wst_mono st gap 0; split at s <;> omega) (hB.step c (by omega)) hC' hK
        rw [nI_add, nI_1]
        refine ⟨fun q => ?_, fun q => ?_⟩
        · rw [if_pos (hr.mpr q), Nat.add_zero] at s
          rw [s] at e
          exact e
        · rw [if_neg (fun z => q (hr.mp z))] at s
          rw [s] at e
          exact e
      · rw [if_neg c] at hK
        exact s_Gr_weaveTimes_90 hS.sa ⟨fun _ => hK S' hC, fun q => absurd (nI_le (by omega) (by omega)) q⟩
  -- the first half
  have key1 : ∀ j gap st S' (t : Nat) (b0 : Int32), gpN n ≤ gap + 2 * j → gap < 2 ^ 20 → st.2.1 + st.2.2 + j < 2 ^ 20 → WvB n g st → WvC S S' a st → (∀ S'', WvC S S'' a (wv1 n j gap st) → AW l m_Gr_weaveTimes (d + 1 + 1 + 1 + 1 + 1) 0 0 (gI sh P) 0 0 90 [.ref a, .int (nI T), .int (nI ((wv1 n j gap st).2.1 + (wv1 n j gap st).2.2)), .int (nI (gpN n)), .null, .int (nI t), .int b0, .int 1, .null] [] sh S'') → AW l m_Gr_weaveTimes (d + 1 + 1 + 1 + 1 + 1) 0 0 (gI sh P) 0 0 30 [.ref a, .int (nI T), .int (nI (st.2.1 + st.2.2)), .int (nI (gpN n)), .null, .int (nI t), .int b0, .int (nI gap), .null] [] sh S' := by
    intro j
    induction j with
    | zero =>
      intro gap st S' t b0 h1 h2 h3 hB hC hK
      exact s_Gr_weaveTimes_30 hS.sa ⟨fun _ => hK S' hC, fun q => absurd (nI_le (by omega) (by omega)) q⟩
    | succ j ih =>
      intro gap st S' t b0 h1 h2 h3 hB hC hK
      unfold wv1 at hK
      by_cases c : gap < gpN n
      · rw [if_pos c] at hK
        have mk : ¬ (0 < gap ∧ tchN n gap 0 = true) → Sp l m_Gr_makePass (d + 1 + 1 + 1 + 1) 0 0 [.ref a, .int (nI (2 * gap + 1))] sh S' (gI sh (fun x5 S4 => ((x5 = (-1) → AW l m_Gr_weaveTimes (d + 1 + 1 + 1 + 1 + 1) 0 0 (gI sh P) 0 0 30 [.ref a, .int (nI T), .int (nI (st.2.1 + st.2.2)), .int (nI (gpN n)), .null, .int (nI t), .int b0, .int (nI (gap + 2)), .null] [] sh S4) ∧ (¬ x5 = (-1) → AW l m_Gr_weaveTimes (d + 1 + 1 + 1 + 1 + 1) 0 0 (gI sh P) 0 0 30 [.ref a, .int (nI T), .int (nI (st.2.1 + st.2.2 + 1)), .int (nI (gpN n)), .null, .int (nI t), .int b0, .int (nI (gap + 2)), .null] [] sh S4)))) := by
          intro c2
          rw [if_neg c2] at hK
          refine sp_makeW (over := 1) hS hB hC c (by omega) (fun r S'' hC' hr => ?_)
          have s := wst_sum st gap 1 (ps_lt _ _ _)
          have e := ih (gap + 2) (wst st gap 1) S'' t b0 (by omega) (by omega) (by split at s <;> omega) (hB.step c (by omega)) hC' hK
          refine ⟨fun q => ?_, fun q => ?_⟩
          · rw [if_pos (hr.mpr q), Nat.add_zero] at s
            rw [s] at e
            exact e
          · rw [if_neg (fun z => q (hr.mp z))] at s
            rw [s] at e
            exact e
        have e21 : (2 : Int32) * nI gap + 1 = nI (2 * gap + 1) := by rw [show (2 : Int32) = nI 2 from rfl, pk_mul, nI_1]
        refine s_Gr_weaveTimes_30 hS.sa ⟨fun q => absurd q (nI_ge c (by omega)), fun _ => ?_⟩
        rw [e21, nI_1, nA2]
        refine ⟨fun q => mk (fun z => absurd q (nI_nle z.1 (by omega))), fun q => ?_⟩
        have gpos : 0 < gap := Nat.pos_of_ne_zero (fun z => q (by rw [z]; exact Int32.le_refl 0))
        have g0 : S'.1 a 0 = nI n := by rw [← hB.2.2.1]; exact hC.2.1.1
        obtain ⟨t1, t2⟩ := tm_b n (by omega) gap c
        refine sp_Gr_touching hS.sa hn c g0 ?_
        rw [n_and1 (by omega)]
        have tt := t2 0 (by omega)
        rw [Nat.pow_zero, Nat.div_one] at tt
        refine ⟨fun q2 => mk (fun z => ?_), fun q2 => ?_⟩
        · have q2 : tmN n gap % 2 = 0 := (nI_inj (b := 0) (by omega) (by omega)).mp q2
          exact absurd z.2 (by rw [tt.mp q2]; decide)
        · have c2 : tchN n gap 0 = true := by
            cases e : tchN n gap 0
            · exact absurd (by rw [tt.mpr e]; rfl) q2
            · rfl
          rw [if_pos ⟨gpos, c2⟩] at hK
          exact ih (gap + 2) st S' t b0 (by omega) (by omega) (by omega) hB hC hK
      · rw [if_neg c] at hK
        exact s_Gr_weaveTimes_30 hS.sa ⟨fun _ => hK S' hC, fun q => absurd (nI_le (by omega) (by omega)) q⟩
  have key : ∀ j t st S', t + j = T → st.2.1 + st.2.2 ≤ 16 * t → WvB n g st → WvC S S' a st → wvT n j st = wvT n T (g, 0, 0) → AW l m_Gr_weaveTimes (d + 1 + 1 + 1 + 1 + 1) 0 0 (gI sh P) 0 0 13 [.ref a, .int (nI T), .int (nI (st.2.1 + st.2.2)), .int (nI (gpN n)), .int 1, .int (nI t), .null, .null, .null] [] sh S' := by
    intro j
    induction j with
    | zero =>
      intro t st S' ht hb hB hC he
      have he : st = wvT n T (g, 0, 0) := he
      have hp := h S' (by rw [← he]; exact hC)
      rw [← he] at hp
      exact s_Gr_weaveTimes_13 hS.sa ⟨fun _ => hp, fun q => absurd (nI_le (by omega) (by omega)) q⟩
    | succ j ih =>
      intro t st S' ht hb hB hC he
      refine s_Gr_weaveTimes_13 hS.sa ⟨fun q => absurd q (nI_ge (by omega) (by omega)), fun _ => ⟨fun q => absurd q (by decide), fun _ => ?_⟩⟩
      refine key1 4 0 st S' t _ (by omega) (by omega) (by omega) hB hC (fun S1 hC1 => ?_)
      have u1 := wv1_up (n := n) 4 0 st
      have m1 := wv1_mono (n := n) 4 0 st
      have hB1 := wv1_B (n := n) (g := g) 4 0 st hB
      refine key2 4 1 (wv1 n 4 0 st) S1 t _ (by omega) (by omega) (by omega) hB1 hC1 (fun S2 hC2 => ?_)
      have hB2 := wvO_B hB
      have u2 := wvO_up (n := n) st
      have m2 := wvO_mono (n := n) st
      show ((nI ((wvO n st).2.1 + (wvO n st).2.2) ≤ _ → _) ∧ (¬ nI ((wvO n st).2.1 + (wvO n st).2.2) ≤ _ → _))
      refine ⟨fun q => ?_, fun q => ?_⟩
      · have q := (nI_leI (by omega) (by omega)).mp q
        have e0 : wvO n st = st := wvO_0 (by omega)
        have hC2 : WvC S S2 a (wvO n st) := hC2
        have e1 : wvT n T (g, 0, 0) = st := by rw [← he]; exact wvT_0 e0 _
        have hp := h S2 (by rw [e1, ← e0]; exact hC2)
        show AW l m_Gr_weaveTimes _ 0 0 (gI sh P) 0 0 13 [.ref a, .int (nI T), .int (nI ((wvO n st).2.1 + (wvO n st).2.2)), .int (nI (gpN n)), .int 0, .int (nI t + 1), .null, .null, .null] [] sh S2
        rw [e0]
        rw [e1] at hp
        exact s_Gr_weaveTimes_13 hS.sa ⟨fun _ => hp, fun _ => ⟨fun _ => hp, fun q => absurd rfl q⟩⟩
      · rw [nI_1]
        exact ih (t + 1) (wvO n st) S2 (by omega) (by omega) hB2 hC2 he
  exact key T 0 (g, 0, 0) S (by omega) (Nat.le_refl 0) B ⟨FrI.refl _ _, H, (Int32.add_zero _).symm, (Int32.add_zero _).symm⟩ rfl
set_option maxRecDepth 100000 in
theorem tch_far : ∀ n, n < 8 → ∀ g, g < gpN n → 2 ≤ g → g + 2 < gpN n → tchN n g 0 = false := by decide +kernel
theorem sp_Md_weaving {P : Int32 → aw_S → Prop} {st : GM × Nat × Nat} (hS : MdS sh S.2.2) (hn : n ≤ 7) (B : WvB n g st) (H : MdG S.1 0 st.1) (hb : st.2.1 + st.2.2 < 2 ^ 20) (h : ∀ S', WvM S S' st.2.1 st.2.2 (wvO n st) → P (nI (((wvO n st).2.1 - st.2.1) + ((wvO n st).2.2 - st.2.2))) S') : Sp l m_Md_weaving (d + 1 + 1 + 1 + 1 + 1 + 1) 0 0 [.ref 114] sh S (gI sh P) := by
  have hgp := gp_le n
  have gn := B.2.2.1
  have g0 : S.1 115 0 = nI n := by rw [← gn]; exact H.1
  refine e_Md_weaving hS.1 (sp_Md_gapsOf (s := 0) hS (by omega) hn g0 ?_)
  have key2 : ∀ j gap st' S', gpN n ≤ gap + 2 * j → gap < 2 ^ 20 → WvB n g st' → WvM S S' st.2.1 st.2.2 st' → (∀ S'', WvM S S'' st.2.1 st.2.2 (wv2 n j gap st') → P (nI (((wv2 n j gap st').2.1 - st.2.1) + ((wv2 n j gap st').2.2 - st.2.2))) S'') → AW l m_Md_weaving (d + 1 + 1 + 1 + 1 + 1 + 1) 0 0 (gI sh P) 0 0 68 [.ref 114, .int (nI (gpN n)), .int (nI gap), .null] [] sh S' := by
    intro j
    induction j with
    | zero =>
      intro gap st' S' h1 h2 hB hC hK
      refine s_Md_weaving_68 hS.1 ⟨fun _ => ?_, fun q => absurd (nI_le (by omega) (by omega)) q⟩
      rw [hC.2.2.1, hC.2.2.2.1, nI_add]
      exact hK S' hC
    | succ j ih =>
      intro gap st' S' h1 h2 hB hC hK
      unfold wv2 at hK
      by_cases c : gap < gpN n
      · rw [if_pos c] at hK
        refine s_Md_weaving_68 hS.1 ⟨fun q => absurd q (nI_ge c (by omega)), fun _ => sp_weaves1 (over := 0) hS hB hC c (by omega) (fun S'' hC' => ?_)⟩
        rw [nA2]
        exact ih (gap + 2) (wst st' gap 0) S'' (by omega) (by omega) (hB.step c (by omega)) hC' hK
      · rw [if_neg c] at hK
        refine s_Md_weaving_68 hS.1 ⟨fun _ => ?_, fun q => absurd (nI_le (by omega) (by omega)) q⟩
        rw [hC.2.2.1, hC.2.2.2.1, nI_add]
        exact hK S' hC
  have key1 : ∀ j gap st' S', gpN n ≤ gap + 2 * j → gap < 2 ^ 20 → (gap = 0 ∨ 2 ≤ gap) → WvB n g st' → WvM S S' st.2.1 st.2.2 st' → (∀ S'', WvM S S'' st.2.1 st.2.2 (wv1 n j gap st') → AW l m_Md_weaving (d + 1 + 1 + 1 + 1 + 1 + 1) 0 0 (gI sh P) 0 0 68 [.ref 114, .int (nI (gpN n)), .int 1, .null] [] sh S'') → AW l m_Md_weaving (d + 1 + 1 + 1 + 1 + 1 + 1) 0 0 (gI sh P) 0 0 18 [.ref 114, .int (nI (gpN n)), .int (nI gap), .null] [] sh S' := by
    intro j
    induction j with
    | zero =>
      intro gap st' S' h1 h2 h3 hB hC hK
      exact s_Md_weaving_18 hS.1 ⟨fun _ => hK S' hC, fun q => absurd (nI_le (by omega) (by omega)) q⟩
    | succ j ih =>
      intro gap st' S' h1 h2 h3 hB hC hK
      unfold wv1 at hK
      by_cases c : gap < gpN n
      · rw [if_pos c] at hK
        have mk : ¬ (0 < gap ∧ tchN n gap 0 = true) → Sp l m_Md_weaves1 (d + 1 + 1 + 1 + 1 + 1) 0 0 [.ref 114, .int (nI gap), .int 1] sh S' (gV sh (fun S4 => AW l m_Md_weaving (d + 1 + 1 + 1 + 1 + 1 + 1) 0 0 (gI sh P) 0 0 18 [.ref 114, .int (nI (gpN n)), .int (nI (gap + 2)), .null] [] sh S4)) := by
          intro c2
          rw [if_neg c2] at hK
          exact sp_weaves1 (over := 1) hS hB hC c (by omega) (fun S'' hC' => ih (gap + 2) (wst st' gap 1) S'' (by omega) (by omega) (by omega) (hB.step c (by omega)) hC' hK)
        refine s_Md_weaving_18 hS.1 ⟨fun q => absurd q (nI_ge c (by omega)), fun _ => ?_⟩
        rw [nA2]
        refine ⟨fun q => mk (fun z => absurd q (nI_nle z.1 (by omega))), fun q => ⟨fun q2 => mk (fun z => ?_), fun q2 => ?_⟩⟩
        · have gpos : 0 < gap := z.1
          have q2 := (nI_ltI (by omega) (by omega)).mp q2
          exact absurd z.2 (by rw [tch_far n (by omega) gap c (by omega) q2]; decide)
        · have gpos : 0 < gap := Nat.pos_of_ne_zero (fun z => q (by rw [z]; exact Int32.le_refl 0))
          have n2 := gp_2 c
          have s0 : S'.1 115 0 = nI n := by rw [← hB.2.2.1]; exact hC.2.1.1
          refine sp_Md_isTouching (s := 0) (x := gap) (y := 0) (by rw [hC.1.R]; exact hS) (by omega) hn n2 (by omega) (by omega) s0 (fun ht => ⟨fun z => absurd z (by decide), fun _ => ?_⟩) (fun ht => ⟨fun _ => mk (fun z => absurd z.2 (by rw [ht]; decide)), fun z => absurd rfl z⟩)
          rw [if_pos ⟨gpos, ht⟩] at hK
          exact ih (gap + 2) st' S' (by omega) (by omega) (by omega) hB hC hK
      · rw [if_neg c] at hK
        exact s_Md_weaving_18 hS.1 ⟨fun _ => hK S' hC, fun q => absurd (nI_le (by omega) (by omega)) q⟩
  have W0 : WvM S (aw_uI (aw_uI S 114 26 0) 114 27 0) st.2.1 st.2.2 st := by
    refine ⟨((FrI.refl MXw S).uI _ (by unfold MXw; omega)).uI _ (by unfold MXw; omega), ?_, ?_, ?_, ?_, Nat.le_refl _, Nat.le_refl _⟩
    · exact H.fr B.1.1 B.1.2.2.2.2.1 (fun j _ => by rw [uI_ne _ _ _ (by omega), uI_ne _ _ _ (by omega)])
    · rw [uI_at, if_pos rfl, if_neg (by omega), uI_at, if_pos rfl, if_pos rfl, Nat.sub_self]
      rfl
    · rw [uI_at, if_pos rfl, if_pos rfl, Nat.sub_self]
      rfl
    · rw [uI_ne _ _ _ (by omega), uI_ne _ _ _ (by omega), Nat.sub_self, Nat.sub_self]
      show _ = S.1 115 4 + 0 + 0
      rw [Int32.add_zero, Int32.add_zero]
  refine key1 4 0 st _ (by omega) (by omega) (Or.inl rfl) B W0 (fun S1 C1 => ?_)
  exact key2 4 1 (wv1 n 4 0 st) S1 (by omega) (by omega) (wv1_B 4 0 st B) C1 h
end WV
theorem ok_weave (l : Launch) : Ok_weave l 0 114 sh0 Inv := by
  intro S hI
  obtain ⟨a, b, g, N⟩ := hI.now
  have hS := N.S hI.rf
  have hM := MdS.mk0 hI.rf
  have hab := N.ab
  obtain ⟨n1, n2, n3, n4, n5, n6, n7, n8, n9, n10⟩ := id N
  have hn : g.n ≤ 7 := n4.1
  have B : WvB g.n g (g, 0, 0) := ⟨n4, n5, rfl, rfl, rfl⟩
  have u := wvO_up (n := g.n) (g, 0, 0)
  have B2 := wvO_B B
  have fr0 : ∀ (T : aw_S) (v : Int32), (aw_uI T 0 3 v).1 115 = T.1 115 := fun T v => uI_ne _ _ _ (by omega)
  refine e_Mg_weave rfl ⟨a, n1, hS.sa, sp_Gr_weaveTimes (d := 194) (T := 1) hS hn B n6 (by omega) (fun S1 C1 => ?_)⟩
  have C1 : WvC S S1 a (wvO g.n (g, 0, 0)) := C1
  show ((¬ nI ((wvO g.n (g, 0, 0)).2.1 + (wvO g.n (g, 0, 0)).2.2) = 0 → _) ∧ (nI ((wvO g.n (g, 0, 0)).2.1 + (wvO g.n (g, 0, 0)).2.2) = 0 → _))
  obtain ⟨F1, G1, e3, e4⟩ := C1
  have c115 : S1.1 115 = S.1 115 := F1.cell (fun j => by unfold GX; omega)
  have M1 : ∀ y, MdG (aw_uI S1 0 3 y).1 0 g := fun y => n7.fr hn n4.2.2.2.2.1 (fun j _ => by rw [fr0, c115])
  have fin : ∀ y S2, WvM (aw_uI S1 0 3 y) S2 0 0 (wvO g.n (g, 0, 0)) → Inv (aw_uI S2 114 2 y) := by
    intro y S2 W
    obtain ⟨w1, w2, w3, w4, w5, -, -⟩ := W
    refine hI.fin N (fr_c F1 hab) (w1.mono (fun k j q => by unfold MXw MXd at q; unfold YI; omega)) B2.1 B2.2.2.1 B2.2.1 G1 w2 ?_
    rw [w5, fr0, c115, n8, e3, e4, Nat.sub_zero, Nat.sub_zero]
    simp only [Int32.add_assoc]
    congr 1
    rw [← Int32.add_assoc, ← Int32.add_assoc, Int32.add_comm (S.1 a 4)]
  refine ⟨fun q => e_Mg_give rfl (e_Md_weave rfl (sp_Md_weaving (d := 193) (st := (g, 0, 0)) (by rw [uI_R, F1.R]; exact hM) hn B (M1 0) (by show 0 + 0 < _; omega) (fun S2 W => ?_))), fun q => e_Mg_fail rfl (e_Md_weave rfl (sp_Md_weaving (d := 193) (st := (g, 0, 0)) (by rw [uI_R, F1.R]; exact hM) hn B (M1 7) (by show 0 + 0 < _; omega) (fun S2 W => ?_)))⟩
  · exact ⟨fun _ => e_Md_gives rfl ⟨rfl, fin 0 S2 W⟩, fun z => absurd z q⟩
  · exact ⟨fun z => absurd q z, fun _ => e_Md_refuse rfl ⟨rfl, fin 7 S2 W⟩⟩
