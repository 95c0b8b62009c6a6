/-! homeward: the search, by itself -/
theorem pig_le {N t : Nat} {f : Nat → Nat} (h1 : ∀ i, i < t → f i < N) (h2 : ∀ i j, i < t → j < t → f i = f j → i = j) : t ≤ N := by
  apply Nat.le_of_not_lt
  intro c
  obtain ⟨p, hp, e⟩ := surj_of (n := N) f (fun p hp => h1 p (by omega)) (fun p q hp hq => h2 p q (by omega) (by omega)) (f N) (h1 N c)
  have := h2 p N (by omega) c e
  omega
def FdQ (t : Nat) (Q : Nat → List Nat) (y : List Nat) : Prop := ∃ i, i < t ∧ Q i = y
/-- the search: h is looked at, of it g gaps; t are found, Q their orders -/
def SrH (n h g t : Nat) (Q : Nat → List Nat) : Prop := 1 ≤ t ∧ Q 0 = upL n 0 ∧ (∀ i, i < t → isO n (Q i)) ∧ (∀ i j, i < t → j < t → Q i = Q j → i = j) ∧ (∀ i j, i ≤ j → j < t → fwL n (Q i) ≤ fwL n (Q j)) ∧ (∀ i, i < t → h < t → fwL n (Q i) ≤ fwL n (Q h) + 1) ∧ (∀ i k, i < h → k < gpN n → FdQ t Q (swL n (Q i) k)) ∧ (∀ k, k < g → FdQ t Q (swL n (Q h) k)) ∧ h ≤ t
section SRH
variable {n h g t : Nat} {Q : Nat → List Nat}
theorem SrH.le (hn : n ≤ 7) (H : SrH n h g t Q) : t ≤ fcN n := pig_le (f := fun i => nuL (Q i) 0) (fun i hi => ((H.2.2.1 i hi).ck hn).1) (fun i j hi hj e => H.2.2.2.1 i j hi hj (nu_inj hn (H.2.2.1 i hi) (H.2.2.1 j hj) e))
theorem SrH.beg (n : Nat) : SrH n 0 0 1 (fun _ => upL n 0) := ⟨Nat.le_refl _, rfl, fun _ _ => isO.home n, fun i j hi hj _ => by omega, fun _ _ _ _ => Nat.le_refl _, fun _ _ _ => Nat.le_succ _, fun i _ hi => absurd hi (Nat.not_lt_zero i), fun k hk => absurd hk (Nat.not_lt_zero k), Nat.zero_le _⟩
theorem SrH.in (hn : n ≤ 7) (H : SrH n h g t Q) (hh : h < t) : ∀ v z, isO n z → fwL n z = v → v ≤ fwL n (Q h) → FdQ t Q z := by
  obtain ⟨h1, h2, h3, h4, h5, h6, h7, h8, h9⟩ := H
  intro v
  induction v with
  | zero =>
    intro z hz e _
    rcases (hz.ck hn).2.2.2 with q | ⟨k, hk, q⟩
    · exact ⟨0, by omega, by rw [h2, q]⟩
    · omega
  | succ v ih =>
    intro z hz e hv
    rcases (hz.ck hn).2.2.2 with q | ⟨k, hk, q⟩
    · exact ⟨0, by omega, by rw [h2, q]⟩
    · obtain ⟨i, i1, i2⟩ := ih (swL n z k) (hz.sw hk) (by omega) (by omega)
      have ih' : i < h := by
        apply Nat.lt_of_not_le
        intro c
        have := h5 h i c i1
        rw [i2] at this
        omega
      have := h7 i k ih' hk
      rw [i2, swL2 hz.ln hk] at this
      exact this
theorem SrH.all (hn : n ≤ 7) (H : SrH n t g t Q) : ∀ v z, isO n z → fwL n z = v → FdQ t Q z := by
  obtain ⟨h1, h2, h3, h4, h5, h6, h7, h8, h9⟩ := H
  intro v
  induction v with
  | zero =>
    intro z hz e
    rcases (hz.ck hn).2.2.2 with q | ⟨k, hk, q⟩
    · exact ⟨0, by omega, by rw [h2, q]⟩
    · omega
  | succ v ih =>
    intro z hz e
    rcases (hz.ck hn).2.2.2 with q | ⟨k, hk, q⟩
    · exact ⟨0, by omega, by rw [h2, q]⟩
    · obtain ⟨i, i1, i2⟩ := ih (swL n z k) (hz.sw hk) (by omega)
      have := h7 i k i1 hk
      rw [i2, swL2 hz.ln hk] at this
      exact this
theorem SrH.old (H : SrH n h g t Q) (hf : FdQ t Q (swL n (Q h) g)) : SrH n h (g + 1) t Q := by
  obtain ⟨h1, h2, h3, h4, h5, h6, h7, h8, h9⟩ := H
  refine ⟨h1, h2, h3, h4, h5, h6, h7, fun k hk => ?_, h9⟩
  by_cases e : k = g
  · rw [e]; exact hf
  · exact h8 k (by omega)
theorem SrH.nxt (H : SrH n h g t Q) (hh : h < t) (hg : g = gpN n) : SrH n (h + 1) 0 t Q := by
  obtain ⟨h1, h2, h3, h4, h5, h6, h7, h8, h9⟩ := H
  refine ⟨h1, h2, h3, h4, h5, fun i hi ht => ?_, fun i k hi hk => ?_, fun k hk => absurd hk (Nat.not_lt_zero k), hh⟩
  · have := h6 i hi hh
    have := h5 h (h + 1) (by omega) ht
    omega
  · by_cases e : i = h
    · rw [e]; exact h8 k (by omega)
    · exact h7 i k (by omega) hk
def pshQ (t : Nat) (Q : Nat → List Nat) (y : List Nat) (i : Nat) : List Nat := if i = t then y else Q i
theorem psh_old {y : List Nat} {i : Nat} (hi : i < t) : pshQ t Q y i = Q i := if_neg (by omega)
theorem psh_new {y : List Nat} : pshQ t Q y t = y := if_pos rfl
theorem fd_psh {y z : List Nat} : FdQ (t + 1) (pshQ t Q y) z ↔ (FdQ t Q z ∨ z = y) := by
  constructor
  · rintro ⟨i, h1, h2⟩
    by_cases e : i = t
    · rw [e, psh_new] at h2
      exact Or.inr h2.symm
    · rw [psh_old (by omega)] at h2
      exact Or.inl ⟨i, by omega, h2⟩
  · rintro (⟨i, h1, h2⟩ | e)
    · exact ⟨i, by omega, by rw [psh_old h1]; exact h2⟩
    · exact ⟨t, by omega, by rw [psh_new]; exact e.symm⟩
theorem SrH.new (hn : n ≤ 7) (H : SrH n h g t Q) (hh : h < t) (hg : g < gpN n) (hf : ¬ FdQ t Q (swL n (Q h) g)) : fwL n (swL n (Q h) g) = fwL n (Q h) + 1 ∧ SrH n h (g + 1) (t + 1) (pshQ t Q (swL n (Q h) g)) := by
  have hin := H.in hn hh
  obtain ⟨h1, h2, h3, h4, h5, h6, h7, h8, h9⟩ := H
  have hy := (h3 h hh).sw hg
  have e1 : fwL n (swL n (Q h) g) = fwL n (Q h) + 1 := by
    have u1 := ((h3 h hh).ck hn).2.2.1 g hg
    have u2 : ¬ fwL n (swL n (Q h) g) ≤ fwL n (Q h) := fun c => hf (hin _ _ hy rfl c)
    omega
  refine ⟨e1, by omega, ?_, fun i hi => ?_, fun i j hi hj e => ?_, fun i j hij hj => ?_, fun i hi _ => ?_, fun i k hi hk => ?_, fun k hk => ?_, by omega⟩
  · rw [psh_old (by omega)]; exact h2
  · by_cases c : i = t
    · rw [c, psh_new]; exact hy
    · rw [psh_old (by omega)]; exact h3 i (by omega)
  · by_cases c : i = t
    · by_cases c' : j = t
      · omega
      · rw [c, psh_new, psh_old (by omega)] at e
        exact absurd ⟨j, by omega, e.symm⟩ hf
    · by_cases c' : j = t
      · rw [c', psh_new, psh_old (by omega)] at e
        exact absurd ⟨i, by omega, e⟩ hf
      · rw [psh_old (by omega), psh_old (by omega)] at e
        exact h4 i j (by omega) (by omega) e
  · by_cases c' : j = t
    · rw [c', psh_new]
      by_cases c : i = t
      · rw [c, psh_new]; exact Nat.le_refl _
      · rw [psh_old (by omega), e1]; exact h6 i (by omega) hh
    · rw [psh_old (show j < t by omega), psh_old (show i < t by omega)]
      exact h5 i j hij (by omega)
  · rw [psh_old hh]
    by_cases c : i = t
    · rw [c, psh_new, e1]; exact Nat.le_refl _
    · rw [psh_old (by omega)]; exact h6 i (by omega) hh
  · rw [psh_old (by omega)]
    exact fd_psh.mpr (Or.inl (h7 i k hi hk))
  · rw [psh_old hh]
    by_cases c : k = g
    · rw [c]; exact fd_psh.mpr (Or.inr rfl)
    · exact fd_psh.mpr (Or.inl (h8 k (by omega)))
end SRH
