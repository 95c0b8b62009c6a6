/-! homeward: what the looking through says -/
theorem frc_eq {α : Type} (v : Nat) (k : Nat → α) : frc v k = k v := by
  cases v with
  | zero => rfl
  | succ m => rfl
theorem frL_eq {α : Type} : ∀ (u : List Nat) (k : List Nat → α), frL u k = k u := by
  intro u
  induction u with
  | nil => intro k; rfl
  | cons a r ih =>
    intro k
    show frc a (fun a => frL r fun r => k (a :: r)) = _
    rw [frc_eq, ih]
theorem eqL_eq : ∀ {u v : List Nat}, eqL u v = true → u = v := by
  intro u
  induction u with
  | nil =>
    intro v h
    cases v with
    | nil => rfl
    | cons b q => cases h
  | cons a r ih =>
    intro v h
    cases v with
    | nil => cases h
    | cons b q =>
      have h : (Nat.beq a b && eqL r q) = true := h
      rw [Bool.and_eq_true] at h
      rw [Nat.eq_of_beq_eq_true h.1, ih h.2]
theorem allN_at {f : Nat → Bool} : ∀ {k : Nat}, allN f k = true → ∀ i, i < k → f i = true := by
  intro k
  induction k with
  | zero => intro _ i hi; omega
  | succ k ih =>
    intro h i hi
    have h : (f k && allN f k) = true := h
    rw [Bool.and_eq_true] at h
    by_cases e : i = k
    · rw [e]; exact h.1
    · exact ih h.2 i (by omega)
theorem ckG_ok {n : Nat} {x : List Nat} {d : Nat} : ∀ {k : Nat} {s : Bool}, ckG n x d k s = true → (∀ g, g < k → fwL n (swL n x g) ≤ d + 1) ∧ (s = true ∨ ∃ g, g < k ∧ fwL n (swL n x g) + 1 = d) := by
  intro k
  induction k with
  | zero =>
    intro s h
    exact ⟨fun g hg => by omega, Or.inl h⟩
  | succ k ih =>
    intro s h
    unfold ckG at h
    rw [frc_eq] at h
    cases e : Nat.ble (fwL n (swL n x k)) (d + 1) with
    | false => rw [e] at h; cases h
    | true =>
      rw [e] at h
      have h : ckG n x d k (s || Nat.beq (fwL n (swL n x k) + 1) d) = true := h
      obtain ⟨h1, h2⟩ := ih h
      refine ⟨fun g hg => ?_, ?_⟩
      · by_cases z : g = k
        · rw [z]; exact Nat.le_of_ble_eq_true e
        · exact h1 g (by omega)
      · rcases h2 with h2 | ⟨g, h2, h3⟩
        · rw [Bool.or_eq_true] at h2
          rcases h2 with h2 | h2
          · exact Or.inl h2
          · exact Or.inr ⟨k, by omega, Nat.eq_of_beq_eq_true h2⟩
        · exact Or.inr ⟨g, by omega, h3⟩
theorem ckL_ok {n : Nat} {x : List Nat} (h : ckL n x = true) : nuL x 0 < fcN n ∧ lyL n (nuL x 0) (upL n 0) = x ∧ (∀ g, g < gpN n → fwL n (swL n x g) ≤ fwL n x + 1) ∧ (x = upL n 0 ∨ ∃ g, g < gpN n ∧ fwL n (swL n x g) + 1 = fwL n x) := by
  unfold ckL at h
  rw [frL_eq, frc_eq, frc_eq, Bool.and_eq_true, Bool.and_eq_true] at h
  obtain ⟨⟨h1, h2⟩, h3⟩ := h
  obtain ⟨h4, h5⟩ := ckG_ok h3
  refine ⟨Nat.le_of_ble_eq_true h1, eqL_eq h2, h4, ?_⟩
  rcases h5 with h5 | h5
  · exact Or.inl (eqL_eq h5)
  · exact Or.inr h5
/-- y takes all of rem, one by one -/
def PkL : List Nat → List Nat → Prop
  | [], rem => rem = []
  | a :: y, rem => ∃ i, i < lnN rem ∧ atL rem i = a ∧ PkL y (erL rem i)
theorem erL_ln : ∀ {rem : List Nat} {i : Nat}, i < lnN rem → lnN (erL rem i) + 1 = lnN rem := by
  intro rem
  induction rem with
  | nil => intro i hi; exact absurd hi (Nat.not_lt_zero i)
  | cons a r ih =>
    intro i hi
    cases i with
    | zero => rfl
    | succ i =>
      have hi : i + 1 < lnN r + 1 := hi
      have := ih (i := i) (by omega)
      show lnN (erL r i) + 1 + 1 = lnN r + 1
      omega
theorem atL_of {a : Nat} : ∀ {rem : List Nat}, a ∈ rem → ∃ i, i < lnN rem ∧ atL rem i = a := by
  intro rem
  induction rem with
  | nil => intro h; cases h
  | cons b r ih =>
    intro h
    rcases List.mem_cons.mp h with h | h
    · exact ⟨0, Nat.succ_pos _, h.symm⟩
    · obtain ⟨i, h1, h2⟩ := ih h
      exact ⟨i + 1, Nat.succ_lt_succ h1, h2⟩
theorem erL_mem {a : Nat} : ∀ {rem : List Nat} {i : Nat}, a ∈ rem → a ≠ atL rem i → a ∈ erL rem i := by
  intro rem
  induction rem with
  | nil => intro i h; cases h
  | cons b r ih =>
    intro i h hn
    cases i with
    | zero =>
      rcases List.mem_cons.mp h with h | h
      · exact absurd h hn
      · exact h
    | succ i =>
      rcases List.mem_cons.mp h with h | h
      · rw [h]; exact List.mem_cons_self
      · exact List.mem_cons_of_mem _ (ih h hn)
theorem PkL.of : ∀ {y rem : List Nat}, y.Nodup → (∀ a, a ∈ y → a ∈ rem) → lnN y = lnN rem → PkL y rem := by
  intro y
  induction y with
  | nil =>
    intro rem _ _ h
    cases rem with
    | nil => rfl
    | cons b r => exact absurd h (by show ¬ 0 = lnN r + 1; omega)
  | cons a y ih =>
    intro rem hd hm hl
    obtain ⟨d1, d2⟩ := List.nodup_cons.mp hd
    obtain ⟨i, h1, h2⟩ := atL_of (hm a List.mem_cons_self)
    have hl : lnN y + 1 = lnN rem := hl
    have := erL_ln h1
    have k : PkL y (erL rem i) := ih d2 (fun b hb => erL_mem (hm b (List.mem_cons_of_mem _ hb)) (fun e => d1 (by rw [← h2, ← e]; exact hb))) (by omega)
    exact ⟨i, h1, h2, k⟩
theorem ckA_ok {n : Nat} : ∀ {k : Nat} {done rem y : List Nat}, ckA n k done rem = true → lnN rem = k → PkL y rem → ckL n (done.reverse ++ y) = true := by
  intro k
  induction k with
  | zero =>
    intro done rem y h hl hp
    cases y with
    | nil => rw [List.append_nil]; exact h
    | cons a y =>
      obtain ⟨i, hi, -⟩ := hp
      omega
  | succ k ih =>
    intro done rem y h hl hp
    cases y with
    | nil =>
      have hp : rem = [] := hp
      rw [hp] at hl
      exact absurd hl (by show ¬ 0 = k + 1; omega)
    | cons a y =>
      obtain ⟨i, hi, e, hq⟩ := hp
      have := allN_at (f := fun i => ckA n k (atL rem i :: done) (erL rem i)) h i (by omega)
      have := ih this (by have := erL_ln hi; omega) hq
      rw [List.reverse_cons, List.append_assoc, e] at this
      exact this
theorem ck_all {n : Nat} {y : List Nat} (hn : n ≤ 7) (h : PkL y (upL n 0)) : ckL n y = true := by
  have ul : ∀ k p, lnN (upL k p) = k := by
    intro k
    induction k with
    | zero => intro p; rfl
    | succ k ih => intro p; show lnN (upL k (p + 1)) + 1 = k + 1; rw [ih]
  by_cases h6 : n < 6
  · exact ckA_ok (done := []) (ck_5 n h6) (ul n 0) h
  · by_cases h7 : n = 6
    · subst h7
      exact ckA_ok (done := []) ck_6 (ul 6 0) h
    · have e : n = 7 := by omega
      subst e
      refine ckA_ok (k := 7) (done := []) ?_ (ul 7 0) h
      show allN (fun i => ckA 7 6 (atL (upL 7 0) i :: []) (erL (upL 7 0) i)) 7 = true
      show (ckA 7 6 [6] (erL (upL 7 0) 6) && (ckA 7 6 [5] (erL (upL 7 0) 5) && (ckA 7 6 [4] (erL (upL 7 0) 4) && (ckA 7 6 [3] (erL (upL 7 0) 3) && (ckA 7 6 [2] (erL (upL 7 0) 2) && (ckA 7 6 [1] (erL (upL 7 0) 1) && (ckA 7 6 [0] (erL (upL 7 0) 0) && true))))))) = true
      rw [ck_7a, ck_7b, ck_7c, ck_7d, ck_7e, ck_7f, ck_7g]
      rfl
