/-! homeward: sums over walks by places -/
def paS (n A : Nat) (u : List Nat) : Nat → Nat → Nat
  | 0, _ => 0
  | k + 1, q => paN n A (q + atL u q) + paS n A u k (q + 1)
def smS (n : Nat) (u : List Nat) : Nat → Nat → Nat
  | 0, _ => 0
  | k + 1, p => paS n (p + atL u p) u k (p + 1) + smS n u k (p + 1)
theorem paL_S {n A : Nat} {u : List Nat} : ∀ (r : List Nat) (q : Nat), (∀ j, j < lnN r → atL r j = atL u (q + j)) → paL n A r q = paS n A u (lnN r) q := by
  intro r
  induction r with
  | nil => intro q _; rfl
  | cons b r ih =>
    intro q h
    have e0 : b = atL u q := h 0 (Nat.succ_pos _)
    have ih := ih (q + 1) (fun j hj => by
      have := h (j + 1) (Nat.succ_lt_succ hj)
      rw [show q + 1 + j = q + (j + 1) by omega]
      exact this)
    show paN n A (q + b) + paL n A r (q + 1) = paN n A (q + atL u q) + paS n A u (lnN r) (q + 1)
    rw [ih, e0]
theorem smL_S {n : Nat} {u : List Nat} : ∀ (r : List Nat) (p : Nat), (∀ j, j < lnN r → atL r j = atL u (p + j)) → smL n r p = smS n u (lnN r) p := by
  intro r
  induction r with
  | nil => intro p _; rfl
  | cons b r ih =>
    intro p h
    have e0 : b = atL u p := h 0 (Nat.succ_pos _)
    have h' : ∀ j, j < lnN r → atL r j = atL u (p + 1 + j) := fun j hj => by
      have := h (j + 1) (Nat.succ_lt_succ hj)
      rw [show p + 1 + j = p + (j + 1) by omega]
      exact this
    show paL n (p + b) r (p + 1) + smL n r (p + 1) = paS n (p + atL u p) u (lnN r) (p + 1) + smS n u (lnN r) (p + 1)
    rw [ih (p + 1) h', paL_S r (p + 1) h', e0]
theorem sm_all (n : Nat) (u : List Nat) : smL n u 0 = smS n u (lnN u) 0 := smL_S u 0 (fun j _ => by rw [Nat.zero_add])
theorem fw_eq (n : Nat) (x : List Nat) : fwL n x = smL n (shL n 7 (wkL x 0)) 0 := by
  unfold fwL
  rw [frL_eq, frL_eq]
theorem wk_ln : ∀ (x : List Nat) (p : Nat), lnN (wkL x p) = lnN x := by
  intro x
  induction x with
  | nil => intro p; rfl
  | cons a r ih => intro p; show lnN (wkL r (p + 1)) + 1 = lnN r + 1; rw [ih]
theorem wk_at : ∀ (x : List Nat) (p j : Nat), j < lnN x → atL (wkL x p) j = atL x j + 20 - (p + j) := by
  intro x
  induction x with
  | nil => intro p j h; exact absurd h (Nat.not_lt_zero j)
  | cons a r ih =>
    intro p j h
    cases j with
    | zero => rfl
    | succ j =>
      have h : j + 1 < lnN r + 1 := h
      show atL (wkL r (p + 1)) j = atL r j + 20 - (p + (j + 1))
      rw [ih (p + 1) j (by omega), show p + 1 + j = p + (j + 1) by omega]
