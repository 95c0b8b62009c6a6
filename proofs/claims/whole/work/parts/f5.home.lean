/-! homeward: the class's walks -/
/-- a walk that is kept 20 more than it is -/
def wI (u : Nat) : Int32 := nI u - 20
theorem wI_le : ∀ a, a < 40 → ∀ b, b < 40 → (wI a ≤ wI b ↔ a ≤ b) := by decide +kernel
theorem wI_d : ∀ a, a < 40 → ∀ b, b < 40 → ∀ n, n < 8 → (nI n < wI a - wI b ↔ b + n < a) := by decide +kernel
theorem wI_m : ∀ a, a < 40 → ∀ n, n < 8 → n ≤ a → wI a - nI n = wI (a - n) := by decide +kernel
theorem wI_p : ∀ a, a < 40 → ∀ n, n < 8 → wI a + nI n = wI (a + n) := by decide +kernel
theorem wI_0 : ∀ x, x < 7 → ∀ p, p < 7 → nI x - nI p = wI (x + 20 - p) := by decide +kernel
/-- first of the greatest, of the least, among the first i -/
def mxP (u : List Nat) : Nat → Nat
  | 0 => 0
  | i + 1 => if atL u (mxP u i) < atL u i then i else mxP u i
def mnP (u : List Nat) : Nat → Nat
  | 0 => 0
  | i + 1 => if atL u i < atL u (mnP u i) then i else mnP u i
theorem mxP_lt (u : List Nat) : ∀ i, mxP u i ≤ i - 1 := by
  intro i
  induction i with
  | zero => exact Nat.le_refl 0
  | succ i ih =>
    unfold mxP
    split <;> omega
theorem mnP_lt (u : List Nat) : ∀ i, mnP u i ≤ i - 1 := by
  intro i
  induction i with
  | zero => exact Nat.le_refl 0
  | succ i ih =>
    unfold mnP
    split <;> omega
theorem mxG_P {u : List Nat} : ∀ (r : List Nat) (i : Nat), (∀ j, j < lnN r → atL r j = atL u (i + j)) → mxG r i (mxP u i) (atL u (mxP u i)) = mxP u (i + lnN r) := by
  intro r
  induction r with
  | nil => intro i _; rfl
  | cons a r ih =>
    intro i h
    have e0 : a = atL u i := h 0 (Nat.succ_pos _)
    have h' : ∀ j, j < lnN r → atL r j = atL u (i + 1 + j) := fun j hj => by
      have := h (j + 1) (Nat.succ_lt_succ hj)
      rw [show i + 1 + j = i + (j + 1) by omega]
      exact this
    have ih := ih (i + 1) h'
    have el : i + lnN (a :: r) = i + 1 + lnN r := by show i + (lnN r + 1) = _; omega
    rw [el, ← ih]
    show (bif Nat.blt (atL u (mxP u i)) a then mxG r (i + 1) i a else mxG r (i + 1) (mxP u i) (atL u (mxP u i))) = _
    have es : mxP u (i + 1) = if atL u (mxP u i) < atL u i then i else mxP u i := rfl
    rw [es]
    by_cases c : atL u (mxP u i) < atL u i
    · rw [if_pos c, e0, show Nat.blt (atL u (mxP u i)) (atL u i) = true from Nat.ble_eq_true_of_le c]
      rfl
    · rw [if_neg c, e0]
      cases q : Nat.blt (atL u (mxP u i)) (atL u i) with
      | true => exact absurd (Nat.le_of_ble_eq_true q) c
      | false => rfl
theorem mnG_P {u : List Nat} : ∀ (r : List Nat) (i : Nat), (∀ j, j < lnN r → atL r j = atL u (i + j)) → mnG r i (mnP u i) (atL u (mnP u i)) = mnP u (i + lnN r) := by
  intro r
  induction r with
  | nil => intro i _; rfl
  | cons a r ih =>
    intro i h
    have e0 : a = atL u i := h 0 (Nat.succ_pos _)
    have h' : ∀ j, j < lnN r → atL r j = atL u (i + 1 + j) := fun j hj => by
      have := h (j + 1) (Nat.succ_lt_succ hj)
      rw [show i + 1 + j = i + (j + 1) by omega]
      exact this
    have ih := ih (i + 1) h'
    have el : i + lnN (a :: r) = i + 1 + lnN r := by show i + (lnN r + 1) = _; omega
    rw [el, ← ih]
    show (bif Nat.blt a (atL u (mnP u i)) then mnG r (i + 1) i a else mnG r (i + 1) (mnP u i) (atL u (mnP u i))) = _
    have es : mnP u (i + 1) = if atL u i < atL u (mnP u i) then i else mnP u i := rfl
    rw [es]
    by_cases c : atL u i < atL u (mnP u i)
    · rw [if_pos c, e0, show Nat.blt (atL u i) (atL u (mnP u i)) = true from Nat.ble_eq_true_of_le c]
      rfl
    · rw [if_neg c, e0]
      cases q : Nat.blt (atL u i) (atL u (mnP u i)) with
      | true => exact absurd (Nat.le_of_ble_eq_true q) c
      | false => rfl
theorem mxG_all (u : List Nat) : mxG u 0 0 (atL u 0) = mxP u (lnN u) := by
  have := mxG_P (u := u) u 0 (fun j _ => by rw [Nat.zero_add])
  rw [Nat.zero_add] at this
  exact this
theorem mnG_all (u : List Nat) : mnG u 0 0 (atL u 0) = mnP u (lnN u) := by
  have := mnG_P (u := u) u 0 (fun j _ => by rw [Nat.zero_add])
  rw [Nat.zero_add] at this
  exact this
/-- one round of sharing -/
theorem shL_s (n f : Nat) (u : List Nat) : shL n (f + 1) u = if atL u (mnP u (lnN u)) + n < atL u (mxP u (lnN u)) then shL n f (stL (stL u (mxP u (lnN u)) (atL u (mxP u (lnN u)) - n)) (mnP u (lnN u)) (atL u (mnP u (lnN u)) + n)) else u := by
  have e : shL n (f + 1) u = frc (mxG u 0 0 (atL u 0)) fun M => frc (mnG u 0 0 (atL u 0)) fun m => frc (atL u M) fun vM => frc (atL u m) fun vm => bif Nat.blt (vm + n) vM then frL (stL (stL u M (vM - n)) m (vm + n)) fun u' => shL n f u' else u := rfl
  rw [e, frc_eq, frc_eq, frc_eq, frc_eq, frL_eq, mxG_all, mnG_all]
  by_cases c : atL u (mnP u (lnN u)) + n < atL u (mxP u (lnN u))
  · rw [if_pos c, show Nat.blt (atL u (mnP u (lnN u)) + n) (atL u (mxP u (lnN u))) = true from Nat.ble_eq_true_of_le c]
    rfl
  · rw [if_neg c]
    cases q : Nat.blt (atL u (mnP u (lnN u)) + n) (atL u (mxP u (lnN u))) with
    | true => exact absurd (Nat.le_of_ble_eq_true q) c
    | false => rfl
