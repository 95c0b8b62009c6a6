/-! homeward: how far at most; the first gap that leads nearer -/
theorem paN_le {n A B : Nat} (hn : 1 ≤ n) : paN n A B ≤ A + 19 := by
  have h : (A + 10 * n - B) / n ≤ A + 10 := Nat.div_le_of_le_mul (by
    have e : n * (A + 10) = n * A + n * 10 := Nat.mul_add n A 10
    have : A ≤ n * A := Nat.le_mul_of_pos_left A hn
    omega)
  unfold paN
  rw [frc_eq]
  generalize (A + 10 * n - B) / n = q at h ⊢
  show (bif Nat.blt q 9 then 9 - q else q - 9) ≤ A + 19
  cases Nat.blt q 9 with
  | true => show 9 - q ≤ A + 19; omega
  | false => show q - 9 ≤ A + 19; omega
theorem paS_le {n A : Nat} {u : List Nat} (hn : 1 ≤ n) : ∀ k q, paS n A u k q ≤ k * (A + 19) := by
  intro k
  induction k with
  | zero => intro q; exact Nat.zero_le _
  | succ k ih =>
    intro q
    have h1 : paN n A (q + atL u q) ≤ A + 19 := paN_le hn
    have h2 := ih (q + 1)
    have e : (k + 1) * (A + 19) = k * (A + 19) + (A + 19) := Nat.succ_mul k (A + 19)
    show paN n A (q + atL u q) + paS n A u k (q + 1) ≤ (k + 1) * (A + 19)
    omega
theorem smS_le {n : Nat} {u : List Nat} (hn : 1 ≤ n) (hu : ∀ p, p < 7 → atL u p ≤ 27) : ∀ k p, k + p ≤ 7 → smS n u k p ≤ k * 364 := by
  intro k
  induction k with
  | zero => intro p _; exact Nat.zero_le _
  | succ k ih =>
    intro p hp
    have h0 := hu p (by omega)
    have h1 : paS n (p + atL u p) u k (p + 1) ≤ k * (p + atL u p + 19) := paS_le hn k (p + 1)
    have h2 := ih (p + 1) (by omega)
    have h3 : k * (p + atL u p + 19) ≤ 7 * 52 := Nat.mul_le_mul (by omega) (by omega)
    show paS n (p + atL u p) u k (p + 1) + smS n u k (p + 1) ≤ (k + 1) * 364
    omega
theorem atL_out : ∀ (u : List Nat) (p : Nat), lnN u ≤ p → atL u p = 0 := by
  intro u
  induction u with
  | nil => intro p _; rfl
  | cons a r ih =>
    intro p h
    have h : lnN r + 1 ≤ p := h
    cases p with
    | zero => omega
    | succ p => exact ih p (by omega)
theorem shL_le {n : Nat} : ∀ f u, 1 ≤ lnN u → (∀ p, atL u p ≤ 27) → lnN (shL n f u) = lnN u ∧ ∀ p, atL (shL n f u) p ≤ 27 := by
  intro f
  induction f with
  | zero => intro u _ h; exact ⟨rfl, h⟩
  | succ f ih =>
    intro u h1 h
    rw [shL_s]
    have a1 := mxP_lt u (lnN u)
    have a2 := mnP_lt u (lnN u)
    have a3 := h (mxP u (lnN u))
    by_cases c : atL u (mnP u (lnN u)) + n < atL u (mxP u (lnN u))
    · rw [if_pos c]
      have k := ih (stL (stL u (mxP u (lnN u)) (atL u (mxP u (lnN u)) - n)) (mnP u (lnN u)) (atL u (mnP u (lnN u)) + n)) (by rw [stL_ln, stL_ln]; exact h1) (fun p => by
        rw [stL_at _ _ _ _ (by rw [stL_ln]; omega), stL_at _ _ _ _ (by omega)]
        have := h p
        split
        · omega
        · split <;> omega)
      rw [stL_ln, stL_ln] at k
      exact k
    · rw [if_neg c]
      exact ⟨rfl, h⟩
theorem fw_lt {n : Nat} {x : List Nat} (hn : n ≤ 7) (hx : isO n x) : fwL n x < 3000 := by
  by_cases h0 : n = 0
  · subst h0
    have hxn : x = [] := atL_ext hx.ln (fun j hj => by rw [hx.ln] at hj; omega)
    rw [hxn]
    decide
  · have lw : lnN (wkL x 0) = n := by rw [wk_ln]; exact hx.ln
    obtain ⟨k1, k2⟩ := shL_le (n := n) 7 (wkL x 0) (by omega) (fun p => by
      by_cases c : p < n
      · have := hx.lt c
        rw [wk_at x 0 p (by rw [hx.ln]; exact c)]
        omega
      · rw [atL_out _ _ (by omega)]
        omega)
    have := smS_le (n := n) (by omega) (fun p _ => k2 p) (lnN (shL n 7 (wkL x 0))) 0 (by omega)
    rw [fw_eq, sm_all]
    omega
def fsN (n : Nat) (x : List Nat) : Nat → Nat → Nat
  | 0, g => g
  | k + 1, g => if fwL n (swL n x g) + 1 = fwL n x then g else fsN n x k (g + 1)
def fsG (n : Nat) (x : List Nat) : Nat := fsN n x (gpN n) 0
theorem fsN_ok {n : Nat} {x : List Nat} : ∀ k g, (∃ h, g ≤ h ∧ h < g + k ∧ fwL n (swL n x h) + 1 = fwL n x) → fsN n x k g < g + k ∧ fwL n (swL n x (fsN n x k g)) + 1 = fwL n x ∧ ∀ h, g ≤ h → h < fsN n x k g → ¬ fwL n (swL n x h) + 1 = fwL n x := by
  intro k
  induction k with
  | zero => rintro g ⟨h, h1, h2, -⟩; omega
  | succ k ih =>
    rintro g ⟨h, h1, h2, h3⟩
    by_cases c : fwL n (swL n x g) + 1 = fwL n x
    · have e : fsN n x (k + 1) g = g := if_pos c
      rw [e]
      exact ⟨by omega, c, fun h z1 z2 => by omega⟩
    · have e : fsN n x (k + 1) g = fsN n x k (g + 1) := if_neg c
      have ne : h ≠ g := fun z => c (by rw [← z]; exact h3)
      obtain ⟨k1, k2, k3⟩ := ih (g + 1) ⟨h, by omega, by omega, h3⟩
      rw [e]
      refine ⟨by omega, k2, fun j z1 z2 => ?_⟩
      by_cases e2 : j = g
      · rw [e2]; exact c
      · exact k3 j (by omega) z2
theorem fs_ok {n : Nat} {x : List Nat} (hn : n ≤ 7) (hx : isO n x) (h0 : 0 < fwL n x) : fsG n x < gpN n ∧ fwL n (swL n x (fsG n x)) + 1 = fwL n x ∧ ∀ h, h < fsG n x → fwL n x ≤ fwL n (swL n x h) := by
  have hex : ∃ g, g < gpN n ∧ fwL n (swL n x g) + 1 = fwL n x := by
    rcases (hx.ck hn).2.2.2 with e | e
    · rw [e, (fw_home n (by omega)).1] at h0
      omega
    · exact e
  obtain ⟨h, h1, h2⟩ := hex
  obtain ⟨k1, k2, k3⟩ := fsN_ok (n := n) (x := x) (gpN n) 0 ⟨h, Nat.zero_le _, by omega, h2⟩
  have e : fsN n x (gpN n) 0 = fsG n x := rfl
  rw [e] at k1 k2 k3
  refine ⟨by omega, k2, fun j hj => ?_⟩
  have q1 := k3 j (Nat.zero_le _) hj
  have q2 := fw_12 hn hx j (by omega)
  omega
/-- the order after k such passes -/
def stK (n : Nat) (x : List Nat) : Nat → List Nat
  | 0 => x
  | k + 1 => swL n (stK n x k) (fsG n (stK n x k))
theorem stK_ok {n : Nat} {x : List Nat} (hn : n ≤ 7) (hx : isO n x) : ∀ k, k ≤ fwL n x → isO n (stK n x k) ∧ fwL n (stK n x k) + k = fwL n x := by
  intro k
  induction k with
  | zero => intro _; exact ⟨hx, rfl⟩
  | succ k ih =>
    intro hk
    obtain ⟨h1, h2⟩ := ih (by omega)
    obtain ⟨q1, q2, -⟩ := fs_ok hn h1 (by omega)
    refine ⟨h1.sw q1, ?_⟩
    show fwL n (swL n (stK n x k) (fsG n (stK n x k))) + (k + 1) = fwL n x
    omega
