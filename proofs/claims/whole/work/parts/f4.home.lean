/-! homeward: orders -/
theorem stL_ln : ∀ (u : List Nat) (i v : Nat), lnN (stL u i v) = lnN u := by
  intro u
  induction u with
  | nil => intro i v; rfl
  | cons a r ih =>
    intro i v
    cases i with
    | zero => rfl
    | succ i =>
      show lnN (stL r i v) + 1 = lnN r + 1
      rw [ih]
theorem stL_at : ∀ (u : List Nat) (i v j : Nat), i < lnN u → atL (stL u i v) j = if j = i then v else atL u j := by
  intro u
  induction u with
  | nil => intro i v j h; exact absurd h (Nat.not_lt_zero i)
  | cons a r ih =>
    intro i v j h
    cases i with
    | zero =>
      cases j with
      | zero => rfl
      | succ j => rw [if_neg (by omega)]; rfl
    | succ i =>
      have h : i + 1 < lnN r + 1 := h
      cases j with
      | zero => rw [if_neg (by omega)]; rfl
      | succ j =>
        show atL (stL r i v) j = if j + 1 = i + 1 then v else atL r j
        rw [ih i v j (by omega)]
        by_cases e : j = i
        · rw [if_pos e, if_pos (by omega)]
        · rw [if_neg e, if_neg (by omega)]
theorem atL_ext : ∀ {u v : List Nat}, lnN u = lnN v → (∀ j, j < lnN u → atL u j = atL v j) → u = v := by
  intro u
  induction u with
  | nil =>
    intro v h _
    cases v with
    | nil => rfl
    | cons b q => exact absurd h (by show ¬ 0 = lnN q + 1; omega)
  | cons a r ih =>
    intro v h hj
    cases v with
    | nil => exact absurd h (by show ¬ lnN r + 1 = 0; omega)
    | cons b q =>
      have h : lnN r + 1 = lnN q + 1 := h
      have e0 : a = b := hj 0 (Nat.succ_pos _)
      rw [e0, ih (v := q) (by omega) (fun j h2 => hj (j + 1) (Nat.succ_lt_succ h2))]
def lsN (f : Nat → Nat) : Nat → Nat → List Nat
  | 0, _ => []
  | k + 1, p => f p :: lsN f k (p + 1)
theorem lsN_ln (f : Nat → Nat) : ∀ k p, lnN (lsN f k p) = k := by
  intro k
  induction k with
  | zero => intro p; rfl
  | succ k ih => intro p; show lnN (lsN f k (p + 1)) + 1 = k + 1; rw [ih]
theorem lsN_at (f : Nat → Nat) : ∀ k p j, j < k → atL (lsN f k p) j = f (p + j) := by
  intro k
  induction k with
  | zero => intro p j h; omega
  | succ k ih =>
    intro p j h
    cases j with
    | zero => rfl
    | succ j =>
      show atL (lsN f k (p + 1)) j = f (p + (j + 1))
      rw [ih (p + 1) j (by omega), show p + 1 + j = p + (j + 1) by omega]
theorem lsN_mem {f : Nat → Nat} {a : Nat} : ∀ k p, a ∈ lsN f k p → ∃ j, p ≤ j ∧ j < p + k ∧ a = f j := by
  intro k
  induction k with
  | zero => intro p h; cases h
  | succ k ih =>
    intro p h
    rcases List.mem_cons.mp h with h | h
    · exact ⟨p, by omega, by omega, h⟩
    · obtain ⟨j, h1, h2, h3⟩ := ih (p + 1) h
      exact ⟨j, by omega, by omega, h3⟩
theorem lsN_in {f : Nat → Nat} {j : Nat} : ∀ k p, p ≤ j → j < p + k → f j ∈ lsN f k p := by
  intro k
  induction k with
  | zero => intro p h1 h2; omega
  | succ k ih =>
    intro p h1 h2
    by_cases e : j = p
    · rw [e]; exact List.mem_cons_self
    · exact List.mem_cons_of_mem _ (ih (p + 1) (by omega) (by omega))
theorem lsN_up : ∀ k p, lsN (fun j => j) k p = upL k p := by
  intro k
  induction k with
  | zero => intro p; rfl
  | succ k ih => intro p; show p :: lsN (fun j => j) k (p + 1) = p :: upL k (p + 1); rw [ih]
theorem lsN_nd {f : Nat → Nat} : ∀ k p, (∀ i j, p ≤ i → i < p + k → p ≤ j → j < p + k → f i = f j → i = j) → (lsN f k p).Nodup := by
  intro k
  induction k with
  | zero => intro p _; exact List.nodup_nil
  | succ k ih =>
    intro p h
    refine List.nodup_cons.mpr ⟨fun hm => ?_, ih (p + 1) (fun i j h1 h2 h3 h4 e => h i j (by omega) (by omega) (by omega) (by omega) e)⟩
    obtain ⟨j, h1, h2, h3⟩ := lsN_mem k (p + 1) hm
    have := h p j (by omega) (by omega) (by omega) (by omega) h3
    omega
/-- an order of n -/
def isO (n : Nat) (x : List Nat) : Prop := ∃ f : Nat → Nat, x = lsN f n 0 ∧ (∀ p, p < n → f p < n) ∧ ∀ p q, p < n → q < n → f p = f q → p = q
theorem isO.ln {n : Nat} {x : List Nat} (h : isO n x) : lnN x = n := by
  obtain ⟨f, e, -⟩ := h
  rw [e, lsN_ln]
theorem isO.lt {n : Nat} {x : List Nat} (h : isO n x) {p : Nat} (hp : p < n) : atL x p < n := by
  obtain ⟨f, e, h1, -⟩ := h
  rw [e, lsN_at f n 0 p hp, Nat.zero_add]
  exact h1 p hp
theorem isO.home (n : Nat) : isO n (upL n 0) := ⟨fun j => j, (lsN_up n 0).symm, fun p hp => hp, fun _ _ _ _ e => e⟩
theorem isO.ck {n : Nat} {x : List Nat} (hn : n ≤ 7) (h : isO n x) : nuL x 0 < fcN n ∧ lyL n (nuL x 0) (upL n 0) = x ∧ (∀ g, g < gpN n → fwL n (swL n x g) ≤ fwL n x + 1) ∧ (x = upL n 0 ∨ ∃ g, g < gpN n ∧ fwL n (swL n x g) + 1 = fwL n x) := by
  obtain ⟨f, e, h1, h2⟩ := id h
  refine ckL_ok (ck_all hn (PkL.of ?_ (fun a ha => ?_) ?_))
  · rw [e]
    exact lsN_nd n 0 (fun i j _ q1 _ q2 w => h2 i j (by omega) (by omega) w)
  · rw [e] at ha
    obtain ⟨j, -, q2, q3⟩ := lsN_mem n 0 ha
    rw [q3, ← lsN_up]
    exact lsN_in (f := fun j => j) n 0 (Nat.zero_le _) (by have := h1 j (by omega); omega)
  · rw [h.ln, ← lsN_up, lsN_ln]
theorem gp_nx {n g : Nat} (h : g < gpN n) : g < n ∧ (g + 1) % n < n ∧ (g + 1) % n ≠ g ∧ 2 ≤ n := by
  unfold gpN at h
  by_cases c : n < 2
  · rw [if_pos c] at h; omega
  · rw [if_neg c] at h
    have gn : g < n := by
      by_cases e : n = 2
      · rw [if_pos e] at h; omega
      · rw [if_neg e] at h; exact h
    refine ⟨gn, Nat.mod_lt _ (by omega), ?_, by omega⟩
    by_cases e : g + 1 = n
    · rw [e, Nat.mod_self]; omega
    · rw [Nat.mod_eq_of_lt (by omega)]; omega
theorem sw_at {n g : Nat} {x : List Nat} (hl : lnN x = n) (h : g < gpN n) (j : Nat) : atL (swL n x g) j = if j = (g + 1) % n then atL x g else if j = g then atL x ((g + 1) % n) else atL x j := by
  obtain ⟨h1, h2, h3, h4⟩ := gp_nx h
  unfold swL
  rw [stL_at _ _ _ _ (by rw [stL_ln, hl]; exact h2), stL_at _ _ _ _ (by rw [hl]; exact h1)]
theorem sw_ln {n g : Nat} {x : List Nat} : lnN (swL n x g) = lnN x := by
  unfold swL
  rw [stL_ln, stL_ln]
theorem isO.sw {n g : Nat} {x : List Nat} (h : isO n x) (hg : g < gpN n) : isO n (swL n x g) := by
  obtain ⟨h1, h2, h3, h4⟩ := gp_nx hg
  have hl := h.ln
  obtain ⟨f, e, q1, q2⟩ := h
  have fa : ∀ j, j < n → atL x j = f j := fun j hj => by rw [e, lsN_at f n 0 j hj, Nat.zero_add]
  have hs : ∀ a : Nat, (a = (g + 1) % n ∧ (if a = (g + 1) % n then g else if a = g then (g + 1) % n else a) = g) ∨ (a ≠ (g + 1) % n ∧ a = g ∧ (if a = (g + 1) % n then g else if a = g then (g + 1) % n else a) = (g + 1) % n) ∨ (a ≠ (g + 1) % n ∧ a ≠ g ∧ (if a = (g + 1) % n then g else if a = g then (g + 1) % n else a) = a) := by
    intro a
    by_cases c1 : a = (g + 1) % n
    · exact Or.inl ⟨c1, if_pos c1⟩
    · by_cases c2 : a = g
      · exact Or.inr (Or.inl ⟨c1, c2, by rw [if_neg c1, if_pos c2]⟩)
      · exact Or.inr (Or.inr ⟨c1, c2, by rw [if_neg c1, if_neg c2]⟩)
  have hlt : ∀ a, a < n → (if a = (g + 1) % n then g else if a = g then (g + 1) % n else a) < n := fun a ha => by
    rcases hs a with ⟨-, c⟩ | ⟨-, -, c⟩ | ⟨-, -, c⟩ <;> rw [c] <;> assumption
  refine ⟨fun j => f (if j = (g + 1) % n then g else if j = g then (g + 1) % n else j), atL_ext ?_ (fun j hj => ?_), fun p hp => q1 _ (hlt p hp), fun p q hp hq w => ?_⟩
  · rw [sw_ln, hl, lsN_ln]
  · rw [sw_ln, hl] at hj
    rw [sw_at hl hg, lsN_at _ n 0 j hj, Nat.zero_add]
    rcases hs j with ⟨c1, c⟩ | ⟨c1, c2, c⟩ | ⟨c1, c2, c⟩
    · rw [if_pos c1, c, fa g h1]
    · rw [if_neg c1, if_pos c2, c, fa _ h2]
    · rw [if_neg c1, if_neg c2, c, fa j hj]
  · have w := q2 _ _ (hlt p hp) (hlt q hq) w
    rcases hs p with ⟨c1, c⟩ | ⟨c1, c2, c⟩ | ⟨c1, c2, c⟩ <;> rcases hs q with ⟨d1, d⟩ | ⟨d1, d2, d⟩ | ⟨d1, d2, d⟩ <;> rw [c, d] at w <;> omega
theorem swL2 {n g : Nat} {x : List Nat} (hl : lnN x = n) (h : g < gpN n) : swL n (swL n x g) g = x := by
  obtain ⟨h1, h2, h3, h4⟩ := gp_nx h
  refine atL_ext (by rw [sw_ln, sw_ln]) (fun j hj => ?_)
  rw [sw_at (by rw [sw_ln]; exact hl) h, sw_at hl h, sw_at hl h, sw_at hl h]
  by_cases e1 : j = (g + 1) % n
  · rw [if_pos e1, if_neg (Ne.symm h3), if_pos rfl, e1]
  · rw [if_neg e1]
    by_cases e2 : j = g
    · rw [if_pos e2, if_pos rfl, e2]
    · rw [if_neg e2, if_neg e1, if_neg e2]
theorem nu_inj {n : Nat} {x y : List Nat} (hn : n ≤ 7) (hx : isO n x) (hy : isO n y) (e : nuL x 0 = nuL y 0) : x = y := by
  rw [← (hx.ck hn).2.1, ← (hy.ck hn).2.1, e]
theorem fw_home : ∀ n, n < 8 → fwL n (upL n 0) = 0 ∧ nuL (upL n 0) 0 = 0 := by decide +kernel
theorem fw_12 {n : Nat} {x : List Nat} (hn : n ≤ 7) (h : isO n x) : (∀ g, g < gpN n → fwL n x ≤ fwL n (swL n x g) + 1) := fun g hg => by
  have := ((h.sw hg).ck hn).2.2.1 g hg
  rw [swL2 h.ln hg] at this
  exact this
