/-! rows by their places -/
def ivN (x : Nat) : Nat := if x % 16 < 8 then x + 8 else x - 8
def tcN (n x y : Nat) : Bool := tchN n (x % 8) (y % 8)
theorem iv_8 (x : Nat) : ivN x % 8 = x % 8 := by
  unfold ivN
  split <;> omega
theorem iv_16 {x : Nat} (h : x < 16) : ivN x < 16 := by
  unfold ivN
  split <;> omega
theorem iv_iv (x : Nat) : ivN (ivN x) = x := by
  unfold ivN
  by_cases c : x % 16 < 8
  · rw [if_pos c, if_neg (by omega)]; omega
  · rw [if_neg c, if_pos (by omega)]; omega
theorem trN (n : Nat) : TrH (tcN n) ivN := by
  refine ⟨fun x y => ?_, fun x => ?_, iv_iv, fun x y => ?_⟩
  · unfold tcN
    exact tch_sym _ _ _
  · unfold tcN
    exact tch_self _ _
  · unfold tcN
    rw [iv_8]
def rmB (B : Nat → Bool) (k i : Nat) : Bool := B i && !decide (i = k)
theorem rmB_ne {B : Nat → Bool} {k i : Nat} (h : i ≠ k) : rmB B k i = B i := by
  unfold rmB
  rw [decide_eq_false h]
  simp
theorem rmB_k (B : Nat → Bool) (k : Nat) : rmB B k k = false := by
  unfold rmB
  simp
/-- in the order of time, j places from k on -/
def tlB (B : Nat → Bool) (p : Nat → Nat) : Nat → Nat → List Nat
  | _, 0 => []
  | k, j + 1 => if B k = true then p k :: tlB B p (k + 1) j else tlB B p (k + 1) j
/-- the latest first -/
def rlB (B : Nat → Bool) (f : Nat → Nat) : Nat → List Nat
  | 0 => []
  | m + 1 => if B m = true then f m :: rlB B f m else rlB B f m
theorem tlB_cg {B B' : Nat → Bool} {p : Nat → Nat} : ∀ j k, (∀ i, k ≤ i → i < k + j → B i = B' i) → tlB B p k j = tlB B' p k j := by
  intro j
  induction j with
  | zero => intro k _; rfl
  | succ j ih =>
    intro k h
    unfold tlB
    rw [h k (by omega) (by omega), ih (k + 1) (fun i h1 h2 => h i (by omega) (by omega))]
theorem rlB_cg {B B' : Nat → Bool} {f : Nat → Nat} : ∀ m, (∀ i, i < m → B i = B' i) → rlB B f m = rlB B' f m := by
  intro m
  induction m with
  | zero => intro _; rfl
  | succ m ih =>
    intro h
    unfold rlB
    rw [h m (by omega), ih (fun i hi => h i (by omega))]
theorem tlB_sp {B : Nat → Bool} {p : Nat → Nat} {q : Nat} (hq : B q = true) : ∀ j k, k ≤ q → q < k + j → ∃ a b, tlB B p k j = a ++ p q :: b ∧ tlB (rmB B q) p k j = a ++ b ∧ ∀ y ∈ a, ∃ i, k ≤ i ∧ i < q ∧ B i = true ∧ y = p i := by
  intro j
  induction j with
  | zero => intro k h1 h2; omega
  | succ j ih =>
    intro k h1 h2
    by_cases e : k = q
    · subst e
      refine ⟨[], tlB B p (k + 1) j, ?_, ?_, fun y hy => absurd hy (by simp)⟩
      · conv => lhs; unfold tlB
        rw [if_pos hq]; rfl
      · conv => lhs; unfold tlB
        rw [rmB_k, if_neg (by decide)]
        exact tlB_cg j (k + 1) (fun i h3 h4 => rmB_ne (by omega))
    · obtain ⟨a, b, x1, x2, x3⟩ := ih (k + 1) (by omega) (by omega)
      cases c : B k with
      | true =>
        refine ⟨p k :: a, b, ?_, ?_, fun y hy => ?_⟩
        · conv => lhs; unfold tlB
          rw [if_pos c, x1]; rfl
        · conv => lhs; unfold tlB
          rw [rmB_ne e, if_pos c, x2]; rfl
        · rcases List.mem_cons.mp hy with z | z
          · exact ⟨k, by omega, by omega, c, z⟩
          · obtain ⟨i, i1, i2, i3, i4⟩ := x3 y z
            exact ⟨i, by omega, i2, i3, i4⟩
      | false =>
        refine ⟨a, b, ?_, ?_, fun y hy => ?_⟩
        · conv => lhs; unfold tlB
          rw [c, if_neg (by decide), x1]
        · conv => lhs; unfold tlB
          rw [rmB_ne e, c, if_neg (by decide), x2]
        · obtain ⟨i, i1, i2, i3, i4⟩ := x3 y hy
          exact ⟨i, by omega, i2, i3, i4⟩
theorem rlB_mem {B : Nat → Bool} {f : Nat → Nat} : ∀ m y, y ∈ rlB B f m ↔ ∃ i, i < m ∧ B i = true ∧ y = f i := by
  intro m
  induction m with
  | zero => intro y; exact ⟨fun h => absurd h (by unfold rlB; simp), fun ⟨i, h, _⟩ => absurd h (Nat.not_lt_zero i)⟩
  | succ m ih =>
    intro y
    unfold rlB
    cases c : B m with
    | true =>
      rw [if_pos rfl, List.mem_cons, ih]
      constructor
      · intro h
        rcases h with h | ⟨i, h1, h2, h3⟩
        · exact ⟨m, by omega, c, h⟩
        · exact ⟨i, by omega, h2, h3⟩
      · intro ⟨i, h1, h2, h3⟩
        by_cases e : i = m
        · rw [e] at h3; exact Or.inl h3
        · exact Or.inr ⟨i, by omega, h2, h3⟩
    | false =>
      rw [if_neg (by decide), ih]
      constructor
      · intro ⟨i, h1, h2, h3⟩
        exact ⟨i, by omega, h2, h3⟩
      · intro ⟨i, h1, h2, h3⟩
        by_cases e : i = m
        · rw [e, c] at h2; exact absurd h2 (by decide)
        · exact ⟨i, by omega, h2, h3⟩
theorem rlB_sp {B : Nat → Bool} {f : Nat → Nat} {q : Nat} (hq : B q = true) : ∀ m, q < m → ∃ a, rlB B f m = a ++ f q :: rlB B f q ∧ rlB (rmB B q) f m = a ++ rlB B f q := by
  intro m
  induction m with
  | zero => intro h; omega
  | succ m ih =>
    intro h
    by_cases e : q = m
    · subst e
      refine ⟨[], ?_, ?_⟩
      · conv => lhs; unfold rlB
        rw [if_pos hq]; rfl
      · conv => lhs; unfold rlB
        rw [rmB_k, if_neg (by decide)]
        exact rlB_cg q (fun i hi => rmB_ne (by omega))
    · obtain ⟨a, x1, x2⟩ := ih (by omega)
      cases c : B m with
      | true =>
        refine ⟨f m :: a, ?_, ?_⟩
        · conv => lhs; unfold rlB
          rw [if_pos c, x1]; rfl
        · conv => lhs; unfold rlB
          rw [rmB_ne (by omega), if_pos c, x2]; rfl
      | false =>
        refine ⟨a, ?_, ?_⟩
        · conv => lhs; unfold rlB
          rw [c, if_neg (by decide), x1]
        · conv => lhs; unfold rlB
          rw [rmB_ne (by omega), c, if_neg (by decide), x2]
section VL
variable {n : Nat} {p f : Nat → Nat} {m m' : Nat} {B B' : Nat → Bool}
def vlN (n : Nat) (p : Nat → Nat) (m : Nat) (f : Nat → Nat) (m' : Nat) (B B' : Nat → Bool) : Nat := (acL (tcN n) ivN ((tlB B p 0 m).map ivN) (rlB B' f m')).length
/-- the lowest of a row -/
def LoB (n : Nat) (p : Nat → Nat) (m : Nat) (B : Nat → Bool) (k : Nat) : Prop := k < m ∧ B k = true ∧ ∀ i, i < k → B i = true → tcN n (p i) (p k) = false
theorem vl_step {k k' : Nat} (h : LoB n p m B k) (h' : LoB n f m' B' k') (e : p k = f k') : vlN n p m f m' (rmB B k) (rmB B' k') = vlN n p m f m' B B' := by
  obtain ⟨a1, a2, a3⟩ := h
  obtain ⟨b1, b2, b3⟩ := h'
  have H := trN n
  obtain ⟨a, b, x1, x2, x3⟩ := tlB_sp (p := p) a2 m 0 (by omega) (by omega)
  obtain ⟨c, y1, y2⟩ := rlB_sp (f := f) b2 m' b1
  unfold vlN
  rw [x1, x2, y1, y2, List.map_append, List.map_append, List.map_cons]
  have na : ∀ y ∈ a.map ivN, tcN n y (ivN (p k)) = false := fun y hy => by
    obtain ⟨z, hz, e1⟩ := List.mem_map.mp hy
    obtain ⟨i, i1, i2, i3, i4⟩ := x3 z hz
    rw [← e1, H.2.2.2, H.1, H.2.2.2, H.1, i4]
    exact a3 i i2 i3
  have nb : ∀ y ∈ rlB B' f k', tcN n y (f k') = false := fun y hy => by
    obtain ⟨i, i1, i2, i3⟩ := (rlB_mem k' y).mp hy
    rw [i3]
    exact b3 i i1 i2
  have s1 : EqL (tcN n) ivN (a.map ivN ++ ivN (p k) :: b.map ivN) (ivN (p k) :: (a.map ivN ++ b.map ivN)) := (ls_mv H (b.map ivN) (a.map ivN) [] na).sy
  have s2 : EqL (tcN n) ivN (ap (tcN n) ivN (a.map ivN ++ ivN (p k) :: b.map ivN) (f k')) (a.map ivN ++ b.map ivN) := by
    have := s1.ap (f k')
    rw [ap_s (w := ivN (p k) :: (a.map ivN ++ b.map ivN)) (w' := a.map ivN ++ b.map ivN)] at this
    · exact this
    · rw [rd_t (by rw [H.2.2.2, e]; exact H.2.1 _), if_pos (by rw [e])]
  rw [acL.app, acL.app]
  show _ = (acL (tcN n) ivN (ap (tcN n) ivN (acL (tcN n) ivN (a.map ivN ++ ivN (p k) :: b.map ivN) (rlB B' f k')) (f k')) c).length
  exact ((acL.cg ((acL.mv H _ _ nb).tr (acL.cg s2 _)) c).len).symm
theorem tl_ex {x : Nat} : ∀ (j k : Nat) (w' : List Nat), rdx (tcN n) ivN ((tlB B p k j).map ivN) x = some w' → ∃ i, k ≤ i ∧ i < k + j ∧ B i = true ∧ p i = x ∧ ∀ o, k ≤ o → o < i → B o = true → tcN n (p o) x = false := by
  have H := trN n
  intro j
  induction j with
  | zero => intro k w' h; exact absurd h (by unfold tlB rdx; simp)
  | succ j ih =>
    intro k w' h
    unfold tlB at h
    cases c : B k with
    | true =>
      rw [if_pos c, List.map_cons] at h
      cases c2 : tcN n (ivN (p k)) x with
      | true =>
        rw [rd_t c2] at h
        by_cases e : ivN (p k) = ivN x
        · refine ⟨k, by omega, by omega, c, ?_, fun o h1 h2 => by omega⟩
          have := congrArg ivN e
          rw [iv_iv, iv_iv] at this
          exact this
        · rw [if_neg e] at h
          exact absurd h (by simp)
      | false =>
        rw [rd_f c2] at h
        cases e : rdx (tcN n) ivN ((tlB B p (k + 1) j).map ivN) x with
        | none => rw [e] at h; exact absurd h (by simp)
        | some u =>
          obtain ⟨i, i1, i2, i3, i4, i5⟩ := ih (k + 1) u e
          refine ⟨i, by omega, by omega, i3, i4, fun o h1 h2 h3 => ?_⟩
          by_cases q : o = k
          · rw [q]
            rw [H.2.2.2] at c2
            exact c2
          · exact i5 o (by omega) h2 h3
    | false =>
      rw [c, if_neg (by decide)] at h
      obtain ⟨i, i1, i2, i3, i4, i5⟩ := ih (k + 1) w' h
      refine ⟨i, by omega, by omega, i3, i4, fun o h1 h2 h3 => ?_⟩
      by_cases q : o = k
      · rw [q, c] at h3; exact absurd h3 (by decide)
      · exact i5 o (by omega) h2 h3
theorem vl_end (hR : RdL (tcN n) ivN (rlB B' f m')) (hno : ∀ k k', LoB n p m B k → LoB n f m' B' k' → p k ≠ f k') : vlN n p m f m' B B' = (tlB B p 0 m).length + (rlB B' f m').length := by
  have key : ∀ q, q ≤ m' → RdL (tcN n) ivN (rlB B' f q) → acL (tcN n) ivN ((tlB B p 0 m).map ivN) (rlB B' f q) = rlB B' f q ++ (tlB B p 0 m).map ivN := by
    intro q
    induction q with
    | zero => intro _ _; rfl
    | succ q ih =>
      intro hq hr
      unfold rlB at hr ⊢
      cases c : B' q with
      | false =>
        rw [if_neg (by decide)]
        rw [c, if_neg (by decide)] at hr
        exact ih (by omega) hr
      | true =>
        rw [if_pos rfl]
        rw [if_pos c] at hr
        show ap (tcN n) ivN (acL (tcN n) ivN ((tlB B p 0 m).map ivN) (rlB B' f q)) (f q) = _
        rw [ih (by omega) hr.2, ap_n]
        · rfl
        · by_cases ex : ∃ y ∈ rlB B' f q, tcN n y (f q) = true
          · exact rd_blk _ _ hr.1 ex
          · have nt : ∀ y ∈ rlB B' f q, tcN n y (f q) = false := fun y hy => by
              cases z : tcN n y (f q) with
              | false => rfl
              | true => exact absurd ⟨y, hy, z⟩ ex
            rw [rd_app _ _ nt]
            cases z : rdx (tcN n) ivN ((tlB B p 0 m).map ivN) (f q) with
            | none => rfl
            | some u =>
              exfalso
              obtain ⟨i, i1, i2, i3, i4, i5⟩ := tl_ex m 0 u z
              refine hno i q ⟨by omega, i3, fun o h1 h2 => ?_⟩ ⟨by omega, c, fun o h1 h2 => ?_⟩ i4
              · rw [i4]; exact i5 o (by omega) h1 h2
              · exact nt (f o) ((rlB_mem q (f o)).mpr ⟨o, h1, h2, rfl⟩)
  unfold vlN
  rw [key m' (Nat.le_refl _) hR, List.length_append, List.length_map, Nat.add_comm]
theorem rd_low {c : Nat} (Y : List Nat) (hY : ∀ z ∈ Y, tcN n z c = false) : ∀ X : List Nat, RdL (tcN n) ivN (X ++ c :: Y) → RdL (tcN n) ivN (X ++ Y) := by
  have H := trN n
  intro X
  induction X with
  | nil => intro h; exact h.2
  | cons y X ih =>
    intro h
    refine ⟨?_, ih h.2⟩
    have h1 : rdx (tcN n) ivN (X ++ c :: Y) y = none := h.1
    show rdx (tcN n) ivN (X ++ Y) y = none
    by_cases ex : ∃ z ∈ X, tcN n z y = true
    · cases q : rdx (tcN n) ivN X y with
      | none => exact rd_blk Y X q ex
      | some u =>
        exfalso
        obtain ⟨a, b, e1, e2⟩ := rd_ex X u q
        rw [e1, List.append_assoc, rd_app _ _ e2, List.cons_append, rd_t (by rw [H.2.2.2]; exact H.2.1 _), if_pos rfl] at h1
        exact absurd h1 (by simp)
    · have nt : ∀ z ∈ X, tcN n z y = false := fun z hz => by
        cases q : tcN n z y with
        | false => rfl
        | true => exact absurd ⟨z, hz, q⟩ ex
      rw [rd_app _ _ nt] at h1 ⊢
      cases q : rdx (tcN n) ivN Y y with
      | none => rfl
      | some u =>
        exfalso
        obtain ⟨a, b, e1, e2⟩ := rd_ex Y u q
        have hc := hY (ivN y) (by rw [e1]; simp)
        rw [H.2.2.2] at hc
        rw [rd_f (by rw [H.1]; exact hc), q] at h1
        exact absurd h1 (by simp)
theorem rd_rm {k : Nat} (h : LoB n f m' B' k) (hR : RdL (tcN n) ivN (rlB B' f m')) : RdL (tcN n) ivN (rlB (rmB B' k) f m') := by
  obtain ⟨b1, b2, b3⟩ := h
  obtain ⟨a, y1, y2⟩ := rlB_sp (f := f) b2 m' b1
  rw [y1] at hR
  rw [y2]
  refine rd_low _ (fun z hz => ?_) a hR
  obtain ⟨i, i1, i2, i3⟩ := (rlB_mem k z).mp hz
  rw [i3]
  exact b3 i i1 i2
theorem ln_rm {k : Nat} (hk : k < m) (hB : B k = true) : (tlB (rmB B k) p 0 m).length + 1 = (tlB B p 0 m).length := by
  obtain ⟨a, b, x1, x2, x3⟩ := tlB_sp (p := p) hB m 0 (by omega) (by omega)
  rw [x1, x2]
  simp
  omega
theorem lr_rm {k : Nat} (hk : k < m') (hB : B' k = true) : (rlB (rmB B' k) f m').length + 1 = (rlB B' f m').length := by
  obtain ⟨a, x1, x2⟩ := rlB_sp (f := f) hB m' hk
  rw [x1, x2]
  simp
  omega
end VL
