/-! rows of letters: what touches keeps its order, what undoes is gone -/
def TrH (t : Nat → Nat → Bool) (iv : Nat → Nat) : Prop := (∀ x y, t x y = t y x) ∧ (∀ x, t x x = true) ∧ (∀ x, iv (iv x) = x) ∧ (∀ x y, t (iv x) y = t x y)
def rdx (t : Nat → Nat → Bool) (iv : Nat → Nat) : List Nat → Nat → Option (List Nat)
  | [], _ => none
  | y :: w, x => if t y x = true then (if y = iv x then some w else none) else (rdx t iv w x).map (fun z => y :: z)
def ap (t : Nat → Nat → Bool) (iv : Nat → Nat) (w : List Nat) (x : Nat) : List Nat := match rdx t iv w x with
  | some w' => w'
  | none => x :: w
section TW
variable {t : Nat → Nat → Bool} {iv : Nat → Nat}
theorem ap_s {w w' : List Nat} {x : Nat} (h : rdx t iv w x = some w') : ap t iv w x = w' := by
  unfold ap
  rw [h]
theorem ap_n {w : List Nat} {x : Nat} (h : rdx t iv w x = none) : ap t iv w x = x :: w := by
  unfold ap
  rw [h]
theorem rd_t {w : List Nat} {x y : Nat} (h : t y x = true) : rdx t iv (y :: w) x = if y = iv x then some w else none := by
  conv => lhs; unfold rdx
  rw [if_pos h]
theorem rd_f {w : List Nat} {x y : Nat} (h : t y x = false) : rdx t iv (y :: w) x = (rdx t iv w x).map (fun z => y :: z) := by
  conv => lhs; unfold rdx
  rw [if_neg (by rw [h]; decide)]
/-- one exchange of two that don't touch -/
def SwL (t : Nat → Nat → Bool) (u u' : List Nat) : Prop := u = u' ∨ ∃ v x y w, t x y = false ∧ u = v ++ x :: y :: w ∧ u' = v ++ y :: x :: w
theorem SwL.cons {u u' : List Nat} (h : SwL t u u') (z : Nat) : SwL t (z :: u) (z :: u') := by
  rcases h with h | ⟨v, x, y, w, h1, h2, h3⟩
  · rw [h]; exact Or.inl rfl
  · exact Or.inr ⟨z :: v, x, y, w, h1, by rw [h2]; rfl, by rw [h3]; rfl⟩
theorem SwL.len {u u' : List Nat} (h : SwL t u u') : u.length = u'.length := by
  rcases h with h | ⟨v, x, y, w, h1, h2, h3⟩
  · rw [h]
  · rw [h2, h3]; simp
theorem rd_sw (H : TrH t iv) (d : Nat) {x y : Nat} {w : List Nat} (hxy : t x y = false) : ∀ v : List Nat, (rdx t iv (v ++ x :: y :: w) d = none ∧ rdx t iv (v ++ y :: x :: w) d = none) ∨ ∃ u u', rdx t iv (v ++ x :: y :: w) d = some u ∧ rdx t iv (v ++ y :: x :: w) d = some u' ∧ SwL t u u' := by
  obtain ⟨hs, hr, hi, ht⟩ := H
  intro v
  induction v with
  | nil =>
    show (rdx t iv (x :: y :: w) d = none ∧ rdx t iv (y :: x :: w) d = none) ∨ ∃ u u', rdx t iv (x :: y :: w) d = some u ∧ rdx t iv (y :: x :: w) d = some u' ∧ SwL t u u'
    cases cx : t x d with
    | true =>
      cases cy : t y d with
      | true =>
        have nx : x ≠ iv d := fun e => by
          rw [e, ht, hs, cy] at hxy
          exact absurd hxy (by decide)
        have ny : y ≠ iv d := fun e => by
          rw [e, hs, ht, hs, cx] at hxy
          exact absurd hxy (by decide)
        rw [rd_t cx, rd_t cy, if_neg nx, if_neg ny]
        exact Or.inl ⟨rfl, rfl⟩
      | false =>
        rw [rd_t cx, rd_f cy, rd_t cx]
        by_cases e : x = iv d
        · rw [if_pos e, if_pos e]
          exact Or.inr ⟨_, _, rfl, rfl, Or.inl rfl⟩
        · rw [if_neg e, if_neg e]
          exact Or.inl ⟨rfl, rfl⟩
    | false =>
      cases cy : t y d with
      | true =>
        rw [rd_f cx, rd_t cy, rd_t cy]
        by_cases e : y = iv d
        · rw [if_pos e, if_pos e]
          exact Or.inr ⟨_, _, rfl, rfl, Or.inl rfl⟩
        · rw [if_neg e, if_neg e]
          exact Or.inl ⟨rfl, rfl⟩
      | false =>
        rw [rd_f cx, rd_f cy, rd_f cy, rd_f cx]
        cases e : rdx t iv w d with
        | none => exact Or.inl ⟨rfl, rfl⟩
        | some w' => exact Or.inr ⟨_, _, rfl, rfl, Or.inr ⟨[], x, y, w', hxy, rfl, rfl⟩⟩
  | cons h v ih =>
    show (rdx t iv (h :: (v ++ x :: y :: w)) d = none ∧ rdx t iv (h :: (v ++ y :: x :: w)) d = none) ∨ ∃ u u', rdx t iv (h :: (v ++ x :: y :: w)) d = some u ∧ rdx t iv (h :: (v ++ y :: x :: w)) d = some u' ∧ SwL t u u'
    cases c : t h d with
    | true =>
      rw [rd_t c, rd_t c]
      by_cases e : h = iv d
      · rw [if_pos e, if_pos e]
        exact Or.inr ⟨_, _, rfl, rfl, Or.inr ⟨v, x, y, w, hxy, rfl, rfl⟩⟩
      · rw [if_neg e, if_neg e]
        exact Or.inl ⟨rfl, rfl⟩
    | false =>
      rw [rd_f c, rd_f c]
      rcases ih with ⟨h1, h2⟩ | ⟨u, u', h1, h2, h3⟩
      · rw [h1, h2]
        exact Or.inl ⟨rfl, rfl⟩
      · rw [h1, h2]
        exact Or.inr ⟨_, _, rfl, rfl, h3.cons h⟩
theorem SwL.ap (H : TrH t iv) {u u' : List Nat} (h : SwL t u u') (d : Nat) : SwL t (ap t iv u d) (ap t iv u' d) := by
  rcases h with h | ⟨v, x, y, w, h1, h2, h3⟩
  · rw [h]; exact Or.inl rfl
  · rw [h2, h3]
    rcases rd_sw H d (w := w) h1 v with ⟨a1, a2⟩ | ⟨u, u', a1, a2, a3⟩
    · rw [ap_n a1, ap_n a2]
      exact Or.inr ⟨d :: v, x, y, w, h1, rfl, rfl⟩
    · rw [ap_s a1, ap_s a2]
      exact a3
/-- alike: whatever comes behind, as many are left -/
def EqL (t : Nat → Nat → Bool) (iv : Nat → Nat) (w w' : List Nat) : Prop := ∀ ds : List Nat, (ds.foldl (ap t iv) w).length = (ds.foldl (ap t iv) w').length
theorem EqL.rf (w : List Nat) : EqL t iv w w := fun _ => rfl
theorem EqL.sy {w w' : List Nat} (h : EqL t iv w w') : EqL t iv w' w := fun ds => (h ds).symm
theorem EqL.tr {w w' w'' : List Nat} (h : EqL t iv w w') (h' : EqL t iv w' w'') : EqL t iv w w'' := fun ds => (h ds).trans (h' ds)
theorem EqL.ap {w w' : List Nat} (h : EqL t iv w w') (x : Nat) : EqL t iv (ap t iv w x) (ap t iv w' x) := fun ds => h (x :: ds)
theorem EqL.len {w w' : List Nat} (h : EqL t iv w w') : w.length = w'.length := h []
theorem SwL.eq (H : TrH t iv) {u u' : List Nat} (h : SwL t u u') : EqL t iv u u' := by
  intro ds
  induction ds generalizing u u' with
  | nil => exact h.len
  | cons d ds ih => exact ih (h.ap H d)
/-- no letter undoes an earlier one -/
def RdL (t : Nat → Nat → Bool) (iv : Nat → Nat) : List Nat → Prop
  | [] => True
  | x :: w => rdx t iv w x = none ∧ RdL t iv w
theorem rd_no (H : TrH t iv) {x y : Nat} (hxy : t x y = false) : ∀ (w w' : List Nat), rdx t iv w x = some w' → (rdx t iv w' y = none ↔ rdx t iv w y = none) := by
  obtain ⟨hs, hr, hi, ht⟩ := H
  intro w
  induction w with
  | nil => intro w' h; exact absurd h (by unfold rdx; simp)
  | cons h w ih =>
    intro w' hw
    cases c : t h x with
    | true =>
      rw [rd_t c] at hw
      by_cases e : h = iv x
      · rw [if_pos e] at hw
        have hw := Option.some.inj hw
        subst hw
        have c2 : t h y = false := by rw [e, ht]; exact hxy
        rw [rd_f c2]
        cases rdx t iv w y <;> simp
      · rw [if_neg e] at hw
        exact absurd hw (by simp)
    | false =>
      rw [rd_f c] at hw
      cases e : rdx t iv w x with
      | none => rw [e] at hw; exact absurd hw (by simp)
      | some u =>
        rw [e] at hw
        have hw : h :: u = w' := Option.some.inj hw
        subst hw
        have i := ih u e
        cases c2 : t h y with
        | true => rw [rd_t c2, rd_t c2]
                  by_cases q : h = iv y
                  · rw [if_pos q, if_pos q]; simp
                  · rw [if_neg q, if_neg q]
        | false =>
          rw [rd_f c2, rd_f c2]
          cases q1 : rdx t iv u y <;> cases q2 : rdx t iv w y <;> simp_all
theorem RdL.rm (H : TrH t iv) {x : Nat} : ∀ (w w' : List Nat), RdL t iv w → rdx t iv w x = some w' → RdL t iv w' := by
  intro w
  induction w with
  | nil => intro w' _ h; exact absurd h (by unfold rdx; simp)
  | cons h w ih =>
    intro w' hR hw
    cases c : t h x with
    | true =>
      rw [rd_t c] at hw
      by_cases e : h = iv x
      · rw [if_pos e] at hw
        have hw := Option.some.inj hw
        subst hw
        exact hR.2
      · rw [if_neg e] at hw
        exact absurd hw (by simp)
    | false =>
      rw [rd_f c] at hw
      cases e : rdx t iv w x with
      | none => rw [e] at hw; exact absurd hw (by simp)
      | some u =>
        rw [e] at hw
        have hw : h :: u = w' := Option.some.inj hw
        subst hw
        refine ⟨?_, ih u hR.2 e⟩
        exact (rd_no H (by rw [H.1]; exact c) w u e).mpr hR.1
theorem RdL.ap (H : TrH t iv) {x : Nat} {w : List Nat} (h : RdL t iv w) : RdL t iv (ap t iv w x) := by
  cases e : rdx t iv w x with
  | none => rw [ap_n e]; exact ⟨e, h⟩
  | some u => rw [ap_s e]; exact h.rm H w u e
theorem rd_mv (H : TrH t iv) {x : Nat} : ∀ (w w' : List Nat), rdx t iv w x = some w' → ∀ v0, EqL t iv (v0 ++ iv x :: w') (v0 ++ w) := by
  intro w
  induction w with
  | nil => intro w' h; exact absurd h (by unfold rdx; simp)
  | cons h w ih =>
    intro w' hw v0
    cases c : t h x with
    | true =>
      rw [rd_t c] at hw
      by_cases e : h = iv x
      · rw [if_pos e] at hw
        have hw := Option.some.inj hw
        subst hw
        rw [e]
        exact EqL.rf _
      · rw [if_neg e] at hw
        exact absurd hw (by simp)
    | false =>
      rw [rd_f c] at hw
      cases e : rdx t iv w x with
      | none => rw [e] at hw; exact absurd hw (by simp)
      | some u =>
        rw [e] at hw
        have hw : h :: u = w' := Option.some.inj hw
        subst hw
        have s1 : EqL t iv (v0 ++ iv x :: h :: u) (v0 ++ h :: iv x :: u) := SwL.eq H (Or.inr ⟨v0, iv x, h, u, by rw [H.2.2.2, H.1]; exact c, rfl, rfl⟩)
        have s2 := ih u e (v0 ++ [h])
        simp only [List.append_assoc, List.singleton_append] at s2
        exact s1.tr s2
theorem rd_back (H : TrH t iv) {x : Nat} : ∀ (w w' : List Nat), RdL t iv w → rdx t iv w x = some w' → rdx t iv w' (iv x) = none := by
  intro w
  induction w with
  | nil => intro w' _ h; exact absurd h (by unfold rdx; simp)
  | cons h w ih =>
    intro w' hR hw
    cases c : t h x with
    | true =>
      rw [rd_t c] at hw
      by_cases e : h = iv x
      · rw [if_pos e] at hw
        have hw := Option.some.inj hw
        subst hw
        rw [← e]
        exact hR.1
      · rw [if_neg e] at hw
        exact absurd hw (by simp)
    | false =>
      rw [rd_f c] at hw
      cases e : rdx t iv w x with
      | none => rw [e] at hw; exact absurd hw (by simp)
      | some u =>
        rw [e] at hw
        have hw : h :: u = w' := Option.some.inj hw
        subst hw
        rw [rd_f (by rw [H.1, H.2.2.2, H.1]; exact c), ih u hR.2 e]
        rfl
/-- a letter and the one that undoes it -/
theorem ap_ap (H : TrH t iv) {x : Nat} {w : List Nat} (h : RdL t iv w) : EqL t iv (ap t iv (ap t iv w (iv x)) x) w := by
  cases e : rdx t iv w (iv x) with
  | none =>
    rw [ap_n e, ap_s (w' := w)]
    · exact EqL.rf _
    · rw [rd_t (by rw [H.2.2.2]; exact H.2.1 x), if_pos rfl]
  | some u =>
    have b := rd_back H w u h e
    rw [H.2.2.1] at b
    rw [ap_s e, ap_n b]
    have m := rd_mv H w u e []
    rw [H.2.2.1] at m
    exact m
theorem ap_ca (H : TrH t iv) {x y : Nat} (hxy : t x y = false) : ∀ (w w1 w2 : List Nat), rdx t iv w x = some w1 → rdx t iv w y = some w2 → ∃ z, rdx t iv w1 y = some z ∧ rdx t iv w2 x = some z := by
  obtain ⟨hs, hr, hi, ht⟩ := H
  intro w
  induction w with
  | nil => intro w1 w2 h; exact absurd h (by unfold rdx; simp)
  | cons h w ih =>
    intro w1 w2 h1 h2
    cases c1 : t h x with
    | true =>
      rw [rd_t c1] at h1
      by_cases e : h = iv x
      · rw [if_pos e] at h1
        have h1 := Option.some.inj h1
        subst h1
        have c2 : t h y = false := by rw [e, ht]; exact hxy
        rw [rd_f c2] at h2
        cases e2 : rdx t iv w y with
        | none => rw [e2] at h2; exact absurd h2 (by simp)
        | some u =>
          rw [e2] at h2
          have h2 : h :: u = w2 := Option.some.inj h2
          subst h2
          exact ⟨u, rfl, by rw [rd_t c1, if_pos e]⟩
      · rw [if_neg e] at h1
        exact absurd h1 (by simp)
    | false =>
      rw [rd_f c1] at h1
      cases e1 : rdx t iv w x with
      | none => rw [e1] at h1; exact absurd h1 (by simp)
      | some u1 =>
        rw [e1] at h1
        have h1 : h :: u1 = w1 := Option.some.inj h1
        subst h1
        cases c2 : t h y with
        | true =>
          rw [rd_t c2] at h2
          by_cases e : h = iv y
          · rw [if_pos e] at h2
            have h2 := Option.some.inj h2
            subst h2
            exact ⟨u1, by rw [rd_t c2, if_pos e], e1⟩
          · rw [if_neg e] at h2
            exact absurd h2 (by simp)
        | false =>
          rw [rd_f c2] at h2
          cases e2 : rdx t iv w y with
          | none => rw [e2] at h2; exact absurd h2 (by simp)
          | some u2 =>
            rw [e2] at h2
            have h2 : h :: u2 = w2 := Option.some.inj h2
            subst h2
            obtain ⟨z, z1, z2⟩ := ih u1 u2 e1 e2
            exact ⟨h :: z, by rw [rd_f c2, z1]; rfl, by rw [rd_f c1, z2]; rfl⟩
/-- two that don't touch, in either order -/
theorem ap_co (H : TrH t iv) {x y : Nat} (hxy : t x y = false) (w : List Nat) : EqL t iv (ap t iv (ap t iv w x) y) (ap t iv (ap t iv w y) x) := by
  have hyx : t y x = false := by rw [H.1]; exact hxy
  cases e1 : rdx t iv w x with
  | none =>
    rw [ap_n e1]
    cases e2 : rdx t iv w y with
    | none =>
      rw [ap_n e2, ap_n (by rw [rd_f hxy, e2]; rfl), ap_n (by rw [rd_f hyx, e1]; rfl)]
      exact SwL.eq H (Or.inr ⟨[], y, x, w, hyx, rfl, rfl⟩)
    | some u =>
      rw [ap_s e2, ap_s (by rw [rd_f hxy, e2]; rfl), ap_n ((rd_no H hyx w u e2).mpr e1)]
      exact EqL.rf _
  | some u1 =>
    rw [ap_s e1]
    cases e2 : rdx t iv w y with
    | none =>
      rw [ap_n e2, ap_n ((rd_no H hxy w u1 e1).mpr e2), ap_s (by rw [rd_f hyx, e1]; rfl)]
      exact EqL.rf _
    | some u2 =>
      obtain ⟨z, z1, z2⟩ := ap_ca H hxy w u1 u2 e1 e2
      rw [ap_s e2, ap_s z1, ap_s z2]
      exact EqL.rf _
/-- a row behind another, letter by letter -/
def acL (t : Nat → Nat → Bool) (iv : Nat → Nat) (w : List Nat) : List Nat → List Nat
  | [] => w
  | x :: R => ap t iv (acL t iv w R) x
theorem acL.rd (H : TrH t iv) {w : List Nat} (h : RdL t iv w) : ∀ R, RdL t iv (acL t iv w R) := by
  intro R
  induction R with
  | nil => exact h
  | cons x R ih => exact ih.ap H
theorem acL.app (w : List Nat) (v : List Nat) : ∀ u, acL t iv w (u ++ v) = acL t iv (acL t iv w v) u := by
  intro u
  induction u with
  | nil => rfl
  | cons x u ih =>
    show ap t iv (acL t iv w (u ++ v)) x = ap t iv (acL t iv (acL t iv w v) u) x
    rw [ih]
theorem acL.cg {w w' : List Nat} (h : EqL t iv w w') : ∀ R, EqL t iv (acL t iv w R) (acL t iv w' R) := by
  intro R
  induction R with
  | nil => exact h
  | cons x R ih => exact ih.ap x
/-- behind a row that is undone as it goes -/
theorem acL.hom (H : TrH t iv) {w : List Nat} (h : RdL t iv w) (d : Nat) : ∀ R, EqL t iv (acL t iv w (ap t iv R d)) (ap t iv (acL t iv w R) d) := by
  intro R
  cases e : rdx t iv R d with
  | none => rw [ap_n e]; exact EqL.rf _
  | some R' =>
    rw [ap_s e]
    induction R generalizing R' with
    | nil => exact absurd e (by unfold rdx; simp)
    | cons y R ih =>
      cases c : t y d with
      | true =>
        rw [rd_t c] at e
        by_cases q : y = iv d
        · rw [if_pos q] at e
          have e := Option.some.inj e
          subst e
          have := ap_ap H (x := d) (acL.rd H h R)
          rw [← q] at this
          exact this.sy
        · rw [if_neg q] at e
          exact absurd e (by simp)
      | false =>
        rw [rd_f c] at e
        cases q : rdx t iv R d with
        | none => rw [q] at e; exact absurd e (by simp)
        | some u =>
          rw [q] at e
          have e : y :: u = R' := Option.some.inj e
          subst e
          have i := (ih u q).ap y
          exact i.tr (ap_co H (by rw [H.1]; exact c) (acL t iv w R))
/-- a letter that touches none of a row -/
theorem acL.mv (H : TrH t iv) {c : Nat} (w : List Nat) : ∀ R : List Nat, (∀ y ∈ R, t y c = false) → EqL t iv (ap t iv (acL t iv w R) c) (acL t iv (ap t iv w c) R) := by
  intro R
  induction R with
  | nil => intro _; exact EqL.rf _
  | cons y R ih =>
    intro h
    have i := (ih (fun z hz => h z (List.mem_cons_of_mem _ hz))).ap y
    exact (ap_co H (h y List.mem_cons_self) (acL t iv w R)).tr i
theorem ls_mv (H : TrH t iv) {x : Nat} (u : List Nat) : ∀ (v v0 : List Nat), (∀ y ∈ v, t y x = false) → EqL t iv (v0 ++ x :: (v ++ u)) (v0 ++ (v ++ x :: u)) := by
  intro v
  induction v with
  | nil => intro v0 _; exact EqL.rf _
  | cons h v ih =>
    intro v0 hv
    have s1 : EqL t iv (v0 ++ x :: h :: (v ++ u)) (v0 ++ h :: x :: (v ++ u)) := SwL.eq H (Or.inr ⟨v0, x, h, v ++ u, by rw [H.1]; exact hv h List.mem_cons_self, rfl, rfl⟩)
    have s2 := ih (v0 ++ [h]) (fun z hz => hv z (List.mem_cons_of_mem _ hz))
    simp only [List.append_assoc, List.singleton_append] at s2
    exact s1.tr s2
/-- where a letter would undo one -/
theorem rd_app {x : Nat} (v : List Nat) : ∀ u : List Nat, (∀ y ∈ u, t y x = false) → rdx t iv (u ++ v) x = (rdx t iv v x).map (fun z => u ++ z) := by
  intro u
  induction u with
  | nil =>
    intro _
    show rdx t iv v x = (rdx t iv v x).map (fun z => z)
    cases rdx t iv v x <;> rfl
  | cons h u ih =>
    intro hu
    show rdx t iv (h :: (u ++ v)) x = _
    rw [rd_f (hu h List.mem_cons_self), ih (fun z hz => hu z (List.mem_cons_of_mem _ hz))]
    cases rdx t iv v x <;> rfl
theorem rd_blk {x : Nat} (v : List Nat) : ∀ u : List Nat, rdx t iv u x = none → (∃ y ∈ u, t y x = true) → rdx t iv (u ++ v) x = none := by
  intro u
  induction u with
  | nil => intro _ ⟨y, hy, _⟩; exact absurd hy (by simp)
  | cons h u ih =>
    intro h1 ⟨y, hy, h2⟩
    show rdx t iv (h :: (u ++ v)) x = none
    cases c : t h x with
    | true =>
      rw [rd_t c] at h1 ⊢
      by_cases e : h = iv x
      · rw [if_pos e] at h1; exact absurd h1 (by simp)
      · rw [if_neg e]
    | false =>
      rw [rd_f c] at h1 ⊢
      have h3 : rdx t iv u x = none := by
        cases q : rdx t iv u x with
        | none => rfl
        | some z => rw [q] at h1; exact absurd h1 (by simp)
      rw [ih h3 ⟨y, ?_, h2⟩]
      · rfl
      · rcases List.mem_cons.mp hy with q | q
        · rw [q, c] at h2; exact absurd h2 (by decide)
        · exact q
theorem rd_ex {x : Nat} : ∀ (v w' : List Nat), rdx t iv v x = some w' → ∃ a b, v = a ++ iv x :: b ∧ ∀ y ∈ a, t y x = false := by
  intro v
  induction v with
  | nil => intro w' h; exact absurd h (by unfold rdx; simp)
  | cons h v ih =>
    intro w' hw
    cases c : t h x with
    | true =>
      rw [rd_t c] at hw
      by_cases e : h = iv x
      · exact ⟨[], v, by rw [e]; rfl, fun y hy => absurd hy (by simp)⟩
      · rw [if_neg e] at hw
        exact absurd hw (by simp)
    | false =>
      rw [rd_f c] at hw
      cases e : rdx t iv v x with
      | none => rw [e] at hw; exact absurd hw (by simp)
      | some u =>
        obtain ⟨a, b, h1, h2⟩ := ih u e
        refine ⟨h :: a, b, by rw [h1]; rfl, fun y hy => ?_⟩
        rcases List.mem_cons.mp hy with q | q
        · rw [q]; exact c
        · exact h2 y q
end TW
