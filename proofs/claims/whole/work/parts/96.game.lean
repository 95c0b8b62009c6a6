/-! games -/
/-- the choices of one whose turn it is: the passes by their codes, then none -/
def chG (g : GM) (x : Nat) : Nat × GM := if x = 2 * gpN g.n then (1, g) else psG g (x / 2) (x % 2)
def btR (c : Bool) (v u : Nat) : Prop := if c = true then u ≤ v else v ≤ u
theorem btR.rf (c : Bool) (v : Nat) : btR c v v := by
  unfold btR
  split <;> exact Nat.le_refl _
theorem btR.as {c : Bool} {v u : Nat} (h : btR c v u) (h' : btR c u v) : v = u := by
  unfold btR at h h'
  split at h
  · rw [if_pos ‹_›] at h'; omega
  · rw [if_neg ‹_›] at h'; omega
theorem btR.tr {c : Bool} {v u w : Nat} (h : btR c v u) (h' : btR c u w) : btR c v w := by
  unfold btR at h h' ⊢
  split at h
  · rw [if_pos ‹_›] at h' ⊢; omega
  · rw [if_neg ‹_›] at h' ⊢; omega
theorem btR.tot (c : Bool) (v u : Nat) : btR c v u ∨ btR c u v := by
  unfold btR
  split <;> omega
/-- what a game is worth: so many turns, whose it is -/
def wR : Nat → Bool → GM → Nat → Prop
  | 0, _, g, v => ∃ w, clP g w 0 ∧ v = pcN w
  | t + 1, c, g, v => (∃ x, x ≤ 2 * gpN g.n ∧ (chG g x).1 ≠ 0 ∧ wR t (!c) (chG g x).2 v) ∧ ∀ x, x ≤ 2 * gpN g.n → (chG g x).1 ≠ 0 → ∀ u, wR t (!c) (chG g x).2 u → btR c v u
theorem wR.eq : ∀ {t : Nat} {c : Bool} {g : GM} {v u : Nat}, wR t c g v → wR t c g u → v = u := by
  intro t
  cases t with
  | zero =>
    intro c g v u ⟨w, h, e⟩ ⟨w', h', e'⟩
    rw [e, e', clP.eq h h']
  | succ t =>
    intro c g v u ⟨⟨x, x1, x2, x3⟩, h⟩ ⟨⟨y, y1, y2, y3⟩, h'⟩
    exact btR.as (h y y1 y2 u y3) (h' x x1 x2 v x3)
theorem pc_6 : ∀ w, w < 64 → pcN w ≤ 6 := by decide +kernel
theorem wR.le : ∀ {t : Nat} {c : Bool} {g : GM} {v : Nat}, wR t c g v → v ≤ 6 := by
  intro t
  induction t with
  | zero =>
    intro c g v ⟨w, h, e⟩
    rw [e]
    exact pc_6 w h.1
  | succ t ih =>
    intro c g v ⟨⟨x, x1, x2, x3⟩, h⟩
    exact ih x3
/-- the best of the first choices, and the first that is -/
def bestR (t : Nat) (c : Bool) (g : GM) (X v x : Nat) : Prop := x < X ∧ (chG g x).1 ≠ 0 ∧ wR t (!c) (chG g x).2 v ∧ (∀ y, y < X → (chG g y).1 ≠ 0 → ∀ u, wR t (!c) (chG g y).2 u → btR c v u) ∧ (∀ y, y < x → (chG g y).1 ≠ 0 → ∀ u, wR t (!c) (chG g y).2 u → ¬ btR c u v)
theorem bestR.eq {t : Nat} {c : Bool} {g : GM} {X v x v' x' : Nat} (h : bestR t c g X v x) (h' : bestR t c g X v' x') : v = v' ∧ x = x' := by
  obtain ⟨a1, a2, a3, a4, a5⟩ := h
  obtain ⟨b1, b2, b3, b4, b5⟩ := h'
  have e : v = v' := btR.as (a4 _ b1 b2 _ b3) (b4 _ a1 a2 _ a3)
  subst e
  refine ⟨rfl, ?_⟩
  by_cases c1 : x < x'
  · exact absurd (btR.rf c v) (b5 x c1 a2 v a3)
  · by_cases c2 : x' < x
    · exact absurd (btR.rf c v) (a5 x' c2 b2 v b3)
    · omega
theorem bestR.w {t : Nat} {c : Bool} {g : GM} {v x : Nat} (h : bestR t c g (2 * gpN g.n + 1) v x) : wR (t + 1) c g v := by
  obtain ⟨a1, a2, a3, a4, a5⟩ := h
  exact ⟨⟨x, by omega, a2, a3⟩, fun y hy => a4 y (by omega)⟩
theorem ch_n {g : GM} {x : Nat} (hb : bdG g) (hr : redN g.n g.f g.m) (hx : x ≤ 2 * gpN g.n) : bdG (chG g x).2 ∧ redN (chG g x).2.n (chG g x).2.f (chG g x).2.m ∧ (chG g x).2.n = g.n := by
  unfold chG
  by_cases e : x = 2 * gpN g.n
  · rw [if_pos e]
    exact ⟨hb, hr, rfl⟩
  · rw [if_neg e]
    obtain ⟨b1, b2, b3, -⟩ := ps_ok hb hr (show x / 2 < gpN g.n by omega) (show x % 2 < 2 by omega)
    exact ⟨b1, b2, b3⟩
theorem ch_lt {g : GM} {x : Nat} (hx : x < 2 * gpN g.n) : chG g x = psG g (x / 2) (x % 2) := by
  unfold chG
  rw [if_neg (by omega)]
theorem ch_no (g : GM) : chG g (2 * gpN g.n) = (1, g) := by
  unfold chG
  rw [if_pos rfl]
section GA
variable {l : Launch} {sh : aw_SH} {a : Nat}
theorem sp_minN {d : Nat} {S : aw_S} {P : Int32 → aw_S → Prop} {x y : Nat} (hx : x < 2 ^ 31) (hy : y < 2 ^ 31) (h : P (nI (min x y)) S) : Sp l m_Ma_min (d + 1) 0 0 [.int (nI x), .int (nI y)] sh S (gI sh P) := by
  refine sp_min ?_
  by_cases c : y < x
  · rw [if_pos ((nI_ltI hy hx).mpr c)]
    rw [show min x y = y by omega] at h
    exact h
  · rw [if_neg (fun q => c ((nI_ltI hy hx).mp q))]
    rw [show min x y = x by omega] at h
    exact h
theorem sp_tryX {d : Nat} {S : aw_S} {g : GM} {P : Int32 → aw_S → Prop} {x : Nat} (hS : GrS sh S.2.2 a) (hb : bdG g) (H : GrG S.1 a g) (hx : x < 2 * gpN g.n)
    (h0 : (chG g x).1 = 0 → P (-1) S)
    (h1 : ∀ r S', (chG g x).1 ≠ 0 → r ≠ -1 → FrI (GX a) S S' → GrG S'.1 a (chG g x).2 → (∀ {l : Launch} {d : Nat} {T : aw_S} {Q : aw_S → Prop}, GrS sh T.2.2 a → GrG T.1 a (chG g x).2 → (∀ T', FrI (GX a) T T' → GrG T'.1 a g → Q T') → Sp l m_Gr_takeBack (d + 1 + 1 + 1 + 1) 0 0 [.ref a, .int r] sh T (gV sh Q)) → P r S') : Sp l m_Gr_makePass (d + 1 + 1 + 1 + 1) 0 0 [.ref a, .int (nI x)] sh S (gI sh P) := by
  rw [ch_lt hx] at h0 h1
  have e : 2 * (x / 2) + x % 2 = x := by omega
  have key := sp_try (l := l) (d := d) (P := P) hS hb H (show x / 2 < gpN g.n by omega) (show x % 2 < 2 by omega) h0 h1
  rw [e] at key
  exact key
def cbN (c : Bool) (v u : Nat) : Nat := if c = true then max v u else min v u
theorem cb_or (c : Bool) (v u : Nat) : (cbN c v u = v ∧ btR c v u) ∨ (cbN c v u = u ∧ btR c u v) := by
  unfold cbN btR
  by_cases h : c = true
  · simp only [if_pos h]; omega
  · simp only [if_neg h]; omega
/-- worth of what was looked at: none, and the first X codes -/
def wvP (t : Nat) (c : Bool) (g : GM) (X v : Nat) : Prop := (∃ x, (x < X ∨ x = 2 * gpN g.n) ∧ (chG g x).1 ≠ 0 ∧ wR t (!c) (chG g x).2 v) ∧ ∀ x, (x < X ∨ x = 2 * gpN g.n) → (chG g x).1 ≠ 0 → ∀ u, wR t (!c) (chG g x).2 u → btR c v u
theorem wvP.s0 {t : Nat} {c : Bool} {g : GM} {X v : Nat} (h : wvP t c g X v) (hX : (chG g X).1 = 0) : wvP t c g (X + 1) v := by
  obtain ⟨⟨x, x1, x2, x3⟩, h⟩ := h
  refine ⟨⟨x, by omega, x2, x3⟩, fun y hy hy2 u hu => ?_⟩
  by_cases e : y = X
  · rw [e] at hy2; exact absurd hX hy2
  · exact h y (by omega) hy2 u hu
theorem wvP.s1 {t : Nat} {c : Bool} {g : GM} {X v u : Nat} (h : wvP t c g X v) (hX : (chG g X).1 ≠ 0) (hu : wR t (!c) (chG g X).2 u) : wvP t c g (X + 1) (cbN c v u) := by
  obtain ⟨⟨x, x1, x2, x3⟩, h⟩ := h
  rcases cb_or c v u with ⟨e, b⟩ | ⟨e, b⟩
  · rw [e]
    refine ⟨⟨x, by omega, x2, x3⟩, fun y hy hy2 w hw => ?_⟩
    by_cases e : y = X
    · rw [e] at hw
      rw [wR.eq hw hu]
      exact b
    · exact h y (by omega) hy2 w hw
  · rw [e]
    refine ⟨⟨X, by omega, hX, hu⟩, fun y hy hy2 w hw => ?_⟩
    by_cases e : y = X
    · rw [e] at hw
      rw [wR.eq hw hu]
      exact btR.rf c u
    · exact b.tr (h y (by omega) hy2 w hw)
theorem sp_worth : ∀ (t : Nat) (c : Bool) (D : Nat) (g : GM) (S : aw_S) (P : Int32 → aw_S → Prop), t ≤ 3 → t + 5 ≤ D → GrS sh S.2.2 a → bdG g → redN g.n g.f g.m → GrG S.1 a g → (∀ v S', wR t c g v → FrI (GX a) S S' → GrG S'.1 a g → P (nI v) S') → Sp l m_Py_worth D 0 0 [.ref a, .int (nI t), .int (bI c)] sh S (gI sh P) := by
  intro t
  induction t with
  | zero =>
    intro c D g S P ht hD hS hb hr H h
    obtain ⟨e, rfl⟩ : ∃ e, D = e + 1 + 1 + 1 + 1 + 1 := ⟨D - 5, by omega⟩
    exact e_Py_worth ⟨fun q => absurd q (by decide), fun _ => ⟨hS.sa, sp_Gr_coloursShown hS hb H (fun w hw => h _ S ⟨w, hw, rfl⟩ (FrI.refl _ _) H)⟩⟩
  | succ t ih =>
    intro c D g S P ht hD hS hb hr H h
    obtain ⟨e, rfl⟩ : ∃ e, D = e + 1 + 1 + 1 + 1 + 1 := ⟨D - 5, by omega⟩
    have hn : g.n ≤ 7 := hb.1
    have hgp := gp_le g.n
    have e2 : (2 : Int32) * nI (gpN g.n) = nI (2 * gpN g.n) := by rw [show (2 : Int32) = nI 2 from rfl, pk_mul]
    have key : ∀ j X S' v, X + j = 2 * gpN g.n → FrI (GX a) S S' → GrG S'.1 a g → wvP t c g X v → AW l m_Py_worth (e + 1 + 1 + 1 + 1 + 1) 0 0 (gI sh P) 0 0 37 [.ref a, .int (nI (t + 1)), .int (bI c), .int (nI v), .int (nI (2 * gpN g.n)), .int (nI X), .null, .null] [] sh S' := by
      intro j
      induction j with
      | zero =>
        intro X S' v hX F G W
        refine s_Py_worth_37 ⟨fun _ => h v S' ?_ F G, fun q => absurd (nI_le (by omega) (by omega)) q⟩
        obtain ⟨⟨x, x1, x2, x3⟩, W⟩ := W
        exact ⟨⟨x, by omega, x2, x3⟩, fun y hy => W y (by omega)⟩
      | succ j ihj =>
        intro X S' v hX F G W
        have hS' : GrS sh S'.2.2 a := by rw [F.R]; exact hS
        have hv : v ≤ 6 := by
          obtain ⟨⟨x, x1, x2, x3⟩, -⟩ := W
          exact x3.le
        obtain ⟨cb, cr, cn⟩ := ch_n (x := X) hb hr (by omega)
        refine s_Py_worth_37 ⟨fun q => absurd q (nI_ge (by omega) (by omega)), fun _ => ⟨hS.sa, sp_tryX hS' hb G (by omega) (fun q => ⟨fun _ => ?_, fun z => absurd rfl z⟩) (fun r T q1 q2 F1 G1 tb => ⟨fun z => absurd z q2, fun _ => ?_⟩)⟩⟩
        · rw [nI_1]
          exact ihj (X + 1) S' v (by omega) F G (W.s0 q)
        · have hT : GrS sh T.2.2 a := by rw [F1.R]; exact hS'
          rw [nI_pr, nI_1]
          cases c with
          | true =>
            refine ⟨fun _ => ih false _ _ _ _ (by omega) (by omega) hT cb cr G1 (fun u T2 hu F2 G2 => ?_), fun z => absurd z (by decide)⟩
            have hT2 : GrS sh T2.2.2 a := by rw [F2.R]; exact hT
            have hu6 := hu.le
            refine ⟨fun z => absurd z (by decide), fun _ => sp_maxN (by omega) (by omega) (tb hT2 G2 (fun T3 F3 G3 => ihj (X + 1) T3 _ (by omega) (((F.trans F1).trans F2).trans F3) G3 (W.s1 q1 hu)))⟩
          | false =>
            refine ⟨fun z => absurd rfl z, fun _ => ih true _ _ _ _ (by omega) (by omega) hT cb cr G1 (fun u T2 hu F2 G2 => ?_)⟩
            have hT2 : GrS sh T2.2.2 a := by rw [F2.R]; exact hT
            have hu6 := hu.le
            refine ⟨fun _ => sp_minN (by omega) (by omega) (tb hT2 G2 (fun T3 F3 G3 => ihj (X + 1) T3 _ (by omega) (((F.trans F1).trans F2).trans F3) G3 (W.s1 q1 hu))), fun z => absurd rfl z⟩
    have start : ∀ u S', wR t (!c) g u → FrI (GX a) S S' → GrG S'.1 a g → sh[a]? = some (0, 2) ∧ Sp l m_Gr_gaps (e + 1 + 1 + 1 + 1) 0 0 [.ref a] sh S' (gI sh (fun x7 S6 => AW l m_Py_worth (e + 1 + 1 + 1 + 1 + 1) 0 0 (gI sh P) 0 0 37 [.ref a, .int (nI (t + 1)), .int (bI c), .int (nI u), .int ((2 : Int32) * x7), .int 0, .null, .null] [] sh S6)) := by
      intro u S' hu F G
      refine ⟨hS.sa, sp_Gr_gaps hS.sa hn G.1 ?_⟩
      rw [e2]
      refine key _ 0 S' u (Nat.zero_add _) F G ⟨⟨2 * gpN g.n, Or.inr rfl, ?_, ?_⟩, fun x hx hx2 w hw => ?_⟩
      · rw [ch_no]; exact (by decide : (1 : Nat) ≠ 0)
      · rw [ch_no]; exact hu
      · have ex : x = 2 * gpN g.n := by omega
        rw [ex, ch_no] at hw
        rw [wR.eq hw hu]
        exact btR.rf c u
    refine e_Py_worth ⟨fun _ => ?_, fun q => absurd (nI_lt (a := 0) (by omega) (by omega)) q⟩
    rw [nI_pr]
    cases c with
    | true => exact ⟨fun _ => ih false _ _ _ _ (by omega) (by omega) hS hb hr H (fun u S' hu F G => start u S' hu F G), fun z => absurd z (by decide)⟩
    | false => exact ⟨fun z => absurd rfl z, fun _ => ih true _ _ _ _ (by omega) (by omega) hS hb hr H (fun u S' hu F G => start u S' hu F G)⟩
end GA
