/-! the reference's GREEN, in a slot at s -/
def MdS (sh : aw_SH) (R : Nat → Nat → Option Nat) : Prop := sh[114]? = some (0, 11) ∧ R 114 0 = some 115 ∧ sh[115]? = some (3, 3864)
theorem MdS.mk0 {R : Nat → Nat → Option Nat} (h : RefsOk R) : MdS sh0 R := ⟨rfl, h.at (by decide), rfl⟩
theorem nA0 (s : Nat) : nI s + (0 : Int32) = nI s := nI_add s 0
theorem nA1 (s : Nat) : nI s + (1 : Int32) = nI (s + 1) := nI_add s 1
theorem nA2 (s : Nat) : nI s + (2 : Int32) = nI (s + 2) := nI_add s 2
theorem nA3 (s : Nat) : nI s + (3 : Int32) = nI (s + 3) := nI_add s 3
theorem nA4 (s : Nat) : nI s + (4 : Int32) = nI (s + 4) := nI_add s 4
theorem nA5 (s : Nat) : nI s + (5 : Int32) = nI (s + 5) := nI_add s 5
theorem nA17 (s : Nat) : nI s + (17 : Int32) = nI (s + 17) := nI_add s 17
theorem nB10 (s : Nat) : (10 : Int32) + nI s = nI (10 + s) := nI_add 10 s
theorem nB17 (s : Nat) : (17 : Int32) + nI s = nI (17 + s) := nI_add 17 s
theorem nRow (k : Nat) : (24 : Int32) + (4 : Int32) * nI k = nI (24 + 4 * k) := by
  rw [show (4 : Int32) = nI 4 from rfl, pk_mul, show (24 : Int32) = nI 24 from rfl, nI_add]
def tchV (m v : Int32) : Bool := if v = 0 then true else if m ≤ 2 then false else if v = 1 then true else if v = m - 1 then true else false
set_option maxRecDepth 100000 in
theorem tch_w : ∀ n, n < 8 → ∀ x, x < n → ∀ y, y < n → 2 ≤ n → tchN n x y = tchV (nI n) (((nI x - nI y) + nI n) - ((nI x - nI y) + nI n) / nI n * nI n) := by decide +kernel
theorem sub_m1 (a b : Nat) : nI a - nI b + (-1) = nI a - nI (b + 1) := by
  rw [nI_succ b, Int32.sub_eq_add_neg, Int32.sub_eq_add_neg, Int32.neg_add, Int32.add_assoc, Int32.sub_eq_add_neg]
theorem lt_lt {f : Nat → Nat} {gap : Nat} : ∀ m k, lt_in f gap m = some k → k < m ∧ f k % 8 = gap := by
  intro m
  induction m with
  | zero => exact fun k h => by unfold lt_in at h; cases h
  | succ m ih =>
    intro k h
    unfold lt_in at h
    split at h
    · next q =>
      have e : m = k := Option.some.inj h
      subst e
      exact ⟨by omega, q⟩
    · have := ih k h
      exact ⟨by omega, this.2⟩
/-- the reference's words for the pass that is undone -/
theorem ub_iff {f : Nat → Nat} {t : Nat → Bool} {gap over : Nat} (ht : t gap = true) (k : Nat) : ∀ m, ub f t gap over m = some k ↔ lt_in f gap m = some k ∧ f k / 8 % 2 ≠ over ∧ ∀ o, k < o → o < m → t (f o % 8) = false := by
  intro m
  induction m with
  | zero => exact ⟨fun h => (by unfold ub at h; cases h), fun h => (by unfold lt_in at h; cases h.1)⟩
  | succ m ih =>
    unfold ub lt_in
    by_cases c1 : f m % 8 = gap
    · rw [if_pos c1, if_pos (by rw [c1]; exact ht)]
      by_cases c2 : f m / 8 % 2 = over
      · rw [if_neg (fun z => z.2 c2)]
        exact ⟨fun h => (by cases h), fun h => absurd (by rw [← Option.some.inj h.1]; exact c2) h.2.1⟩
      · rw [if_pos ⟨c1, c2⟩]
        constructor
        · intro h
          have e : m = k := Option.some.inj h
          subst e
          exact ⟨rfl, c2, fun o h1 h2 => by omega⟩
        · exact fun h => h.1
    · rw [if_neg c1]
      by_cases c3 : t (f m % 8) = true
      · rw [if_pos c3, if_neg (fun z => c1 z.1)]
        constructor
        · intro h
          cases h
        · intro h
          have hk := (lt_lt m k h.1).1
          exact absurd c3 (by rw [h.2.2 m hk (by omega)]; decide)
      · rw [if_neg c3, ih]
        have c3 : t (f m % 8) = false := by simpa using c3
        constructor
        · rintro ⟨a0, a1, a2⟩
          refine ⟨a0, a1, fun o h1 h2 => ?_⟩
          by_cases e : o = m
          · rw [e]; exact c3
          · exact a2 o h1 (by omega)
        · rintro ⟨a0, a1, a2⟩
          exact ⟨a0, a1, fun o h1 h2 => a2 o h1 (by omega)⟩
theorem ub_no {f : Nat → Nat} {t : Nat → Bool} {gap over m : Nat} (ht : t gap = true) (h : ∀ k, lt_in f gap m = some k → f k / 8 % 2 ≠ over → (∀ o, k < o → o < m → t (f o % 8) = false) → False) : ub f t gap over m = none := by
  cases hu : ub f t gap over m with
  | none => rfl
  | some k =>
    obtain ⟨a, b, c⟩ := (ub_iff ht k m).mp hu
    exact absurd c (h k a b)
section MO
variable {l : Launch} {d : Nat} {sh : aw_SH} {S : aw_S} {s : Nat} {g : GM}
theorem sp_Md_gapsOf {P : Int32 → aw_S → Prop} {n : Nat} (hS : MdS sh S.2.2) (hs : s < 3800) (hn : n ≤ 7) (h0 : S.1 115 s = nI n) (h : P (nI (gpN n)) S) : Sp l m_Md_gapsOf (d + 1) 0 0 [.ref 114, .int (nI s)] sh S (gI sh P) := by
  refine e_Md_gapsOf hS.1 ⟨115, hS.2.1, 3864, hS.2.2, ?_⟩
  rw [nA0, nI_clamp (by omega), h0]
  refine ⟨vp_in_nI (by omega) (by omega), ?_⟩
  unfold gpN at h
  refine ⟨fun q => ?_, fun q => ?_⟩
  · have := (nI_leI (a := 2) (by omega) (by omega)).mp q
    rw [if_neg (by omega)] at h
    refine ⟨fun q2 => ?_, fun q2 => ?_⟩
    · rw [if_neg (fun z => q2 (by rw [z]; rfl))] at h
      exact h
    · rw [if_pos ((nI_inj (b := 2) (by omega) (by omega)).mp q2)] at h
      exact h
  · have : n < 2 := Nat.not_le.mp (fun z => q (nI_le (a := 2) z (by omega)))
    rw [if_pos (by omega)] at h
    exact h
theorem sp_Md_isTouching {P : Int32 → aw_S → Prop} {n x y : Nat} (hS : MdS sh S.2.2) (hs : s < 3800) (hn : n ≤ 7) (h2 : 2 ≤ n) (hx : x < n) (hy : y < n) (h0 : S.1 115 s = nI n) (h1 : tchN n x y = true → P 1 S) (h3 : tchN n x y = false → P 0 S) : Sp l m_Md_isTouching (d + 1) 0 0 [.ref 114, .int (nI s), .int (nI x), .int (nI y)] sh S (gI sh P) := by
  have w := tch_w n (by omega) x hx y hy h2
  refine e_Md_isTouching hS.1 ⟨115, hS.2.1, 3864, hS.2.2, ?_⟩
  rw [nA0, nI_clamp (by omega), h0]
  refine ⟨vp_in_nI (by omega) (by omega), nI_ne0 (by omega) (by omega), fun v hv => ?_⟩
  rw [← hv] at w
  unfold tchV at w
  refine ⟨fun q => h1 (by rw [w, if_pos q]), fun q => ⟨fun q2 => h3 (by rw [w, if_neg q, if_pos q2]), fun q2 => ⟨fun q3 => h1 (by rw [w, if_neg q, if_neg q2, if_pos q3]), fun q3 => ⟨fun q4 => h3 (by rw [w, if_neg q, if_neg q2, if_neg q3, if_neg q4]), fun q4 => h1 (by rw [w, if_neg q, if_neg q2, if_neg q3, if_pos q4])⟩⟩⟩⟩
theorem sp_Md_latestIn {P : Int32 → aw_S → Prop} {gap : Nat} (hS : MdS sh S.2.2) (hs : s < 3600) (hb : bdG g) (H : MdG S.1 s g) (hg : gap < 8) (h : P (oI (lt_in g.f gap g.m)) S) : Sp l m_Md_latestIn (d + 1 + 1) 0 0 [.ref 114, .int (nI s), .int (nI gap)] sh S (gI sh P) := by
  have hm : g.m ≤ 40 := hb.2.2.2.2.1
  refine e_Md_latestIn hS.1 ?_
  have key : ∀ j k, k + j = g.m → AW l m_Md_latestIn (d + 1 + 1) 0 0 (gI sh P) 0 0 5 [.ref 114, .int (nI s), .int (nI gap), .int (oI (lt_in g.f gap k)), .int (nI k)] [] sh S := by
    intro j
    induction j with
    | zero =>
      intro k hk
      have hk : k = g.m := hk
      subst hk
      refine s_Md_latestIn_5 hS.1 ⟨115, hS.2.1, 3864, hS.2.2, ?_⟩
      rw [nA3, nI_clamp (by omega), H.2.2.2.1]
      exact ⟨vp_in_nI (by omega) (by omega), fun _ => h, fun q => absurd (nI_le (Nat.le_refl _) (by omega)) q⟩
    | succ j ih =>
      intro k hk
      refine s_Md_latestIn_5 hS.1 ⟨115, hS.2.1, 3864, hS.2.2, ?_⟩
      rw [nA3, nI_clamp (by omega), H.2.2.2.1]
      refine ⟨vp_in_nI (by omega) (by omega), fun q => absurd q (nI_ge (by omega) (by omega)), fun _ => e_Md_plaitRow ?_⟩
      rw [nRow, nI_add, nI_clamp (by omega), ← Nat.add_assoc, (H.2.2.2.2.1 k (by omega)).1, nI_1]
      have e := ih (k + 1) (by omega)
      unfold lt_in at e
      refine ⟨vp_in_nI (by omega) (by omega), fun q => ?_, fun q => ?_⟩
      · rw [if_neg (fun z => q (by rw [z]))] at e
        exact e
      · rw [if_pos ((nI_inj (by omega) (by omega)).mp q)] at e
        exact e
  exact key g.m 0 (by omega)
theorem sp_Md_isFreeIn {P : Int32 → aw_S → Prop} {k0 : Nat} (hS : MdS sh S.2.2) (hs : s < 3600) (hb : bdG g) (H : MdG S.1 s g) (hk0 : k0 < g.m) (h1 : (∀ o, k0 < o → o < g.m → tchN g.n (g.f o % 8) (g.f k0 % 8) = false) → P 1 S) (h0 : ¬ (∀ o, k0 < o → o < g.m → tchN g.n (g.f o % 8) (g.f k0 % 8) = false) → P 0 S) : Sp l m_Md_isFreeIn (d + 1 + 1) 0 0 [.ref 114, .int (nI s), .int (nI k0)] sh S (gI sh P) := by
  have hm : g.m ≤ 40 := hb.2.2.2.2.1
  have hn : g.n ≤ 7 := hb.1
  have h3 := gp_le g.n
  have b0 := (hb.2.2.2.2.2.1 k0 hk0).2.1
  have h2 := gp_2 b0
  refine e_Md_isFreeIn hS.1 ?_
  rw [nI_1]
  have key : ∀ j k, k + j = g.m → k0 < k → (∀ o, k0 < o → o < k → tchN g.n (g.f o % 8) (g.f k0 % 8) = false) → AW l m_Md_isFreeIn (d + 1 + 1) 0 0 (gI sh P) 0 0 4 [.ref 114, .int (nI s), .int (nI k0), .int (nI k)] [] sh S := by
    intro j
    induction j with
    | zero =>
      intro k hk _ ho
      have hk : k = g.m := hk
      subst hk
      refine s_Md_isFreeIn_4 hS.1 ⟨115, hS.2.1, 3864, hS.2.2, ?_⟩
      rw [nA3, nI_clamp (by omega), H.2.2.2.1]
      exact ⟨vp_in_nI (by omega) (by omega), fun _ => h1 ho, fun q => absurd (nI_le (Nat.le_refl _) (by omega)) q⟩
    | succ j ih =>
      intro k hk hkk ho
      have b1 := (hb.2.2.2.2.2.1 k (by omega)).2.1
      refine s_Md_isFreeIn_4 hS.1 ⟨115, hS.2.1, 3864, hS.2.2, ?_⟩
      rw [nA3, nI_clamp (by omega), H.2.2.2.1]
      refine ⟨vp_in_nI (by omega) (by omega), fun q => absurd q (nI_ge (by omega) (by omega)), fun _ => e_Md_plaitRow ?_⟩
      rw [nRow, nI_add, nI_clamp (by omega), ← Nat.add_assoc, (H.2.2.2.2.1 k (by omega)).1]
      refine ⟨vp_in_nI (by omega) (by omega), 115, hS.2.1, e_Md_plaitRow ?_⟩
      rw [nRow, nI_add, nI_clamp (by omega), ← Nat.add_assoc, (H.2.2.2.2.1 k0 (by omega)).1, nI_1]
      refine ⟨3864, hS.2.2, vp_in_nI (by omega) (by omega), sp_Md_isTouching hS (by omega) hn h2 (by omega) (by omega) H.1 (fun t => ⟨fun q => absurd q (by decide), fun _ => h0 (fun z => absurd t (by rw [z k hkk (by omega)]; decide))⟩) (fun t => ⟨fun _ => ih (k + 1) (by omega) (by omega) (fun o q1 q2 => ?_), fun q => absurd rfl q⟩)⟩
      by_cases e : o = k
      · rw [e]; exact t
      · exact ho o q1 (by omega)
  exact key (g.m - (k0 + 1)) (k0 + 1) (by omega) (by omega) (fun o q1 q2 => by omega)
theorem sp_Md_leftOf {P : Int32 → aw_S → Prop} {w : Nat} (hS : MdS sh S.2.2) (hs : s < 3600) (hb : bdG g) (H : MdG S.1 s g) (hw : w < g.n) (h : P (nI (lfN g w)) S) : Sp l m_Md_leftOf (d + 1 + 1) 0 0 [.ref 114, .int (nI s), .int (nI w)] sh S (gI sh P) := by
  have hm : g.m ≤ 40 := hb.2.2.2.2.1
  have hn : g.n ≤ 7 := hb.1
  have hl : g.lg ≤ 40 := hb.2.2.2.1
  refine e_Md_leftOf hS.1 ⟨115, hS.2.1, 3864, hS.2.2, ?_⟩
  rw [nA2, nI_clamp (by omega), H.2.2.1]
  refine ⟨vp_in_nI (by omega) (by omega), ?_⟩
  have key : ∀ j k, k + j = g.m → AW l m_Md_leftOf (d + 1 + 1) 0 0 (gI sh P) 0 0 12 [.ref 114, .int (nI s), .int (nI w), .int (nI g.lg - nI (usN g.f w k)), .int (nI k), .null] [] sh S := by
    intro j
    induction j with
    | zero =>
      intro k hk
      have hk : k = g.m := hk
      subst hk
      refine s_Md_leftOf_12 hS.1 ⟨115, hS.2.1, 3864, hS.2.2, ?_⟩
      rw [nA3, nI_clamp (by omega), H.2.2.2.1]
      have := us_le g.f w g.m
      exact ⟨vp_in_nI (by omega) (by omega), fun _ => sp_max0 (by omega) (by omega) h, fun q => absurd (nI_le (Nat.le_refl _) (by omega)) q⟩
    | succ j ih =>
      intro k hk
      obtain ⟨-, r2, r3, r4, -⟩ := hb.2.2.2.2.2.1 k (by omega)
      obtain ⟨-, -, q3, q4⟩ := H.2.2.2.2.1 k (by omega)
      refine s_Md_leftOf_12 hS.1 ⟨115, hS.2.1, 3864, hS.2.2, ?_⟩
      rw [nA3, nI_clamp (by omega), H.2.2.2.1]
      refine ⟨vp_in_nI (by omega) (by omega), fun q => absurd q (nI_ge (by omega) (by omega)), fun _ => e_Md_plaitRow ?_⟩
      rw [nRow, nI_add, nA2, nA3, nI_clamp (by omega), nI_clamp (by omega), ← Nat.add_assoc, nI_1, sub_m1]
      have e := ih (k + 1) (by omega)
      rw [us_s] at e
      unfold iN at e
      refine ⟨115, hS.2.1, 3864, hS.2.2, ?_⟩
      rw [q3, q4]
      refine ⟨vp_in_nI (by omega) (by omega), fun z => ?_, fun z => ⟨vp_in_nI (by omega) (by omega), fun z2 => ?_, fun z2 => ?_⟩⟩
      · rw [if_pos (Or.inl ((nI_inj (by omega) (by omega)).mp z))] at e
        exact e
      · rw [if_neg (fun y => y.elim (fun y => z (by rw [y])) (fun y => z2 (by rw [y])))] at e
        exact e
      · rw [if_pos (Or.inr ((nI_inj (by omega) (by omega)).mp z2))] at e
        exact e
  have e := key g.m 0 (by omega)
  rw [show usN g.f w 0 = 0 from rfl, show nI 0 = 0 from rfl, Int32.sub_zero] at e
  exact e
end MO
