/-! what is free, what shows, what holds what -/
theorem bit_dm (x i : Nat) : x.testBit i = true ↔ x / 2 ^ i % 2 = 1 := by
  rw [Nat.testBit_eq_decide_div_mod_eq]
  simp
theorem bit_2 (k i : Nat) : (2 ^ k).testBit i = true ↔ k = i := by
  rw [Nat.testBit_two_pow]
  simp
theorem or_bit (w k i : Nat) : (w ||| 2 ^ k).testBit i = true ↔ w.testBit i = true ∨ k = i := by
  rw [Nat.testBit_or, Bool.or_eq_true, bit_2]
set_option maxRecDepth 100000 in
theorem and_w : ∀ w, w < 128 → ∀ k, k < 7 → (nI w &&& ((1 : Int32) <<< (nI k &&& 31)) = 0 ↔ w / 2 ^ k % 2 = 0) := by decide +kernel
theorem n_and (x y : Nat) (hx : x < 2 ^ 31) (hy : y < 2 ^ 31) : nI x &&& nI y = nI (x &&& y) := by
  apply Int32.toBitVec_inj.mp
  show (nI x).toBitVec &&& (nI y).toBitVec = _
  apply BitVec.eq_of_toNat_eq
  have : x &&& y ≤ x := Nat.and_le_left
  rw [BitVec.toNat_and, pk_tn (by omega), pk_tn (by omega), pk_tn (by omega)]
theorem and_0 (x y : Nat) : x &&& y = 0 ↔ ∀ i, ¬ (x.testBit i = true ∧ y.testBit i = true) := by
  constructor
  · intro h i z
    have e : (x &&& y).testBit i = true := by rw [Nat.testBit_and, z.1, z.2]; rfl
    rw [h, Nat.zero_testBit] at e
    cases e
  · intro h
    apply Nat.eq_of_testBit_eq
    intro i
    rw [Nat.testBit_and, Nat.zero_testBit]
    cases ex : x.testBit i
    · rfl
    · cases ey : y.testBit i
      · rfl
      · exact absurd ⟨ex, ey⟩ (h i)
def frP (g : GM) (k : Nat) : Prop := ∀ o, k < o → o < g.m → tchN g.n (g.f o % 8) (g.f k % 8) = false
section FR
variable {l : Launch} {d : Nat} {sh : aw_SH} {S : aw_S} {g : GM} {a : Nat}
theorem sp_Gr_isFree {P : Int32 → aw_S → Prop} {k0 : Nat} (hS : GrS sh S.2.2 a) (hb : bdG g) (H : GrG S.1 a g) (hk0 : k0 < g.m) (h1 : frP g k0 → P 1 S) (h0 : ¬ frP g k0 → P 0 S) : Sp l m_Gr_isFree (d + 1 + 1 + 1) 0 0 [.ref a, .int (nI k0)] sh S (gI sh P) := by
  have hm : g.m ≤ 40 := hb.2.2.2.2.1
  have hn : g.n ≤ 7 := hb.1
  have hgp := gp_le g.n
  have b0 := (hb.2.2.2.2.2.1 k0 hk0).2.1
  obtain ⟨t1, t2⟩ := tm_b g.n (by omega) _ b0
  refine e_Gr_isFree hS.sa ⟨a + 6, hS.r10, hS.s6, sp_Pl_gapAt (H.pl hS hb) hk0 (sp_Gr_touching hS.sa hn b0 H.1 ?_)⟩
  rw [nI_1]
  have key : ∀ j k, k + j = g.m → k0 < k → (∀ o, k0 < o → o < k → tchN g.n (g.f o % 8) (g.f k0 % 8) = false) → AW l m_Gr_isFree (d + 1 + 1 + 1) 0 0 (gI sh P) 0 0 17 [.ref a, .null, .int (nI (tmN g.n (g.f k0 % 8))), .int (nI k)] [] sh S := by
    intro j
    induction j with
    | zero =>
      intro k hk _ ho
      have hk : k = g.m := hk
      subst hk
      refine s_Gr_isFree_17 hS.sa ⟨a + 6, hS.r10, hS.s6, ?_⟩
      rw [H.2.2.2.1]
      exact ⟨fun _ => h1 ho, fun q => absurd (nI_le (Nat.le_refl _) (by omega)) q⟩
    | succ j ih =>
      intro k hk hkk ho
      have bk := (hb.2.2.2.2.2.1 k (by omega)).2.1
      refine s_Gr_isFree_17 hS.sa ⟨a + 6, hS.r10, hS.s6, ?_⟩
      rw [H.2.2.2.1]
      refine ⟨fun q => absurd q (nI_ge (by omega) (by omega)), fun _ => sp_Pl_gapAt (H.pl hS hb) (by omega) ⟨fun q => ?_, fun q => h0 (fun z => q ?_)⟩⟩
      · have q := (t2 _ bk).mp ((n_bit0 (by omega) (by omega)).mp q)
        rw [nI_1]
        refine ih (k + 1) (by omega) (by omega) (fun o q1 q2 => ?_)
        by_cases e : o = k
        · rw [e, tch_sym]; exact q
        · exact ho o q1 (by omega)
      · have := z k hkk (by omega)
        rw [tch_sym] at this
        exact (n_bit0 (by omega) (by omega)).mpr ((t2 _ bk).mpr this)
  exact key (g.m - (k0 + 1)) (k0 + 1) (by omega) (by omega) (fun o q1 q2 => by omega)
/-- the set of gaps of those among the first k that are so -/
def stP (g : GM) (w : Nat) (k : Nat) (H : Nat → Prop) : Prop := w < 128 ∧ ∀ i, w.testBit i = true ↔ ∃ o, o < k ∧ H o ∧ g.f o % 8 = i
theorem stP.eq {w w' k : Nat} {Q : Nat → Prop} (h : stP g w k Q) (h' : stP g w' k Q) : w = w' := by
  apply Nat.eq_of_testBit_eq
  intro i
  have a1 := h.2 i
  have a2 := h'.2 i
  rw [← a2] at a1
  cases e : w.testBit i <;> cases e' : w'.testBit i <;> simp_all
theorem stP.yes {w k : Nat} {Q : Nat → Prop} (h : stP g w k Q) (hk : g.f k % 8 < 7) (q : Q k) : stP g (w ||| 2 ^ (g.f k % 8)) (k + 1) Q := by
  refine ⟨or_lt h.1 hk, fun i => ?_⟩
  rw [or_bit, h.2]
  constructor
  · rintro (⟨o, h1, h2⟩ | e)
    · exact ⟨o, by omega, h2⟩
    · exact ⟨k, by omega, q, e⟩
  · rintro ⟨o, h1, h2, h3⟩
    by_cases e : o = k
    · subst e; exact Or.inr h3
    · exact Or.inl ⟨o, by omega, h2, h3⟩
theorem stP.no {w k : Nat} {Q : Nat → Prop} (h : stP g w k Q) (q : ¬ Q k) : stP g w (k + 1) Q := by
  refine ⟨h.1, fun i => ?_⟩
  rw [h.2]
  constructor
  · rintro ⟨o, h1, h2⟩
    exact ⟨o, by omega, h2⟩
  · rintro ⟨o, h1, h2, h3⟩
    by_cases e : o = k
    · subst e; exact absurd h2 q
    · exact ⟨o, by omega, h2, h3⟩
theorem stP.zero (g : GM) (Q : Nat → Prop) : stP g 0 0 Q := ⟨by decide, fun i => by
  rw [Nat.zero_testBit]
  constructor
  · intro h; cases h
  · rintro ⟨o, h, -⟩
    omega⟩
theorem sp_Gr_freeGaps {P : Int32 → aw_S → Prop} (hS : GrS sh S.2.2 a) (hb : bdG g) (H : GrG S.1 a g) (h : ∀ w, stP g w g.m (frP g) → P (nI w) S) : Sp l m_Gr_freeGaps (d + 1 + 1 + 1 + 1) 0 0 [.ref a] sh S (gI sh P) := by
  have hm : g.m ≤ 40 := hb.2.2.2.2.1
  have hn : g.n ≤ 7 := hb.1
  have hgp := gp_le g.n
  refine e_Gr_freeGaps hS.sa ?_
  have key : ∀ j k w, k + j = g.m → stP g w k (frP g) → AW l m_Gr_freeGaps (d + 1 + 1 + 1 + 1) 0 0 (gI sh P) 0 0 4 [.ref a, .int (nI w), .int (nI k)] [] sh S := by
    intro j
    induction j with
    | zero =>
      intro k w hk hw
      have hk : k = g.m := hk
      subst hk
      refine s_Gr_freeGaps_4 hS.sa ⟨a + 6, hS.r10, hS.s6, ?_⟩
      rw [H.2.2.2.1]
      exact ⟨fun _ => h w hw, fun q => absurd (nI_le (Nat.le_refl _) (by omega)) q⟩
    | succ j ih =>
      intro k w hk hw
      have bk := (hb.2.2.2.2.2.1 k (by omega)).2.1
      refine s_Gr_freeGaps_4 hS.sa ⟨a + 6, hS.r10, hS.s6, ?_⟩
      rw [H.2.2.2.1, nI_1]
      refine ⟨fun q => absurd q (nI_ge (by omega) (by omega)), fun _ => sp_Gr_isFree hS hb H (by omega) (fun q => ⟨fun z => absurd z (by decide), fun _ => ⟨a + 6, hS.r10, hS.s6, sp_Pl_gapAt (H.pl hS hb) (by omega) ?_⟩⟩) (fun q => ⟨fun _ => ih (k + 1) w (by omega) (hw.no q), fun z => absurd rfl z⟩)⟩
      rw [or_w w hw.1 _ (by omega)]
      exact ih (k + 1) _ (by omega) (hw.yes (by omega) q)
  exact key g.m 0 0 (by omega) (stP.zero g _)
theorem sp_Md_freeGaps {P : Int32 → aw_S → Prop} (hS : MdS sh S.2.2) (hb : bdG g) (H : MdG S.1 0 g) (h : ∀ w, stP g w g.m (frP g) → P (nI w) S) : Sp l m_Md_freeGaps (d + 1 + 1 + 1) 0 0 [.ref 114] sh S (gI sh P) := by
  have hm : g.m ≤ 40 := hb.2.2.2.2.1
  have hn : g.n ≤ 7 := hb.1
  have hgp := gp_le g.n
  have y3 : S.1 115 3 = nI g.m := H.2.2.2.1
  refine e_Md_freeGaps hS.1 ?_
  have key : ∀ j k w, k + j = g.m → stP g w k (frP g) → AW l m_Md_freeGaps (d + 1 + 1 + 1) 0 0 (gI sh P) 0 0 4 [.ref 114, .int (nI w), .int (nI k)] [] sh S := by
    intro j
    induction j with
    | zero =>
      intro k w hk hw
      have hk : k = g.m := hk
      subst hk
      refine s_Md_freeGaps_4 hS.1 ⟨115, hS.2.1, 3864, hS.2.2, vp_in_nI (n := 3) (by omega) (by omega), ?_⟩
      show ((S.1 115 3 ≤ _ → _) ∧ (¬ S.1 115 3 ≤ _ → _))
      rw [y3]
      exact ⟨fun _ => h w hw, fun q => absurd (nI_le (Nat.le_refl _) (by omega)) q⟩
    | succ j ih =>
      intro k w hk hw
      have bk := (hb.2.2.2.2.2.1 k (by omega)).2.1
      refine s_Md_freeGaps_4 hS.1 ⟨115, hS.2.1, 3864, hS.2.2, vp_in_nI (n := 3) (by omega) (by omega), ?_⟩
      show ((S.1 115 3 ≤ _ → _) ∧ (¬ S.1 115 3 ≤ _ → _))
      rw [y3]
      refine ⟨fun q => absurd q (nI_ge (by omega) (by omega)), fun _ => ?_⟩
      rw [nI_1]
      refine sp_Md_isFreeIn (s := 0) hS (by omega) hb H (by omega) (fun q => ⟨fun z => absurd z (by decide), fun _ => sp_Md_passOf (w := 0) hS hb H (by omega) (by omega) ?_⟩) (fun q => ⟨fun _ => ?_, fun z => absurd rfl z⟩)
      · show AW l m_Md_freeGaps _ 0 0 _ 0 0 4 [.ref 114, .int (nI w ||| ((1 : Int32) <<< (nI (g.f k % 8) &&& 31))), .int (nI (k + 1))] [] sh S
        rw [or_w w hw.1 _ (by omega)]
        exact ih (k + 1) _ (by omega) (hw.yes (by omega) q)
      · rw [Int32.or_zero]
        exact ih (k + 1) w (by omega) (hw.no q)
  exact key g.m 0 0 (by omega) (stP.zero g _)
/-! what shows -/
def clP (g : GM) (w : Nat) (k : Nat) : Prop := w < 64 ∧ ∀ c, w.testBit c = true ↔ ∃ gap j, k ≤ j ∧ lt_in g.f gap g.m = some j ∧ g.col (g.f j / 16 % 8) = c
set_option maxRecDepth 100000 in
theorem bc_w : ∀ w, w < 64 → (let v1 : Int32 := nI w - ((((nI w).toUInt32 >>> (((1) : Int32).toUInt32 &&& Int32.toUInt32 31)).toInt32) &&& (1431655765 : Int32)); let v2 : Int32 := (v1 &&& (858993459 : Int32)) + (((v1.toUInt32 >>> (((2) : Int32).toUInt32 &&& Int32.toUInt32 31)).toInt32) &&& (858993459 : Int32)); let v3 : Int32 := (v2 + ((v2.toUInt32 >>> (((4) : Int32).toUInt32 &&& Int32.toUInt32 31)).toInt32)) &&& (252645135 : Int32); let v4 : Int32 := v3 + ((v3.toUInt32 >>> (((8) : Int32).toUInt32 &&& Int32.toUInt32 31)).toInt32); let v5 : Int32 := v4 + ((v4.toUInt32 >>> (((16) : Int32).toUInt32 &&& Int32.toUInt32 31)).toInt32); v5 &&& (63 : Int32) = nI (pcN w)) := by decide +kernel
theorem sp_bitCount {P : Int32 → aw_S → Prop} {w : Nat} (hw : w < 64) (h : P (nI (pcN w)) S) : Sp l m_In_bitCount (d + 1) 0 0 [.int (nI w)] sh S (gI sh P) := by
  refine e_In_bitCount (fun v1 h1 v2 h2 v3 h3 v4 h4 v5 h5 => ?_)
  have e : v5 &&& 63 = nI (pcN w) := by
    subst h1; subst h2; subst h3; subst h4; subst h5
    exact bc_w w hw
  rw [e]
  exact h
theorem lt_in_ge {f : Nat → Nat} {gap : Nat} : ∀ m j, j < m → f j % 8 = gap → ∃ k, lt_in f gap m = some k ∧ j ≤ k := by
  intro m
  induction m with
  | zero => exact fun j h => absurd h (Nat.not_lt_zero j)
  | succ m ih =>
    intro j hj e
    unfold lt_in
    by_cases c : f m % 8 = gap
    · rw [if_pos c]
      exact ⟨m, rfl, by omega⟩
    · rw [if_neg c]
      have : j ≠ m := fun z => c (by rw [← z]; exact e)
      exact ih j (by omega) e
theorem lt_in_of {f : Nat → Nat} {m k : Nat} (hk : k < m) (h : ∀ j, k < j → j < m → f j % 8 ≠ f k % 8) : lt_in f (f k % 8) m = some k := by
  obtain ⟨k', h1, h2⟩ := lt_in_ge (f := f) m k hk rfl
  obtain ⟨h3, h4⟩ := lt_lt _ _ h1
  by_cases e : k = k'
  · rw [e] at h1 ⊢; exact h1
  · exact absurd h4 (h k' (by omega) h3)
theorem sp_Gr_coloursShown {P : Int32 → aw_S → Prop} (hS : GrS sh S.2.2 a) (hb : bdG g) (H : GrG S.1 a g) (h : ∀ w, clP g w 0 → P (nI (pcN w)) S) : Sp l m_Gr_coloursShown (d + 1 + 1) 0 0 [.ref a] sh S (gI sh P) := by
  have hm : g.m ≤ 40 := hb.2.2.2.2.1
  have hn : g.n ≤ 7 := hb.1
  have hgp := gp_le g.n
  refine e_Gr_coloursShown hS.sa ⟨a + 6, hS.r10, hS.s6, ?_⟩
  rw [H.2.2.2.1]
  have key : ∀ k s w, k ≤ g.m → s < 128 → (∀ i, s.testBit i = true ↔ ∃ o, k ≤ o ∧ o < g.m ∧ g.f o % 8 = i) → clP g w k → AW l m_Gr_coloursShown (d + 1 + 1) 0 0 (gI sh P) 0 0 14 [.ref a, .int (nI s), .int (nI w), .int (nI k - 1), .null] [] sh S := by
    intro k
    induction k with
    | zero =>
      intro s w _ _ _ hw
      rw [iM_0]
      exact s_Gr_coloursShown_14 hS.sa ⟨fun _ => sp_bitCount hw.1 (h w hw), fun q => absurd m1_lt q⟩
    | succ k ih =>
      intro s w hk hs hsb hw
      obtain ⟨-, bk, bu, -, -⟩ := hb.2.2.2.2.2.1 k (by omega)
      have bc := hb.2.2.2.2.2.2.1 _ bu
      rw [nI_pred]
      refine s_Gr_coloursShown_14 hS.sa ⟨fun q => absurd q (nI_pos (by omega)), fun _ => ⟨a + 6, hS.r10, hS.s6, sp_Pl_gapAt (H.pl hS hb) (by omega) ?_⟩⟩
      rw [and_w s hs _ (by omega), or_w s hs _ (by omega), nI_mm]
      have s2 : ∀ i, (s ||| 2 ^ (g.f k % 8)).testBit i = true ↔ ∃ o, k ≤ o ∧ o < g.m ∧ g.f o % 8 = i := by
        intro i
        rw [or_bit, hsb]
        constructor
        · rintro (⟨o, h1, h2⟩ | e)
          · exact ⟨o, by omega, h2⟩
          · exact ⟨k, by omega, by omega, e⟩
        · rintro ⟨o, h1, h2, h3⟩
          by_cases e : o = k
          · subst e; exact Or.inr h3
          · exact Or.inl ⟨o, by omega, h2, h3⟩
      have dm : s / 2 ^ (g.f k % 8) % 2 = 0 ↔ ∀ j, k < j → j < g.m → g.f j % 8 ≠ g.f k % 8 := by
        constructor
        · intro q j h1 h2 h3
          have := (bit_dm s (g.f k % 8)).mp ((hsb _).mpr ⟨j, by omega, h2, h3⟩)
          omega
        · intro q
          have : ¬ s.testBit (g.f k % 8) = true := fun z => by
            obtain ⟨o, h1, h2, h3⟩ := (hsb _).mp z
            exact q o (by omega) h2 h3
          have t : ¬ s / 2 ^ (g.f k % 8) % 2 = 1 := fun z => this ((bit_dm _ _).mpr z)
          omega
      refine ⟨fun q => ?_, fun q => ⟨a + 2, hS.r6, a + 6, hS.r10, hS.s6, sp_Pl_upperAt (H.pl hS hb) (by omega) ⟨7, hS.s2, vp_in_nI (by omega) (by omega), fun v hv => ?_⟩⟩⟩
      · have s1 : ∀ i, s.testBit i = true ↔ ∃ o, k ≤ o ∧ o < g.m ∧ g.f o % 8 = i := by
          intro i
          rw [hsb]
          constructor
          · rintro ⟨o, h1, h2⟩
            exact ⟨o, by omega, h2⟩
          · rintro ⟨o, h1, h2, h3⟩
            by_cases e : o = k
            · subst e
              have hb1 : s.testBit (g.f o % 8) = true := (bit_dm _ _).mpr (by omega)
              obtain ⟨o', q1, q2, q3⟩ := (hsb _).mp hb1
              exact ⟨o', q1, q2, q3.trans h3⟩
            · exact ⟨o, by omega, h2, h3⟩
        refine ih s w (by omega) hs s1 ⟨hw.1, fun c => ?_⟩
        rw [hw.2]
        constructor
        · rintro ⟨gap, j, h1, h2⟩
          exact ⟨gap, j, by omega, h2⟩
        · rintro ⟨gap, j, h1, h2, h3⟩
          refine ⟨gap, j, ?_, h2, h3⟩
          by_cases e : j = k
          · subst e
            exfalso
            refine q (dm.mpr (fun j' g1 g2 g3 => ?_))
            obtain ⟨k', e1, e2⟩ := lt_in_ge (f := g.f) g.m j' g2 (g3.trans (lt_lt _ _ h2).2)
            rw [h2] at e1
            have : j = k' := Option.some.inj e1
            omega
          · omega
      · rw [nI_clamp (by omega), H.2.2.2.2.2.1 _ bu] at hv
        have hw128 : w < 128 := by have := hw.1; omega
        rw [or_w w hw128 _ (by omega)] at hv
        subst hv
        refine ih _ _ (by omega) (or_lt hs (by omega)) s2 ⟨Nat.or_lt_two_pow (n := 6) hw.1 (Nat.pow_lt_pow_right (by decide) (by omega)), fun c => ?_⟩
        rw [or_bit, hw.2]
        have lk := lt_in_of (f := g.f) (show k < g.m by omega) (dm.mp q)
        constructor
        · rintro (⟨gap, j, h1, h2⟩ | e)
          · exact ⟨gap, j, by omega, h2⟩
          · exact ⟨g.f k % 8, k, by omega, lk, e⟩
        · rintro ⟨gap, j, h1, h2, h3⟩
          by_cases e : j = k
          · subst e; exact Or.inr h3
          · exact Or.inl ⟨gap, j, by omega, h2, h3⟩
  refine key g.m 0 0 (Nat.le_refl _) (by omega) (fun i => ?_) ⟨by omega, fun c => ?_⟩
  · rw [Nat.zero_testBit]
    constructor
    · intro z; cases z
    · rintro ⟨o, h1, h2, -⟩
      omega
  · rw [Nat.zero_testBit]
    constructor
    · intro z; cases z
    · rintro ⟨gap, j, h1, h2, -⟩
      have := (lt_lt _ _ h2).1
      omega
theorem sp_Md_howManyShow {P : Int32 → aw_S → Prop} (hS : MdS sh S.2.2) (hb : bdG g) (H : MdG S.1 0 g) (h : ∀ w, clP g w 0 → P (nI (pcN w)) S) : Sp l m_Md_howManyShow (d + 1 + 1 + 1 + 1) 0 0 [.ref 114] sh S (gI sh P) := by
  have hm : g.m ≤ 40 := hb.2.2.2.2.1
  have hn : g.n ≤ 7 := hb.1
  have hgp := gp_le g.n
  refine e_Md_howManyShow hS.1 ?_
  have key : ∀ j k w, k + j = gpN g.n → w < 128 → (∀ c, w.testBit c = true ↔ ∃ gap, gap < k ∧ shN g gap = c) → AW l m_Md_howManyShow (d + 1 + 1 + 1 + 1) 0 0 (gI sh P) 0 0 4 [.ref 114, .int (nI w), .int (nI k)] [] sh S := by
    intro j
    induction j with
    | zero =>
      intro k w hk hw hc
      have hk : k = gpN g.n := hk
      subst hk
      refine s_Md_howManyShow_4 hS.1 (sp_Md_gapsOf (s := 0) hS (by omega) hn H.1 ⟨fun _ => ?_, fun q => absurd (nI_le (Nat.le_refl _) (by omega)) q⟩)
      have e : nI w &&& 63 = nI (w % 64) := pk_andN (by omega) 6 (by decide)
      rw [e]
      refine sp_Md_bits (by omega) (h _ ⟨by omega, fun c => ?_⟩)
      have e2 : (w % 64).testBit c = true ↔ c < 6 ∧ w.testBit c = true := by
        rw [show (64 : Nat) = 2 ^ 6 from rfl, Nat.testBit_mod_two_pow]
        simp
      rw [e2, hc]
      constructor
      · rintro ⟨h1, gap, h2, h3⟩
        unfold shN at h3
        cases hu : lt_in g.f gap g.m with
        | none =>
          rw [hu] at h3
          have h3 : 6 = c := h3
          omega
        | some k =>
          rw [hu] at h3
          exact ⟨gap, k, Nat.zero_le _, hu, h3⟩
      · rintro ⟨gap, k, h1, h2, h3⟩
        obtain ⟨q1, q2⟩ := lt_lt _ _ h2
        obtain ⟨-, b1, b2, -, -⟩ := hb.2.2.2.2.2.1 k q1
        have bc := hb.2.2.2.2.2.2.1 _ b2
        refine ⟨by omega, gap, by omega, ?_⟩
        unfold shN
        rw [h2]
        exact h3
    | succ j ih =>
      intro k w hk hw hc
      have h6 := sh_le hb k
      refine s_Md_howManyShow_4 hS.1 (sp_Md_gapsOf (s := 0) hS (by omega) hn H.1 ⟨fun q => absurd q (nI_ge (by omega) (by omega)), fun _ => sp_Md_showsOf hS hb H (by omega) ?_⟩)
      rw [or_w w hw _ (by omega), nI_1]
      refine ih (k + 1) _ (by omega) (or_lt hw (by omega)) (fun c => ?_)
      rw [or_bit, hc]
      constructor
      · rintro (⟨gap, h1, h2⟩ | e)
        · exact ⟨gap, by omega, h2⟩
        · exact ⟨k, by omega, e⟩
      · rintro ⟨gap, h1, h2⟩
        by_cases e : gap = k
        · subst e; exact Or.inr h2
        · exact Or.inl ⟨gap, by omega, h2⟩
  refine key (gpN g.n) 0 0 (by omega) (by omega) (fun c => ?_)
  rw [Nat.zero_testBit]
  constructor
  · intro z; cases z
  · rintro ⟨gap, h1, -⟩
    omega
theorem clP.eq {w w' : Nat} (h : clP g w 0) (h' : clP g w' 0) : w = w' := by
  apply Nat.eq_of_testBit_eq
  intro i
  have a1 := h.2 i
  rw [← h'.2 i] at a1
  cases e : w.testBit i <;> cases e' : w'.testBit i <;> simp_all
end FR
