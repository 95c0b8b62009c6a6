/-! what both begin with -/
theorem bI_w (b : Bool) : bI b = (if b = true then 1 else 0) := rfl
section AL2
variable {l : Launch} {d : Nat} {S : aw_S} {g : GM} {m : Nat} {f : Nat → Nat} {B : Nat → Bool} {gap : Nat}
theorem sp_lowP {P : Int32 → aw_S → Prop} (hR : RefsOk S.2.2) (hb : bdG g) (H : MdG S.1 0 g) (hg : gap < gpN g.n) (hB : ∀ k, k < g.m → S.1 130 k = bI (B k))
    (h1 : ∀ k, k < g.m → B k = true → g.f k % 8 = gap → (∀ i, i < k → B i = true → tchN g.n (g.f i % 8) gap = false) → P (nI k) S)
    (h0 : (∀ k, k < g.m → B k = true → g.f k % 8 = gap → ∃ i, i < k ∧ B i = true ∧ tchN g.n (g.f i % 8) gap = true) → P (-1) S) : Sp l m_Md_lowest (d + 1 + 1 + 1) 0 0 [.ref 114, .int 1, .int (nI gap)] sh0 S (gI sh0 P) := by
  have hn : g.n ≤ 7 := hb.1
  have hm : g.m ≤ 40 := hb.2.2.2.2.1
  have hgp := gp_le g.n
  have g2 := gp_2 hg
  have key : ∀ j k, k + j = g.m → (∀ i, i < k → B i = true → tchN g.n (g.f i % 8) gap = false) → AW l m_Md_lowest (d + 1 + 1 + 1) 0 0 (gI sh0 P) 0 0 21 [.ref 114, .int 1, .int (nI gap), .int (nI g.m), .int (nI k), .null, .null] [] sh0 S := by
    intro j
    induction j with
    | zero =>
      intro k hk hno
      have hk : k = g.m := hk
      subst hk
      refine s_Md_lowest_21 rfl ⟨fun _ => h0 (fun k hk hBk e => ?_), fun q => absurd (nI_le (Nat.le_refl _) (by omega)) q⟩
      have := hno k hk hBk
      rw [e, tch_self] at this
      exact absurd this (by decide)
    | succ j ih =>
      intro k hk hno
      have hfk := (hb.2.2.2.2.2.1 k (by omega)).2.1
      refine s_Md_lowest_21 rfl ⟨fun q => absurd q (nI_ge (by omega) (by omega)), fun _ => ⟨fun q => absurd q (by decide), fun _ => ⟨130, hR.at (by decide), 40, rfl, vp_in_nI (by omega) (by omega), fun q => absurd q (by decide), fun _ => ?_⟩⟩⟩
      refine sp_Md_passOf (w := 0) (MdS.mk0 hR) hb H (by omega) (by omega) ?_
      rw [nI_clamp (by omega), hB k (by omega), nI_1]
      show (bI (B k) = 0 → _) ∧ (¬ bI (B k) = 0 → (¬ nI (g.f k % 8) = nI gap → _) ∧ (nI (g.f k % 8) = nI gap → _))
      have nxt : (B k = true → tchN g.n (g.f k % 8) gap = false) → AW l m_Md_lowest (d + 1 + 1 + 1) 0 0 (gI sh0 P) 0 0 21 [.ref 114, .int 1, .int (nI gap), .int (nI g.m), .int (nI (k + 1)), .null, .null] [] sh0 S := fun hz => ih (k + 1) (by omega) (fun i hi hBi => by
        by_cases e : i = k
        · rw [e] at hBi ⊢; exact hz hBi
        · exact hno i (by omega) hBi)
      refine ⟨fun z => ⟨fun _ => nxt (fun y => by rw [(bI_0 _).mp z] at y; exact absurd y (by decide)), fun y => absurd z y⟩, fun z => ⟨fun e => ⟨fun y => absurd y z, fun _ => ?_⟩, fun e => ?_⟩⟩
      · have hBk := (bI_1 _).mp z
        refine sp_Md_isTouching (s := 0) (x := g.f k % 8) (MdS.mk0 hR) (by omega) hn g2 (by omega) (by omega) H.1 (fun c => ⟨fun y => absurd y (by decide), fun _ => h0 (fun k' hk' hBk' e' => ?_)⟩) (fun c => ⟨fun _ => nxt (fun _ => c), fun y => absurd rfl y⟩)
        refine ⟨k, ?_, hBk, c⟩
        by_cases c1 : k' < k
        · have := hno k' c1 hBk'
          rw [e', tch_self] at this
          exact absurd this (by decide)
        · by_cases c2 : k' = k
          · rw [c2] at e'
            exact absurd (by rw [e']) e
          · omega
      · have hBk := (bI_1 _).mp z
        exact h1 k (by omega) hBk ((nI_inj (by omega) (by omega)).mp e) hno
  refine e_Md_lowest rfl ⟨fun q => absurd q (by decide), fun _ => ⟨115, hR.at (by decide), 3864, rfl, vp_in_nI (n := 3) (by omega) (by omega), ?_⟩⟩
  have e3 : S.1 115 (3 : Int32).toNatClampNeg = nI g.m := H.2.2.2.1
  rw [e3]
  exact key g.m 0 (by omega) (fun i hi => absurd hi (Nat.not_lt_zero i))
theorem sp_lowD {P : Int32 → aw_S → Prop} (hR : RefsOk S.2.2) (hb : bdG g) (H : MdG S.1 0 g) (D : DaR S (gpN g.n) m f) (hg : gap < gpN g.n) (hB : ∀ k, k < m → S.1 131 k = bI (B k))
    (h1 : ∀ k, k < m → B k = true → f k % 8 = gap → (∀ i, i < k → B i = true → tchN g.n (f i % 8) gap = false) → P (nI k) S)
    (h0 : (∀ k, k < m → B k = true → f k % 8 = gap → ∃ i, i < k ∧ B i = true ∧ tchN g.n (f i % 8) gap = true) → P (-1) S) : Sp l m_Md_lowest (d + 1 + 1 + 1) 0 0 [.ref 114, .int 0, .int (nI gap)] sh0 S (gI sh0 P) := by
  have hn : g.n ≤ 7 := hb.1
  have hgp := gp_le g.n
  have g2 := gp_2 hg
  obtain ⟨D1, D2, D3⟩ := D
  have key : ∀ j k, k + j = m → (∀ i, i < k → B i = true → tchN g.n (f i % 8) gap = false) → AW l m_Md_lowest (d + 1 + 1 + 1) 0 0 (gI sh0 P) 0 0 21 [.ref 114, .int 0, .int (nI gap), .int (nI m), .int (nI k), .null, .null] [] sh0 S := by
    intro j
    induction j with
    | zero =>
      intro k hk hno
      have hk : k = m := hk
      subst hk
      refine s_Md_lowest_21 rfl ⟨fun _ => h0 (fun k hk hBk e => ?_), fun q => absurd (nI_le (Nat.le_refl _) (by omega)) q⟩
      have := hno k hk hBk
      rw [e, tch_self] at this
      exact absurd this (by decide)
    | succ j ih =>
      intro k hk hno
      obtain ⟨f1, f2, f3⟩ := D3 k (by omega)
      refine s_Md_lowest_21 rfl ⟨fun q => absurd q (nI_ge (by omega) (by omega)), fun _ => ⟨fun _ => ⟨131, hR.at (by decide), 40, rfl, vp_in_nI (by omega) (by omega), fun _ => ⟨128, hR.at (by decide), 40, rfl, vp_in_nI (by omega) (by omega), ?_⟩, fun q => absurd rfl q⟩, fun q => absurd rfl q⟩⟩
      rw [nI_clamp (by omega), hB k (by omega), f2, nI_1]
      have nxt : (B k = true → tchN g.n (f k % 8) gap = false) → AW l m_Md_lowest (d + 1 + 1 + 1) 0 0 (gI sh0 P) 0 0 21 [.ref 114, .int 0, .int (nI gap), .int (nI m), .int (nI (k + 1)), .null, .null] [] sh0 S := fun hz => ih (k + 1) (by omega) (fun i hi hBi => by
        by_cases e : i = k
        · rw [e] at hBi ⊢; exact hz hBi
        · exact hno i (by omega) hBi)
      refine ⟨fun z => ⟨fun _ => nxt (fun y => by rw [(bI_0 _).mp z] at y; exact absurd y (by decide)), fun y => absurd z y⟩, fun z => ⟨fun e => ⟨fun y => absurd y z, fun _ => ?_⟩, fun e => ?_⟩⟩
      · have hBk := (bI_1 _).mp z
        refine sp_Md_isTouching (s := 0) (MdS.mk0 hR) (by omega) hn g2 (by omega) (by omega) H.1 (fun c => ⟨fun y => absurd y (by decide), fun _ => h0 (fun k' hk' hBk' e' => ?_)⟩) (fun c => ⟨fun _ => nxt (fun _ => c), fun y => absurd rfl y⟩)
        refine ⟨k, ?_, hBk, c⟩
        by_cases c1 : k' < k
        · have := hno k' c1 hBk'
          rw [e', tch_self] at this
          exact absurd this (by decide)
        · by_cases c2 : k' = k
          · rw [c2] at e'
            exact absurd (by rw [e']) e
          · omega
      · have hBk := (bI_1 _).mp z
        exact h1 k (by omega) hBk ((nI_inj (by omega) (by omega)).mp e) hno
  refine e_Md_lowest rfl ⟨fun _ => ?_, fun q => absurd rfl q⟩
  rw [D1]
  exact key m 0 (by omega) (fun i hi => absurd hi (Nat.not_lt_zero i))
/-- how far the comparing has come -/
def AkI (S : aw_S) (g : GM) (m : Nat) (f : Nat → Nat) (B B' : Nat → Bool) (cnt : Nat) : Prop := (∀ k, k < g.m → S.1 130 k = bI (B k)) ∧ (∀ k, k < m → S.1 131 k = bI (B' k)) ∧ RdL (tcN g.n) ivN (rlB B' f m) ∧ vlN g.n (fun i => g.f i % 16) g.m f m B B' = vlN g.n (fun i => g.f i % 16) g.m f m allT allT ∧ (tlB B (fun i => g.f i % 16) 0 g.m).length + cnt = g.m ∧ (rlB B' f m).length + cnt = m
theorem rm_bI {B : Nat → Bool} {k i : Nat} {v w : Int32} (hv : v = bI (B i)) (hw : w = if i = k then 0 else v) : w = bI (rmB B k i) := by
  by_cases e : i = k
  · rw [if_pos e] at hw
    rw [hw, e, rmB_k]
    rfl
  · rw [if_neg e] at hw
    rw [hw, rmB_ne e, hv]
theorem sp_alike {P : Int32 → aw_S → Prop} (hR : RefsOk S.2.2) (hb : bdG g) (H : MdG S.1 0 g) (D : DaR S (gpN g.n) m f) (hrd : RdL (tcN g.n) ivN (rlB allT f m)) (h : ∀ U cnt, FrI (fun a _ => a = 130 ∨ a = 131) S U → cnt ≤ g.m → cnt ≤ m → vlN g.n (fun i => g.f i % 16) g.m f m allT allT = (g.m - cnt) + (m - cnt) → P (nI cnt) U) : Sp l m_Md_alike (d + 1 + 1 + 1 + 1) 0 0 [.ref 114] sh0 S (gI sh0 P) := by
  have hn : g.n ≤ 7 := hb.1
  have hm : g.m ≤ 40 := hb.2.2.2.2.1
  have hgp := gp_le g.n
  obtain ⟨D1, D2, D3⟩ := id D
  have MF : ∀ U, FrI (fun a _ => a = 130 ∨ a = 131) S U → MdG U.1 0 g := fun U F => H.fr hn hm (fun j _ => F.1 115 _ (by omega))
  have DF : ∀ U, FrI (fun a _ => a = 130 ∨ a = 131) S U → DaR U (gpN g.n) m f := fun U F => ⟨by rw [F.1 114 33 (by omega)]; exact D1, D2, fun k hk => by rw [F.1 128 k (by omega), F.1 129 k (by omega)]; exact D3 k hk⟩
  have key : ∀ R j gap U B B' cnt, (tlB B (fun i => g.f i % 16) 0 g.m).length ≤ R → gap + j = gpN g.n → FrI (fun a _ => a = 130 ∨ a = 131) S U → AkI U g m f B B' cnt → (∀ k k', LoB g.n (fun i => g.f i % 16) g.m B k → LoB g.n f m B' k' → g.f k % 8 < gap → g.f k % 16 ≠ f k') → AW l m_Md_alike (d + 1 + 1 + 1 + 1) 0 0 (gI sh0 P) 0 0 58 [.ref 114, .int (nI cnt), .int (nI gap), .null, .null] [] sh0 U := by
    intro R
    induction R with
    | zero =>
      intro j gap U B B' cnt hlen
      -- none is left of the plait: nothing is alike any more
      induction j generalizing gap with
      | zero =>
        intro hgap F A hno
        have hgap : gap = gpN g.n := hgap
        subst hgap
        have hRU : RefsOk U.2.2 := by rw [F.R]; exact hR
        obtain ⟨a1, a2, a3, a4, a5, a6⟩ := A
        refine s_Md_alike_58 rfl (sp_Md_gapsOf (s := 0) (MdS.mk0 hRU) (by omega) hn (MF U F).1 ⟨fun _ => h U cnt F (by omega) (by omega) ?_, fun q => absurd (nI_le (Nat.le_refl _) (by omega)) q⟩)
        rw [← a4, vl_end a3 (fun k k' hk hk' => hno k k' hk hk' (hb.2.2.2.2.2.1 k hk.1).2.1)]
        omega
      | succ j ih =>
        intro hgap F A hno
        have hRU : RefsOk U.2.2 := by rw [F.R]; exact hR
        obtain ⟨a1, a2, a3, a4, a5, a6⟩ := id A
        have nB : ∀ k, k < g.m → B k = true → False := fun k hk hBk => by
          have := ln_rm (p := fun i => g.f i % 16) hk hBk
          omega
        have skip := ih (gap + 1) (by omega) F A (fun k k' hk _ _ => absurd hk.2.1 (fun z => nB k hk.1 z))
        refine s_Md_alike_58 rfl (sp_Md_gapsOf (s := 0) (MdS.mk0 hRU) (by omega) hn (MF U F).1 ⟨fun q => absurd q (nI_ge (by omega) (by omega)), fun _ => ?_⟩)
        rw [nI_1]
        refine sp_lowP (B := B) hRU hb (MF U F) (by omega) a1 (fun k hk hBk _ _ => absurd hBk (fun z => nB k hk z)) (fun _ => ?_)
        refine sp_lowD (B := B') hRU hb (MF U F) (DF U F) (by omega) a2 (fun k' _ _ _ _ => ⟨fun _ => skip, fun q => absurd rfl q⟩) (fun _ => ⟨fun _ => skip, fun q => absurd rfl q⟩)
    | succ R ihR =>
      intro j gap U B B' cnt hlen
      induction j generalizing gap with
      | zero =>
        intro hgap F A hno
        have hgap : gap = gpN g.n := hgap
        subst hgap
        have hRU : RefsOk U.2.2 := by rw [F.R]; exact hR
        obtain ⟨a1, a2, a3, a4, a5, a6⟩ := A
        refine s_Md_alike_58 rfl (sp_Md_gapsOf (s := 0) (MdS.mk0 hRU) (by omega) hn (MF U F).1 ⟨fun _ => h U cnt F (by omega) (by omega) ?_, fun q => absurd (nI_le (Nat.le_refl _) (by omega)) q⟩)
        rw [← a4, vl_end a3 (fun k k' hk hk' => hno k k' hk hk' (hb.2.2.2.2.2.1 k hk.1).2.1)]
        omega
      | succ j ih =>
        intro hgap F A hno
        have hRU : RefsOk U.2.2 := by rw [F.R]; exact hR
        obtain ⟨a1, a2, a3, a4, a5, a6⟩ := id A
        have DU := DF U F
        -- on to the next gap
        have skip : (∀ k k', LoB g.n (fun i => g.f i % 16) g.m B k → LoB g.n f m B' k' → g.f k % 8 = gap → g.f k % 16 ≠ f k') → AW l m_Md_alike (d + 1 + 1 + 1 + 1) 0 0 (gI sh0 P) 0 0 58 [.ref 114, .int (nI cnt), .int (nI (gap + 1)), .null, .null] [] sh0 U := fun hz => ih (gap + 1) (by omega) F A (fun k k' hk hk' q => by
          by_cases e : g.f k % 8 = gap
          · exact hz k k' hk hk' e
          · exact hno k k' hk hk' (by omega))
        have uniqP : ∀ k k2, LoB g.n (fun i => g.f i % 16) g.m B k → LoB g.n (fun i => g.f i % 16) g.m B k2 → g.f k % 8 = g.f k2 % 8 → k = k2 := fun k k2 hk hk2 e => by
          by_cases c1 : k < k2
          · have := hk2.2.2 k c1 hk.2.1
            have this : tchN g.n (g.f k % 16 % 8) (g.f k2 % 16 % 8) = false := this
            rw [show g.f k % 16 % 8 = g.f k % 8 by omega, show g.f k2 % 16 % 8 = g.f k2 % 8 by omega, e, tch_self] at this
            exact absurd this (by decide)
          · by_cases c2 : k2 < k
            · have := hk.2.2 k2 c2 hk2.2.1
              have this : tchN g.n (g.f k2 % 16 % 8) (g.f k % 16 % 8) = false := this
              rw [show g.f k % 16 % 8 = g.f k % 8 by omega, show g.f k2 % 16 % 8 = g.f k2 % 8 by omega, e, tch_self] at this
              exact absurd this (by decide)
            · omega
        have uniqD : ∀ k k2, LoB g.n f m B' k → LoB g.n f m B' k2 → f k % 8 = f k2 % 8 → k = k2 := fun k k2 hk hk2 e => by
          by_cases c1 : k < k2
          · have := hk2.2.2 k c1 hk.2.1
            have this : tchN g.n (f k % 8) (f k2 % 8) = false := this
            rw [e, tch_self] at this
            exact absurd this (by decide)
          · by_cases c2 : k2 < k
            · have := hk.2.2 k2 c2 hk2.2.1
              have this : tchN g.n (f k2 % 8) (f k % 8) = false := this
              rw [e, tch_self] at this
              exact absurd this (by decide)
            · omega
        refine s_Md_alike_58 rfl (sp_Md_gapsOf (s := 0) (MdS.mk0 hRU) (by omega) hn (MF U F).1 ⟨fun q => absurd q (nI_ge (by omega) (by omega)), fun _ => ?_⟩)
        rw [nI_1]
        refine sp_lowP (B := B) hRU hb (MF U F) (by omega) a1 (fun k hk hBk ek hlk => ?_) (fun hnone => ?_)
        · have LP : LoB g.n (fun i => g.f i % 16) g.m B k := ⟨hk, hBk, fun i hi hBi => by
            show tchN g.n (g.f i % 16 % 8) (g.f k % 16 % 8) = false
            rw [show g.f i % 16 % 8 = g.f i % 8 by omega, show g.f k % 16 % 8 = g.f k % 8 by omega, ek]
            exact hlk i hi hBi⟩
          refine sp_lowD (B := B') hRU hb (MF U F) DU (by omega) a2 (fun k' hk' hBk' ek' hlk' => ?_) (fun hnone => ?_)
          · have LD : LoB g.n f m B' k' := ⟨hk', hBk', fun i hi hBi => by
              show tchN g.n (f i % 8) (f k' % 8) = false
              rw [ek']
              exact hlk' i hi hBi⟩
            refine ⟨fun q => absurd q (nI_ne_m1 (by omega)), fun _ => ⟨fun q => absurd q (nI_ne_m1 (by omega)), fun _ => ?_⟩⟩
            refine sp_Md_passOf (w := 1) (MdS.mk0 hRU) hb (MF U F) hk (by omega) ⟨129, hRU.at (by decide), 40, rfl, vp_in_nI (by omega) (by omega), ?_⟩
            obtain ⟨f1, f2, f3⟩ := DU.2.2 k' hk'
            rw [nI_clamp (by omega), nI_clamp (by omega), f3, nI_1]
            show (nI (g.f k / 8 % 2) = nI (f k' / 8) → _) ∧ (¬ nI (g.f k / 8 % 2) = nI (f k' / 8) → _)
            refine ⟨fun q => ⟨130, hRU.at (by decide), 40, rfl, vp_in_nI (by omega) (by omega), 131, hRU.at (by decide), 40, rfl, vp_in_nI (by omega) (by omega), ?_⟩, fun q => skip (fun k2 k2' h2 h2' e2 e3 => ?_)⟩
            · have eo : g.f k / 8 % 2 = f k' / 8 := (nI_inj (by omega) (by omega)).mp q
              have el : g.f k % 16 = f k' := by omega
              rw [nar_0]
              have l1 := ln_rm (p := fun i => g.f i % 16) hk hBk
              have l2 := lr_rm (f := f) hk' hBk'
              refine ihR (gpN g.n) 0 _ (rmB B k) (rmB B' k') (cnt + 1) (by omega) (by omega) ((F.uI _ (Or.inl rfl)).uI _ (Or.inr rfl)) ⟨fun i hi => ?_, fun i hi => ?_, rd_rm LD a3, ?_, by omega, by omega⟩ (fun _ _ _ _ q => absurd q (Nat.not_lt_zero _))
              · rw [uI_ne _ _ _ (by omega), uI_at, if_pos rfl]
                exact rm_bI (a1 i hi) rfl
              · rw [uI_at, if_pos rfl, uI_ne _ _ _ (by omega)]
                exact rm_bI (a2 i hi) rfl
              · rw [vl_step LP LD el]
                exact a4
            · have e4 : k2 = k := uniqP k2 k h2 LP (by omega)
              subst e4
              have e5 : k2' = k' := uniqD k2' k' h2' LD (by omega)
              subst e5
              exact q (by rw [show g.f k2 / 8 % 2 = f k2' / 8 by omega])
          · refine ⟨fun _ => skip (fun k2 k2' h2 h2' e2 e3 => ?_), fun _ => ⟨fun _ => skip (fun k2 k2' h2 h2' e2 e3 => ?_), fun q => absurd rfl q⟩⟩
            · obtain ⟨i, i1, i2, i3⟩ := hnone k2' h2'.1 h2'.2.1 (by omega)
              have := h2'.2.2 i i1 i2
              have this : tchN g.n (f i % 8) (f k2' % 8) = false := this
              rw [show f k2' % 8 = gap by omega, i3] at this
              exact absurd this (by decide)
            · obtain ⟨i, i1, i2, i3⟩ := hnone k2' h2'.1 h2'.2.1 (by omega)
              have := h2'.2.2 i i1 i2
              have this : tchN g.n (f i % 8) (f k2' % 8) = false := this
              rw [show f k2' % 8 = gap by omega, i3] at this
              exact absurd this (by decide)
        · have sk := skip (fun k2 k2' h2 h2' e2 e3 => by
            obtain ⟨i, i1, i2, i3⟩ := hnone k2 h2.1 h2.2.1 e2
            have := h2.2.2 i i1 i2
            have this : tchN g.n (g.f i % 16 % 8) (g.f k2 % 16 % 8) = false := this
            rw [show g.f i % 16 % 8 = g.f i % 8 by omega, show g.f k2 % 16 % 8 = gap by omega, i3] at this
            exact absurd this (by decide))
          refine sp_lowD (B := B') hRU hb (MF U F) DU (by omega) a2 (fun k' _ _ _ _ => ⟨fun _ => sk, fun q => absurd rfl q⟩) (fun _ => ⟨fun _ => sk, fun q => absurd rfl q⟩)
  have key0 : ∀ j k U, k + j = 40 → FrI (fun a _ => a = 130 ∨ a = 131) S U → (∀ i, i < k → i < g.m → U.1 130 i = 1) → (∀ i, i < k → i < m → U.1 131 i = 1) → AW l m_Md_alike (d + 1 + 1 + 1 + 1) 0 0 (gI sh0 P) 0 0 2 [.ref 114, .int (nI k), .null, .null, .null] [] sh0 U := by
    intro j
    induction j with
    | zero =>
      intro k U hk F u1 u2
      have hk : k = 40 := hk
      subst hk
      refine s_Md_alike_2 rfl ⟨fun _ => ?_, fun q => absurd (by decide) q⟩
      exact key _ (gpN g.n) 0 U allT allT 0 (Nat.le_refl _) (by omega) F ⟨fun i hi => u1 i (by omega) hi, fun i hi => u2 i (by omega) hi, hrd, rfl, by rw [tl_len]; rfl, by rw [rl_len]; rfl⟩ (fun _ _ _ _ q => absurd q (Nat.not_lt_zero _))
    | succ j ih =>
      intro k U hk F u1 u2
      have hRU : RefsOk U.2.2 := by rw [F.R]; exact hR
      have e3 : U.1 115 (3 : Int32).toNatClampNeg = nI g.m := (MF U F).2.2.2.1
      have step : ∀ v w : Int32, (k < g.m → v = 1) → (k < m → w = 1) → AW l m_Md_alike (d + 1 + 1 + 1 + 1) 0 0 (gI sh0 P) 0 0 2 [.ref 114, .int (nI (k + 1)), .null, .null, .null] [] sh0 (aw_uI (aw_uI U 130 k v) 131 k w) := fun v w hv hw => by
        refine ih (k + 1) _ (by omega) ((F.uI _ (Or.inl rfl)).uI _ (Or.inr rfl)) (fun i hi him => ?_) (fun i hi him => ?_)
        · rw [uI_ne _ _ _ (by omega), uI_at, if_pos rfl]
          by_cases e : i = k
          · rw [if_pos e]; exact hv (by omega)
          · rw [if_neg e]; exact u1 i (by omega) him
        · rw [uI_at, if_pos rfl]
          by_cases e : i = k
          · rw [if_pos e]; exact hw (by omega)
          · rw [if_neg e, uI_ne _ _ _ (by omega)]; exact u2 i (by omega) him
      refine s_Md_alike_2 rfl ⟨fun q => absurd ((nI_leI (a := 40) (by omega) (by omega)).mp q) (by omega), fun _ => ⟨130, hRU.at (by decide), 115, hRU.at (by decide), 3864, rfl, vp_in_nI (n := 3) (by omega) (by omega), ?_⟩⟩
      rw [e3, nI_clamp (by omega), nI_1, nar_0, nar_1]
      have e33 : ∀ v, (aw_uI U 130 k v).1 114 33 = nI m := fun v => by rw [uI_ne _ _ _ (by omega), F.1 114 33 (by omega)]; exact D1
      rw [e33, e33]
      refine ⟨fun q => ⟨40, rfl, vp_in_nI (by omega) (by omega), 131, hRU.at (by decide), fun q2 => ⟨40, rfl, vp_in_nI (by omega) (by omega), step 0 0 (fun z => absurd ((nI_leI (by omega) (by omega)).mp q) (by omega)) (fun z => absurd ((nI_leI (by omega) (by omega)).mp q2) (by omega))⟩, fun q2 => ⟨40, rfl, vp_in_nI (by omega) (by omega), step 0 1 (fun z => absurd ((nI_leI (by omega) (by omega)).mp q) (by omega)) (fun _ => rfl)⟩⟩, fun q => ⟨40, rfl, vp_in_nI (by omega) (by omega), 131, hRU.at (by decide), fun q2 => ⟨40, rfl, vp_in_nI (by omega) (by omega), step 1 0 (fun _ => rfl) (fun z => absurd ((nI_leI (by omega) (by omega)).mp q2) (by omega))⟩, fun q2 => ⟨40, rfl, vp_in_nI (by omega) (by omega), step 1 1 (fun _ => rfl) (fun _ => rfl)⟩⟩⟩
  exact e_Md_alike rfl (key0 40 0 S (by omega) (FrI.refl _ _) (fun i hi => absurd hi (Nat.not_lt_zero i)) (fun i hi => absurd hi (Nat.not_lt_zero i)))
end AL2
