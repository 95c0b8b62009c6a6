/-! how far apart: the reference -/
def DaR (S : aw_S) (gp m : Nat) (f : Nat → Nat) : Prop := S.1 114 33 = nI m ∧ m ≤ 40 ∧ ∀ k, k < m → (f k < 16 ∧ f k % 8 < gp) ∧ S.1 128 k = nI (f k % 8) ∧ S.1 129 k = nI (f k / 8)
def DaX (k j : Nat) : Prop := (k = 114 ∧ j = 33) ∨ k = 128 ∨ k = 129
section DA
variable {l : Launch} {d : Nat} {S : aw_S} {g : GM} {m : Nat} {f : Nat → Nat}
theorem sp_addsDance {P : aw_S → Prop} {x : Nat} (hR : RefsOk S.2.2) (hb : bdG g) (H : MdG S.1 0 g) (D : DaR S (gpN g.n) m f) (hm40 : m < 40) (hx : x < 16) (hg : x % 8 < gpN g.n) (h : ∀ U m' f', FrI DaX S U → DaR U (gpN g.n) m' f' → m' ≤ m + 1 → rlB allT f' m' = ap (tcN g.n) ivN (rlB allT f m) x → P U) : Sp l m_Md_addsDance (d + 1 + 1) 0 0 [.ref 114, .int (nI (x % 8)), .int (nI (x / 8))] sh0 S (gV sh0 P) := by
  have hn : g.n ≤ 7 := hb.1
  have hgp := gp_le g.n
  have g2 := gp_2 hg
  obtain ⟨D1, D2, D3⟩ := id D
  have ht : tchN g.n (x % 8) (x % 8) = true := tch_self _ _
  obtain ⟨w1, w2⟩ := ub_rd (n := g.n) (f := f) hx m (fun k hk => (D3 k hk).1.1)
  -- the pass is laid behind
  have put : ub f (tchN g.n (x % 8)) (x % 8) (x / 8) m = none → ∃ r3, S.2.2 114 31 = some r3 ∧ ∃ n5, sh0[r3]? = some (3, n5) ∧ vp_in (S.1 114 33) n5 ∧ ∃ r7, (aw_uI S r3 ((S.1 114 33 : Int32).toNatClampNeg) (nI (x % 8))).2.2 114 32 = some r7 ∧ ∃ n9, sh0[r7]? = some (3, n9) ∧ vp_in ((aw_uI S r3 ((S.1 114 33 : Int32).toNatClampNeg) (nI (x % 8))).1 114 33) n9 ∧ P (aw_uI (aw_uI (aw_uI S r3 ((S.1 114 33 : Int32).toNatClampNeg) (nI (x % 8))) r7 (((aw_uI S r3 ((S.1 114 33 : Int32).toNatClampNeg) (nI (x % 8))).1 114 33 : Int32).toNatClampNeg) (nI (x / 8))) 114 33 (((aw_uI (aw_uI S r3 ((S.1 114 33 : Int32).toNatClampNeg) (nI (x % 8))) r7 (((aw_uI S r3 ((S.1 114 33 : Int32).toNatClampNeg) (nI (x % 8))).1 114 33 : Int32).toNatClampNeg) (nI (x / 8))).1 114 33) + (1 : Int32))) := by
    intro hu
    refine ⟨128, hR.at (by decide), 40, rfl, ?_⟩
    rw [D1, nI_clamp (by omega)]
    refine ⟨vp_in_nI (by omega) (by omega), 129, hR.at (by decide), 40, rfl, ?_⟩
    rw [uI_ne _ _ _ (by omega), D1, nI_clamp (by omega), uI_ne _ _ _ (by omega), uI_ne _ _ _ (by omega), D1, nI_1]
    refine ⟨vp_in_nI (by omega) (by omega), h _ (m + 1) (insF f m x) ((((FrI.refl _ _).uI _ (Or.inr (Or.inl rfl))).uI _ (Or.inr (Or.inr rfl))).uI _ (Or.inl ⟨rfl, rfl⟩)) ⟨?_, by omega, fun k hk => ?_⟩ (Nat.le_refl _) ?_⟩
    · rw [uI_at, if_pos rfl, if_pos rfl]
    · have e8 : (aw_uI (aw_uI (aw_uI S 128 m (nI (x % 8))) 129 m (nI (x / 8))) 114 33 (nI (m + 1))).1 128 k = if k = m then nI (x % 8) else S.1 128 k := by
        rw [uI_ne _ _ _ (by omega), uI_ne _ _ _ (by omega), uI_at, if_pos rfl]
      have e9 : (aw_uI (aw_uI (aw_uI S 128 m (nI (x % 8))) 129 m (nI (x / 8))) 114 33 (nI (m + 1))).1 129 k = if k = m then nI (x / 8) else S.1 129 k := by
        rw [uI_ne _ _ _ (by omega), uI_at, if_pos rfl, uI_ne _ _ _ (by omega)]
      rw [e8, e9]
      by_cases e : k = m
      · rw [if_pos e, if_pos e, e, insF_k]
        exact ⟨⟨hx, hg⟩, rfl, rfl⟩
      · rw [if_neg e, if_neg e, show insF f m x k = f k by unfold insF; rw [if_pos (by omega)]]
        exact D3 k (by omega)
    · rw [rl_ins, ap_n (w2 hu)]
  have app61 : ub f (tchN g.n (x % 8)) (x % 8) (x / 8) m = none → ∀ i3 i5 : Int32, AW l m_Md_addsDance (d + 1 + 1) 0 0 (gV sh0 P) 0 0 61 [.ref 114, .int (nI (x % 8)), .int (nI (x / 8)), .int i3, .int 0, .int i5] [] sh0 S := fun hu i3 i5 => s_Md_addsDance_61 rfl ⟨fun _ => ⟨fun q => absurd rfl q, fun _ => put hu⟩, fun _ => ⟨fun _ => ⟨fun q => absurd rfl q, fun _ => put hu⟩, fun q => absurd rfl q⟩⟩
  -- a pass is gone
  have cut : ∀ k, ub f (tchN g.n (x % 8)) (x % 8) (x / 8) m = some k → AW l m_Md_addsDance (d + 1 + 1) 0 0 (gV sh0 P) 0 0 153 [.ref 114, .null, .null, .null, .null, .int (nI k)] [] sh0 (aw_uI S 114 33 (nI (m - 1))) := by
    intro k hu
    have hk := (ub_lt hu).1
    have key : ∀ j q U, q + j = m - 1 → k ≤ q → FrI DaX S U → U.1 114 33 = nI (m - 1) → (∀ i, i < q → U.1 128 i = nI (remF f k i % 8) ∧ U.1 129 i = nI (remF f k i / 8)) → (∀ i, q ≤ i → U.1 128 i = S.1 128 i ∧ U.1 129 i = S.1 129 i) → AW l m_Md_addsDance (d + 1 + 1) 0 0 (gV sh0 P) 0 0 153 [.ref 114, .null, .null, .null, .null, .int (nI q)] [] sh0 U := by
      intro j
      induction j with
      | zero =>
        intro q U hq hkq F u1 u2 u3
        have hq : q = m - 1 := hq
        refine s_Md_addsDance_153 rfl ?_
        rw [u1]
        refine ⟨fun _ => h U (m - 1) (remF f k) F ⟨u1, by omega, fun i hi => ⟨?_, u2 i (by omega)⟩⟩ (by omega) ?_, fun z => absurd (nI_le (by omega) (by omega)) z⟩
        · unfold remF
          split
          · exact (D3 i (by omega)).1
          · exact (D3 (i + 1) (by omega)).1
        · rw [ap_s (w1 k hu)]
      | succ j ih =>
        intro q U hq hkq F u1 u2 u3
        have hRU : RefsOk U.2.2 := by rw [F.R]; exact hR
        refine s_Md_addsDance_153 rfl ?_
        rw [u1]
        refine ⟨fun z => absurd z (nI_ge (by omega) (by omega)), fun _ => ⟨128, hRU.at (by decide), 40, rfl, ?_⟩⟩
        rw [nI_1, nI_clamp (by omega), nI_clamp (by omega)]
        refine ⟨vp_in_nI (by omega) (by omega), vp_in_nI (by omega) (by omega), 129, hRU.at (by decide), 40, rfl, vp_in_nI (by omega) (by omega), vp_in_nI (by omega) (by omega), ?_⟩
        have er : remF f k q = f (q + 1) := by unfold remF; rw [if_neg (by omega)]
        refine ih (q + 1) _ (by omega) (by omega) ((F.uI _ (Or.inr (Or.inl rfl))).uI _ (Or.inr (Or.inr rfl))) ?_ (fun i hi => ?_) (fun i hi => ?_)
        · rw [uI_ne _ _ _ (by omega), uI_ne _ _ _ (by omega)]; exact u1
        · rw [uI_ne _ _ _ (by omega), uI_at, if_pos rfl, uI_at, if_pos rfl]
          by_cases e : i = q
          · rw [if_pos e, if_pos e, uI_ne _ _ _ (by omega), e, er, (u3 (q + 1) (by omega)).1, (u3 (q + 1) (by omega)).2]
            exact (D3 (q + 1) (by omega)).2
          · rw [if_neg e, if_neg e, uI_ne _ _ _ (by omega)]
            exact u2 i (by omega)
        · rw [uI_ne _ _ _ (by omega), uI_at, if_pos rfl, uI_at, if_pos rfl, if_neg (by omega), if_neg (by omega), uI_ne _ _ _ (by omega)]
          exact u3 i (by omega)
    refine key (m - 1 - k) k _ (by omega) (Nat.le_refl _) ((FrI.refl _ _).uI _ (Or.inl ⟨rfl, rfl⟩)) (by rw [uI_at, if_pos rfl, if_pos rfl]) (fun i hi => ?_) (fun i hi => ?_)
    · rw [uI_ne _ _ _ (by omega), uI_ne _ _ _ (by omega), show remF f k i = f i by unfold remF; rw [if_pos hi]]
      exact (D3 i (by omega)).2
    · rw [uI_ne _ _ _ (by omega), uI_ne _ _ _ (by omega)]
      exact ⟨rfl, rfl⟩
  have key61 : ∀ k, lt_in f (x % 8) m = some k → f k / 8 % 2 ≠ x / 8 → ∀ j q, q + j = m → k < q → (∀ o, k < o → o < q → tchN g.n (x % 8) (f o % 8) = false) → AW l m_Md_addsDance (d + 1 + 1) 0 0 (gV sh0 P) 0 0 61 [.ref 114, .int (nI (x % 8)), .int (nI (x / 8)), .int (nI k), .int 1, .int (nI q)] [] sh0 S := by
    intro k hlt hov j
    induction j with
    | zero =>
      intro q hq hkq hno
      have hq : q = m := hq
      subst hq
      have hu := ((ub_iff (f := f) (over := x / 8) ht k) q).mpr ⟨hlt, hov, hno⟩
      refine s_Md_addsDance_61 rfl ?_
      rw [D1]
      refine ⟨fun _ => ⟨fun _ => ?_, fun z => absurd z (by decide)⟩, fun z => absurd (nI_le (Nat.le_refl _) (by omega)) z⟩
      rw [show nI q - 1 = nI (q - 1) by rw [show (1 : Int32) = nI 1 from rfl, nI_sub (by omega)]]
      exact cut k hu
    | succ j ih =>
      intro q hq hkq hno
      refine s_Md_addsDance_61 rfl ?_
      rw [D1]
      refine ⟨fun z => absurd z (nI_ge (by omega) (by omega)), fun _ => ⟨fun z => absurd z (by decide), fun _ => ⟨128, hR.at (by decide), 40, rfl, vp_in_nI (by omega) (by omega), ?_⟩⟩⟩
      obtain ⟨f1, f2, f3⟩ := D3 q (by omega)
      rw [nI_clamp (by omega), f2, nI_1]
      refine sp_Md_isTouching (s := 0) (MdS.mk0 hR) (by omega) hn g2 (by omega) (by omega) H.1 (fun c => ⟨fun _ => app61 ?_ _ _, fun z => absurd z (by decide)⟩) (fun c => ⟨fun z => absurd rfl z, fun _ => ih (q + 1) (by omega) (by omega) (fun o h1 h2 => ?_)⟩)
      · refine ub_no ht (fun k' hk' _ hz => ?_)
        have ek : k' = k := Option.some.inj (hk'.symm.trans hlt)
        have := hz q (by omega) (by omega)
        rw [tch_sym, c] at this
        exact absurd this (by decide)
      · by_cases e : o = q
        · rw [e, tch_sym]; exact c
        · exact hno o h1 (by omega)
  have key5 : ∀ j k, k + j = m → AW l m_Md_addsDance (d + 1 + 1) 0 0 (gV sh0 P) 0 0 5 [.ref 114, .int (nI (x % 8)), .int (nI (x / 8)), .int (oI (lt_in f (x % 8) k)), .int (nI k), .null] [] sh0 S := by
    intro j
    induction j with
    | zero =>
      intro k hk
      have hk : k = m := hk
      subst hk
      refine s_Md_addsDance_5 rfl ?_
      rw [D1]
      refine ⟨fun _ => ?_, fun z => absurd (nI_le (Nat.le_refl _) (by omega)) z⟩
      cases hl : lt_in f (x % 8) k with
      | none => exact ⟨fun _ => app61 (ub_no ht (fun k' hk' _ _ => by rw [hl] at hk'; exact absurd hk' (by simp))) _ _, fun z => absurd rfl z⟩
      | some q =>
        have hq := (lt_lt k q hl).1
        obtain ⟨f1, f2, f3⟩ := D3 q hq
        refine ⟨fun z => absurd z (nI_ne_m1 (by omega)), fun _ => ⟨129, hR.at (by decide), 40, rfl, vp_in_nI (by omega) (by omega), ?_⟩⟩
        show (S.1 129 (nI q : Int32).toNatClampNeg = _ → AW l m_Md_addsDance (d + 1 + 1) 0 0 (gV sh0 P) 0 0 61 [.ref 114, .int (nI (x % 8)), .int (nI (x / 8)), .int (nI q), .int 0, .int (nI q + 1)] [] sh0 S) ∧ (¬ S.1 129 (nI q : Int32).toNatClampNeg = _ → AW l m_Md_addsDance (d + 1 + 1) 0 0 (gV sh0 P) 0 0 61 [.ref 114, .int (nI (x % 8)), .int (nI (x / 8)), .int (nI q), .int 1, .int (nI q + 1)] [] sh0 S)
        rw [nI_clamp (by omega), f3]
        refine ⟨fun z => app61 ?_ _ _, fun z => ?_⟩
        · have e : f q / 8 = x / 8 := (nI_inj (by omega) (by omega)).mp z
          refine ub_no ht (fun k' hk' ho _ => ?_)
          have ek : k' = q := Option.some.inj (hk'.symm.trans hl)
          rw [ek] at ho
          omega
        · have e : f q / 8 ≠ x / 8 := fun y => z (by rw [y])
          rw [nI_1]
          exact key61 q hl (by omega) (k - (q + 1)) (q + 1) (by omega) (by omega) (fun o h1 h2 => by omega)
    | succ j ih =>
      intro k hk
      obtain ⟨f1, f2, f3⟩ := D3 k (by omega)
      have e := ih (k + 1) (by omega)
      refine s_Md_addsDance_5 rfl ?_
      rw [D1]
      refine ⟨fun z => absurd z (nI_ge (by omega) (by omega)), fun _ => ⟨128, hR.at (by decide), 40, rfl, vp_in_nI (by omega) (by omega), ?_⟩⟩
      rw [nI_clamp (by omega), f2, nI_1]
      refine ⟨fun z => ?_, fun z => ?_⟩
      · have e2 : lt_in f (x % 8) (k + 1) = lt_in f (x % 8) k := by
          conv => lhs; unfold lt_in
          rw [if_neg (fun y => z (by rw [y]))]
        rw [e2] at e
        exact e
      · have e2 : lt_in f (x % 8) (k + 1) = some k := by
          conv => lhs; unfold lt_in
          rw [if_pos ((nI_inj (by omega) (by omega)).mp z)]
        rw [e2] at e
        exact e
  exact e_Md_addsDance rfl (key5 m 0 (by omega))
theorem sp_laysDance {P : aw_S → Prop} {t n : Nat} {c : Nat → Nat} {fl : Int32} (hR : RefsOk S.2.2) (hb : bdG g) (H : MdG S.1 0 g) (ht : t < 4) (hn40 : n ≤ 40) (hc : ∀ i, i < n → c i < 2 * gpN g.n) (hV : ∀ i, i < n → S.2.1 119 (60 * t + i) = lN (c i)) (h : ∀ U m' f', FrI DaX S U → DaR U (gpN g.n) m' f' → rlB allT f' m' = wdF g.n [] (dlF c fl) n → P U) : Sp l m_Md_laysDance (d + 1 + 1 + 1) 0 0 [.ref 114, .int (nI t), .int (nI n), .int fl] sh0 S (gV sh0 P) := by
  have hn : g.n ≤ 7 := hb.1
  have hm : g.m ≤ 40 := hb.2.2.2.2.1
  have hgp := gp_le g.n
  have key : ∀ j i U m' f', i + j = n → FrI DaX S U → DaR U (gpN g.n) m' f' → m' ≤ i → rlB allT f' m' = wdF g.n [] (dlF c fl) i → AW l m_Md_laysDance (d + 1 + 1 + 1) 0 0 (gV sh0 P) 0 0 8 [.ref 114, .int (nI t), .int (nI n), .int fl, .int (nI i), .null] [] sh0 U := by
    intro j
    induction j with
    | zero =>
      intro i U m' f' hi F D hl e
      have hi : i = n := hi
      subst hi
      exact s_Md_laysDance_8 rfl ⟨fun _ => h U m' f' F D e, fun q => absurd (nI_le (Nat.le_refl _) (by omega)) q⟩
    | succ j ih =>
      intro i U m' f' hi F D hl e
      have hRU : RefsOk U.2.2 := by rw [F.R]; exact hR
      have MU : MdG U.1 0 g := H.fr hn hm (fun j _ => F.1 115 _ (by unfold DaX; omega))
      have hci := hc i (by omega)
      obtain ⟨d1, d2, d3⟩ := dl_p (fl := fl) hci (by omega)
      have one : ∀ o : Nat, dlF c fl i / 8 = o → Sp l m_Md_addsDance (d + 1 + 1) 0 0 [.ref 114, .int (nI (c i / 2)), .int (nI o)] sh0 U (gV sh0 (fun S8 => AW l m_Md_laysDance (d + 1 + 1 + 1) 0 0 (gV sh0 P) 0 0 8 [.ref 114, .int (nI t), .int (nI n), .int fl, .int (nI i + 1), .null] [] sh0 S8)) := by
        intro o eo
        have key2 := sp_addsDance (l := l) (d := d) (x := dlF c fl i) (P := fun S8 => AW l m_Md_laysDance (d + 1 + 1 + 1) 0 0 (gV sh0 P) 0 0 8 [.ref 114, .int (nI t), .int (nI n), .int fl, .int (nI i + 1), .null] [] sh0 S8) hRU hb MU D (by omega) d1 (by omega) (fun V m2 f2 FV DV hl2 e2 => by
          rw [nI_1]
          exact ih (i + 1) V m2 f2 (by omega) (F.trans FV) DV (by omega) (by rw [e2, e]; rfl))
        rw [d2, eo] at key2
        exact key2
      refine s_Md_laysDance_8 rfl ⟨fun q => absurd q (nI_ge (by omega) (by omega)), fun _ => ⟨119, hRU.at (by decide), 240, rfl, ?_, fun v6 hv6 => ?_⟩⟩
      · rw [n60]; exact vp_in_nI (by omega) (by omega)
      · rw [n60, nI_clamp (by omega), F.L, hV i (by omega), lN_i] at hv6
        subst hv6
        rw [md_half _ (by omega), md_rest _ (by omega)]
        refine ⟨fun q => ?_, fun q => ?_⟩
        · rw [if_neg q] at d3
          exact one _ d3
        · rw [show (1 : Int32) - nI (c i % 2) = nI (1 - c i % 2) by rw [show (1 : Int32) = nI 1 from rfl, nI_sub (by omega)]]
          rw [if_pos q] at d3
          exact one _ d3
  exact e_Md_laysDance rfl (key n 0 _ 0 (fun _ => 0) (by omega) ((FrI.refl _ _).uI _ (Or.inl ⟨rfl, rfl⟩)) ⟨by rw [uI_at, if_pos rfl, if_pos rfl]; rfl, by omega, fun k hk => absurd hk (Nat.not_lt_zero k)⟩ (Nat.le_refl _) rfl)
end DA
