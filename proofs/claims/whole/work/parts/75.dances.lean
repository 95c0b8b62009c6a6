/-! the reference's PASSES -/
section DA
variable {l : Launch} {d : Nat} {sh : aw_SH} {S : aw_S} {s : Nat} {g : GM}
theorem sp_Md_swaps {P : aw_S → Prop} {n gap : Nat} {std : Nat → Nat} (hS : MdS sh S.2.2) (hs : s < 3600) (hn : n ≤ 7) (hg : gap < gpN n) (h0 : S.1 115 s = nI n) (H7 : ∀ p, p < n → S.1 115 (s + 17 + p) = nI (std p)) (h : ∀ S', FrI (fun k j => k = 115 ∧ s + 17 ≤ j ∧ j < s + 24) S S' → (∀ p, p < n → S'.1 115 (s + 17 + p) = nI (swS n std gap p)) → P S') : Sp l m_Md_swaps (d + 1) 0 0 [.ref 114, .int (nI s), .int (nI gap)] sh S (gV sh P) := by
  have g2 := gp_2 hg
  have g3 := gp_le n
  have hx := nx_lt (n := n) (p := gap) (by omega)
  have hne := nx_ne g2 (show gap < n by omega)
  refine e_Md_swaps hS.1 ⟨115, hS.2.1, 3864, hS.2.2, ?_⟩
  rw [nA0, nI_clamp (by omega), h0]
  refine ⟨vp_in_nI (by omega) (by omega), nI_ne0 (by omega) (by omega), fun v hv => ?_⟩
  rw [nI_1, pk_rem (by omega) (by omega) (by omega)] at hv
  subst hv
  rw [nA17, nI_add, nI_add, nI_clamp (show s + 17 + gap < 2 ^ 31 by omega)]
  show vp_in _ _ ∧ vp_in (nI (s + 17 + nx n gap)) _ ∧ vp_in _ _ ∧ vp_in (nI (s + 17 + nx n gap)) _ ∧ P (aw_uI (aw_uI S 115 (s + 17 + gap) (S.1 115 (nI (s + 17 + nx n gap)).toNatClampNeg)) 115 (nI (s + 17 + nx n gap)).toNatClampNeg (S.1 115 (s + 17 + gap)))
  rw [nI_clamp (show s + 17 + nx n gap < 2 ^ 31 by omega), H7 gap (by omega), H7 _ hx]
  refine ⟨vp_in_nI (by omega) (by omega), vp_in_nI (by omega) (by omega), vp_in_nI (by omega) (by omega), vp_in_nI (by omega) (by omega), h _ (((FrI.refl _ S).uI _ ⟨rfl, by omega, by omega⟩).uI _ ⟨rfl, by omega, by omega⟩) (fun p hp => ?_)⟩
  simp only [uI_at, if_true]
  unfold swS
  by_cases c1 : p = gap
  · rw [if_neg (show ¬ s + 17 + p = s + 17 + nx n gap by omega), if_pos (show s + 17 + p = s + 17 + gap by omega), if_pos c1]
  · by_cases c2 : p = nx n gap
    · rw [if_pos (show s + 17 + p = s + 17 + nx n gap by omega), if_neg c1, if_pos c2]
    · rw [if_neg (show ¬ s + 17 + p = s + 17 + nx n gap by omega), if_neg (show ¬ s + 17 + p = s + 17 + gap by omega), if_neg c1, if_neg c2]
      exact H7 p hp
theorem sp_Md_loses {P : aw_S → Prop} {m k : Nat} (hS : MdS sh S.2.2) (hs : s < 3600) (hm : m ≤ 40) (hk : k < m) (h3 : S.1 115 (s + 3) = nI m) (h : ∀ S', FrI (fun c j => c = 115 ∧ (j = s + 3 ∨ (s + 24 ≤ j ∧ j < s + 184))) S S' → S'.1 115 (s + 3) = nI (m - 1) → (∀ i c, c < 4 → i < m - 1 → S'.1 115 (s + 24 + 4 * i + c) = if i < k then S.1 115 (s + 24 + 4 * i + c) else S.1 115 (s + 24 + 4 * (i + 1) + c)) → P S') : Sp l m_Md_loses (d + 1 + 1) 0 0 [.ref 114, .int (nI s), .int (nI k)] sh S (gV sh P) := by
  refine e_Md_loses hS.1 ⟨115, hS.2.1, 3864, hS.2.2, ?_⟩
  rw [nA3, nI_clamp (by omega), h3, show nI m - 1 = nI (m - 1) from pk_sub (b := 1) (by omega)]
  refine ⟨vp_in_nI (by omega) (by omega), vp_in_nI (by omega) (by omega), e_Md_plaitRow ?_⟩
  rw [nRow]
  have key : ∀ j i, i + j = 24 + 4 * (m - 1) → 24 + 4 * k ≤ i → AW l m_Md_loses (d + 1 + 1) 0 0 (gV sh P) 0 0 17 [.ref 114, .int (nI s), .null, .int (nI i)] [] sh (aw_uI (aw_wI S 115 (fun j => if s + (24 + 4 * k) ≤ j ∧ j < s + i then S.1 115 (j + 4) else S.1 115 j)) 115 (s + 3) (nI (m - 1))) := by
    intro j
    induction j with
    | zero =>
      intro i hi hki
      have hi : i = 24 + 4 * (m - 1) := hi
      subst hi
      refine s_Md_loses_17 hS.1 ⟨115, hS.2.1, 3864, hS.2.2, ?_⟩
      rw [nA3, nI_clamp (by omega), uI_at, if_pos rfl, if_pos rfl]
      refine ⟨vp_in_nI (by omega) (by omega), e_Md_plaitRow ?_⟩
      rw [nRow]
      refine ⟨fun _ => h _ ?_ ?_ ?_, fun q => absurd (nI_le (Nat.le_refl _) (by omega)) q⟩
      · refine FrI.uI ((FrI.refl (fun c j => c = 115 ∧ (j = s + 3 ∨ (s + 24 ≤ j ∧ j < s + 184))) S).wI _ (fun j => ?_)) _ (by omega)
        by_cases c : s + (24 + 4 * k) ≤ j ∧ j < s + (24 + 4 * (m - 1))
        · exact Or.inl (by omega)
        · exact Or.inr (if_neg c)
      · rw [uI_at, if_pos rfl, if_pos rfl]
      · intro i c hc hi
        rw [uI_at, if_pos rfl, if_neg (by omega), wI_self]
        by_cases e : i < k
        · rw [if_pos e, if_neg (by omega)]
        · rw [if_neg e, if_pos (by omega), show s + 24 + 4 * i + c + 4 = s + 24 + 4 * (i + 1) + c by omega]
    | succ j ih =>
      intro i hi hki
      refine s_Md_loses_17 hS.1 ⟨115, hS.2.1, 3864, hS.2.2, ?_⟩
      rw [nA3, nI_clamp (by omega), uI_at, if_pos rfl, if_pos rfl]
      refine ⟨vp_in_nI (by omega) (by omega), e_Md_plaitRow ?_⟩
      rw [nRow]
      refine ⟨fun q => absurd q (nI_ge (by omega) (by omega)), fun _ => ⟨115, hS.2.1, 3864, hS.2.2, ?_⟩⟩
      rw [nI_add, nA4, nI_1, nI_clamp (by omega), nI_clamp (by omega)]
      refine ⟨vp_in_nI (by omega) (by omega), vp_in_nI (by omega) (by omega), ?_⟩
      have e := ih (i + 1) (by omega) (by omega)
      have e2 : aw_uI (aw_uI (aw_wI S 115 (fun j => if s + (24 + 4 * k) ≤ j ∧ j < s + i then S.1 115 (j + 4) else S.1 115 j)) 115 (s + 3) (nI (m - 1))) 115 (s + i) ((aw_uI (aw_wI S 115 (fun j => if s + (24 + 4 * k) ≤ j ∧ j < s + i then S.1 115 (j + 4) else S.1 115 j)) 115 (s + 3) (nI (m - 1))).1 115 (s + i + 4)) = aw_uI (aw_wI S 115 (fun j => if s + (24 + 4 * k) ≤ j ∧ j < s + (i + 1) then S.1 115 (j + 4) else S.1 115 j)) 115 (s + 3) (nI (m - 1)) := by
        refine aw_ext (fun c x => ?_) (fun c x => rfl) rfl
        simp only [uI_at, wI_at, if_true]
        by_cases hc : c = 115
        · subst hc
          rw [if_pos rfl, if_pos rfl]
          by_cases x1 : x = s + i
          · rw [if_pos x1, if_neg (by omega), if_neg (by omega), if_neg (by omega), if_pos (by omega), x1]
          · rw [if_neg x1]
            by_cases x2 : x = s + 3
            · rw [if_pos x2, if_pos x2]
            · rw [if_neg x2, if_neg x2]
              by_cases x3 : s + (24 + 4 * k) ≤ x ∧ x < s + i
              · rw [if_pos x3, if_pos (by omega)]
              · rw [if_neg x3, if_neg (by omega)]
        · simp only [if_neg hc]
      rw [e2]
      exact e
  have e := key (24 + 4 * (m - 1) - (24 + 4 * k)) (24 + 4 * k) (by omega) (Nat.le_refl _)
  have e0 : (fun j => if s + (24 + 4 * k) ≤ j ∧ j < s + (24 + 4 * k) then S.1 115 (j + 4) else S.1 115 j) = S.1 115 := by
    funext j
    rw [if_neg (by omega)]
  rw [e0, wI_id] at e
  exact e
theorem MdG.rem {S S1 S2 : aw_S} {k : Nat} (hb : bdG g) (H : MdG S.1 s g) (hk : k < g.m) (F1 : FrI (fun k j => k = 115 ∧ s + 17 ≤ j ∧ j < s + 24) S S1) (W : ∀ p, p < g.n → S1.1 115 (s + 17 + p) = nI (swS g.n g.std (g.f k % 8) p)) (F2 : FrI (fun c j => c = 115 ∧ (j = s + 3 ∨ (s + 24 ≤ j ∧ j < s + 184))) S1 S2) (h3 : S2.1 115 (s + 3) = nI (g.m - 1)) (h4 : ∀ i c, c < 4 → i < g.m - 1 → S2.1 115 (s + 24 + 4 * i + c) = if i < k then S1.1 115 (s + 24 + 4 * i + c) else S1.1 115 (s + 24 + 4 * (i + 1) + c)) : MdG S2.1 s (rmG g k) := by
  have hn : g.n ≤ 7 := hb.1
  obtain ⟨y0, y1, y2, y3, y4, y5, y6⟩ := H
  have fr : ∀ j, ¬ (j = s + 3 ∨ (s + 17 ≤ j ∧ j < s + 184)) → S2.1 115 j = S.1 115 j := fun j q => (F2.1 115 j (by omega)).trans (F1.1 115 j (by omega))
  have f1 : ∀ j, ¬ (s + 17 ≤ j ∧ j < s + 24) → S1.1 115 j = S.1 115 j := fun j q => F1.1 115 j (by omega)
  refine ⟨(fr _ (by omega)).trans y0, (fr _ (by omega)).trans y1, (fr _ (by omega)).trans y2, h3, fun i hi => ?_, fun c hc => (fr _ (by have : c < g.n := hc; omega)).trans (y5 c hc), fun p hp => ((F2.1 115 _ (by have : p < g.n := hp; omega)).trans (W p hp))⟩
  have hi : i < g.m - 1 := hi
  have q : ∀ c, c < 4 → S2.1 115 (s + 24 + 4 * i + c) = if i < k then S.1 115 (s + 24 + 4 * i + c) else S.1 115 (s + 24 + 4 * (i + 1) + c) := by
    intro c hc
    rw [h4 i c hc hi, f1 _ (by omega), f1 _ (by omega)]
  have q0 := q 0 (by omega)
  rw [Nat.add_zero, Nat.add_zero] at q0
  rw [q0, q 1 (by omega), q 2 (by omega), q 3 (by omega)]
  show (if i < k then _ else _) = nI (remF g.f k i % 8) ∧ _ = nI (remF g.f k i / 8 % 2) ∧ _ = nI (remF g.f k i / 16 % 8) ∧ _ = nI (remF g.f k i / 128 % 8)
  unfold remF
  by_cases e : i < k
  · simp only [if_pos e]
    exact y4 i (by omega)
  · simp only [if_neg e]
    exact y4 (i + 1) (by omega)
theorem sp_Md_dances {P : Int32 → aw_S → Prop} {gap over : Nat} (hS : MdS sh S.2.2) (hs : s < 3600) (hb : bdG g) (H : MdG S.1 s g) (hg : gap < gpN g.n) (ho : over < 2)
    (h1 : ∀ k S', ubG g gap over = some k → k < g.m → FrI (MX s) S S' → MdG S'.1 s (rmG g k) → P 2 S')
    (h2 : ∀ S', ubG g gap over = none → canN g gap → FrI (MX s) S S' → MdG S'.1 s (inG g g.m (npN g gap over)) → P 1 S')
    (h3 : ubG g gap over = none → ¬ canN g gap → P 0 S) : Sp l m_Md_dances (d + 1 + 1 + 1) 0 0 [.ref 114, .int (nI s), .int (nI gap), .int (nI over)] sh S (gI sh P) := by
  have hn : g.n ≤ 7 := hb.1
  have g2 := gp_2 hg
  have g3 := gp_le g.n
  have hm : g.m ≤ 40 := hb.2.2.2.2.1
  have hx := nx_lt (n := g.n) (p := gap) (by omega)
  have hst := hb.2.2.2.2.2.2.2.1
  obtain ⟨y0, y1, y2, y3, y4, y5, y6⟩ := id H
  have ht := tch_self g.n gap
  have add : ubG g gap over = none → AW l m_Md_dances (d + 1 + 1 + 1) 0 0 (gI sh P) 0 0 57 [.ref 114, .int (nI s), .int (nI gap), .int (nI over), .null, .null, .null, .null] [] sh S := by
    intro e0
    refine s_Md_dances_57 hS.1 ⟨115, hS.2.1, 3864, hS.2.2, ?_⟩
    rw [nA0, nA17, nA3, nI_add, nI_clamp (show s < 2 ^ 31 by omega), y0, nI_1, pk_rem (by omega) (by omega) (by omega)]
    show _ ∧ _ ∧ _ ∧ vp_in (nI (s + 17) + nI (nx g.n gap)) 3864 ∧ ∀ v7 : Int32, v7 = S.1 115 (nI (s + 17) + nI (nx g.n gap)).toNatClampNeg → _
    rw [nI_add, nI_clamp (show s + 17 + nx g.n gap < 2 ^ 31 by omega), nI_clamp (show s + 17 + gap < 2 ^ 31 by omega), nI_clamp (show s + 3 < 2 ^ 31 by omega), y6 _ hx, y6 gap (by omega), y3]
    refine ⟨vp_in_nI (by omega) (by omega), vp_in_nI (by omega) (by omega), nI_ne0 (by omega) (by omega), vp_in_nI (by omega) (by omega), fun v hv => ?_⟩
    subst hv
    refine ⟨vp_in_nI (by omega) (by omega), fun q => h3 e0 (fun z => ?_), fun q => ?_⟩
    · have := (nI_inj (b := 40) (by omega) (by omega)).mp q
      have := z.1
      omega
    have hlt : g.m < 40 := by
      have : ¬ g.m = 40 := fun z => q (by rw [z]; rfl)
      omega
    have l1 : lfN g (g.std gap) ≤ 40 := Nat.le_trans (Nat.sub_le _ _) hb.2.2.2.1
    have l2 : lfN g (g.std (nx g.n gap)) ≤ 40 := Nat.le_trans (Nat.sub_le _ _) hb.2.2.2.1
    refine sp_Md_leftOf hS hs hb H (hst gap (by omega)) ⟨fun q1 => h3 e0 (fun z => absurd q1 (nI_ne0 z.2.1 (by omega))), fun q1 => sp_Md_leftOf hS hs hb H (hst _ hx) ⟨fun q2 => ?_, fun q2 => h3 e0 (fun z => absurd q2 (nI_ne0 z.2.2 (by omega)))⟩⟩
    have can : canN g gap := ⟨hlt, Nat.pos_of_ne_zero (fun z => q1 (by rw [z]; rfl)), Nat.pos_of_ne_zero (fun z => q2 (by rw [z]; rfl))⟩
    refine ⟨115, hS.2.1, 3864, hS.2.2, vp_in_nI (by omega) (by omega), e_Md_plaitRow ?_⟩
    rw [y3, nRow, nI_add, nA1, nA2, nA3]
    refine ⟨115, hS.2.1, 3864, hS.2.2, vp_in_nI (by omega) (by omega), vp_in_nI (by omega) (by omega), ?_⟩
    rw [nI_clamp (show s + (24 + 4 * g.m) < 2 ^ 31 by omega), nI_clamp (show s + (24 + 4 * g.m) + 1 < 2 ^ 31 by omega), nI_clamp (show s + (24 + 4 * g.m) + 2 < 2 ^ 31 by omega), nI_clamp (show s + (24 + 4 * g.m) + 3 < 2 ^ 31 by omega)]
    obtain ⟨n1, n2, n3⟩ := np_ok hb hg ho
    have fin : ∀ u lo : Nat, npN g gap over / 16 % 8 = u → npN g gap over / 128 % 8 = lo → Sp l m_Md_swaps (d + 1 + 1) 0 0 [.ref 114, .int (nI s), .int (nI gap)] sh (aw_uI (aw_uI (aw_uI (aw_uI (aw_uI S 115 (s + (24 + 4 * g.m)) (nI gap)) 115 (s + (24 + 4 * g.m) + 1) (nI over)) 115 (s + (24 + 4 * g.m) + 2) (nI u)) 115 (s + (24 + 4 * g.m) + 3) (nI lo)) 115 (s + 3) ((aw_uI (aw_uI (aw_uI (aw_uI S 115 (s + (24 + 4 * g.m)) (nI gap)) 115 (s + (24 + 4 * g.m) + 1) (nI over)) 115 (s + (24 + 4 * g.m) + 2) (nI u)) 115 (s + (24 + 4 * g.m) + 3) (nI lo)).1 115 (s + 3) + 1)) (gV sh (fun S33 => P 1 S33)) := by
      intro u lo hu hlo
      have e3 : (aw_uI (aw_uI (aw_uI (aw_uI S 115 (s + (24 + 4 * g.m)) (nI gap)) 115 (s + (24 + 4 * g.m) + 1) (nI over)) 115 (s + (24 + 4 * g.m) + 2) (nI u)) 115 (s + (24 + 4 * g.m) + 3) (nI lo)).1 115 (s + 3) + 1 = nI (g.m + 1) := by
        simp only [uI_at, if_true]
        rw [if_neg (by omega), if_neg (by omega), if_neg (by omega), if_neg (by omega), y3, nI_1]
      rw [e3]
      have F : FrI (fun c j => c = 115 ∧ (j = s + 3 ∨ (s + 24 + 4 * g.m ≤ j ∧ j < s + 24 + 4 * g.m + 4))) S (aw_uI (aw_uI (aw_uI (aw_uI (aw_uI S 115 (s + (24 + 4 * g.m)) (nI gap)) 115 (s + (24 + 4 * g.m) + 1) (nI over)) 115 (s + (24 + 4 * g.m) + 2) (nI u)) 115 (s + (24 + 4 * g.m) + 3) (nI lo)) 115 (s + 3) (nI (g.m + 1))) := (((((FrI.refl (fun c j => c = 115 ∧ (j = s + 3 ∨ (s + 24 + 4 * g.m ≤ j ∧ j < s + 24 + 4 * g.m + 4))) S).uI _ ⟨rfl, by omega⟩).uI _ ⟨rfl, by omega⟩).uI _ ⟨rfl, by omega⟩).uI _ ⟨rfl, by omega⟩).uI _ ⟨rfl, by omega⟩
      have V : ∀ T, T = aw_uI (aw_uI (aw_uI (aw_uI (aw_uI S 115 (s + (24 + 4 * g.m)) (nI gap)) 115 (s + (24 + 4 * g.m) + 1) (nI over)) 115 (s + (24 + 4 * g.m) + 2) (nI u)) 115 (s + (24 + 4 * g.m) + 3) (nI lo)) 115 (s + 3) (nI (g.m + 1)) → T.1 115 (s + 3) = nI (g.m + 1) ∧ T.1 115 (s + 24 + 4 * g.m) = nI gap ∧ T.1 115 (s + 24 + 4 * g.m + 1) = nI over ∧ T.1 115 (s + 24 + 4 * g.m + 2) = nI u ∧ T.1 115 (s + 24 + 4 * g.m + 3) = nI lo := by
        intro T hT
        subst hT
        simp only [uI_at, if_true]
        refine ⟨trivial, ?_, ?_, ?_, ?_⟩
        · rw [if_neg (by omega), if_neg (by omega), if_neg (by omega), if_neg (by omega), if_pos (by omega)]
        · rw [if_neg (by omega), if_neg (by omega), if_neg (by omega), if_pos (by omega)]
        · rw [if_neg (by omega), if_neg (by omega), if_pos (by omega)]
        · rw [if_neg (by omega), if_pos (by omega)]
      have V := V _ rfl
      revert F V
      generalize aw_uI (aw_uI (aw_uI (aw_uI (aw_uI S 115 (s + (24 + 4 * g.m)) (nI gap)) 115 (s + (24 + 4 * g.m) + 1) (nI over)) 115 (s + (24 + 4 * g.m) + 2) (nI u)) 115 (s + (24 + 4 * g.m) + 3) (nI lo)) 115 (s + 3) (nI (g.m + 1)) = T
      intro F V
      obtain ⟨V3, V4, V5, V6, V7⟩ := V
      refine sp_Md_swaps (std := g.std) (by rw [F.R]; exact hS) hs hn hg (by rw [F.1 115 s (by omega)]; exact y0) (fun p hp => by rw [F.1 115 _ (by omega)]; exact y6 p hp) (fun S' F2 W => h2 S' e0 can ((F.mono (fun c j q => by unfold MX; omega)).trans (F2.mono (fun c j q => by unfold MX; omega))) ?_)
      have fr : ∀ j, ¬ (j = s + 3 ∨ (s + 17 ≤ j ∧ j < s + 24) ∨ (s + 24 + 4 * g.m ≤ j ∧ j < s + 24 + 4 * g.m + 4)) → S'.1 115 j = S.1 115 j := fun j q => (F2.1 115 j (by omega)).trans (F.1 115 j (by omega))
      have fT : ∀ j, ¬ (s + 17 ≤ j ∧ j < s + 24) → S'.1 115 j = T.1 115 j := fun j q => F2.1 115 j (by omega)
      refine ⟨(fr _ (by omega)).trans y0, (fr _ (by omega)).trans y1, (fr _ (by omega)).trans y2, (fT _ (by omega)).trans V3, fun i hi => ?_, fun c hc => (fr _ (by have : c < g.n := hc; omega)).trans (y5 c hc), fun p hp => ?_⟩
      · have hi : i < g.m + 1 := hi
        show _ = nI (insF g.f g.m (npN g gap over) i % 8) ∧ _ = nI (insF g.f g.m (npN g gap over) i / 8 % 2) ∧ _ = nI (insF g.f g.m (npN g gap over) i / 16 % 8) ∧ _ = nI (insF g.f g.m (npN g gap over) i / 128 % 8)
        unfold insF
        by_cases e : i < g.m
        · simp only [if_pos e]
          rw [fr _ (by omega), fr _ (by omega), fr _ (by omega), fr _ (by omega)]
          exact y4 i e
        · have e2 : i = g.m := by omega
          simp only [if_neg e, if_pos e2]
          rw [e2, n2, n3, hu, hlo, fT _ (by omega), fT _ (by omega), fT _ (by omega), fT _ (by omega)]
          exact ⟨V4, V5, V6, V7⟩
      · show _ = nI (swS g.n g.std (npN g gap over % 8) p)
        rw [n2]
        exact W p hp
    have nu : npN g gap over / 16 % 8 = (if over = 1 then g.std gap else g.std (nx g.n gap)) ∧ npN g gap over / 128 % 8 = (if over = 1 then g.std (nx g.n gap) else g.std gap) := by
      have s1 := hst gap (by omega)
      have s2 := hst _ hx
      unfold npN
      by_cases e : over = 1
      · simp only [if_pos e]
        obtain ⟨k1, k2, k3, k4, k5⟩ := pkd (show gap < 8 by omega) ho (show g.std gap < 8 by omega) (show g.std (nx g.n gap) < 8 by omega)
        exact ⟨k3, k4⟩
      · simp only [if_neg e]
        obtain ⟨k1, k2, k3, k4, k5⟩ := pkd (show gap < 8 by omega) ho (show g.std (nx g.n gap) < 8 by omega) (show g.std gap < 8 by omega)
        exact ⟨k3, k4⟩
    refine ⟨fun o1 => ⟨vp_in_nI (by omega) (by omega), fun _ => ⟨vp_in_nI (by omega) (by omega), vp_in_nI (by omega) (by omega), vp_in_nI (by omega) (by omega), ?_⟩, fun z => absurd z o1⟩, fun o1 => ⟨vp_in_nI (by omega) (by omega), fun z => absurd o1 z, fun _ => ⟨vp_in_nI (by omega) (by omega), vp_in_nI (by omega) (by omega), vp_in_nI (by omega) (by omega), ?_⟩⟩⟩
    · have eo : ¬ over = 1 := fun z => o1 (by rw [z]; rfl)
      rw [if_neg eo, if_neg eo] at nu
      exact fin _ _ nu.1 nu.2
    · have eo : over = 1 := (nI_inj (b := 1) (by omega) (by omega)).mp o1
      rw [if_pos eo, if_pos eo] at nu
      exact fin _ _ nu.1 nu.2
  refine e_Md_dances hS.1 (sp_Md_latestIn hS hs hb H (by omega) ?_)
  cases hu : lt_in g.f gap g.m with
  | none => exact ⟨fun _ => add (ub_no ht (fun k q => by rw [hu] at q; cases q)), fun q => absurd rfl q⟩
  | some k =>
    obtain ⟨hk, hkg⟩ := lt_lt _ _ hu
    refine ⟨fun q => absurd q (nI_ne_m1 (show k < 2 ^ 31 by omega)), fun _ => ⟨115, hS.2.1, ?_⟩⟩
    show Sp l m_Md_plaitRow _ 0 0 [.int (nI k)] sh S _
    refine e_Md_plaitRow ⟨3864, hS.2.2, ?_⟩
    rw [nRow, nI_add, nA1, nI_clamp (by omega), ← Nat.add_assoc, (y4 k hk).2.1]
    refine ⟨vp_in_nI (by omega) (by omega), fun q => add (ub_no ht (fun k' q' q2 _ => ?_)), fun q => ?_⟩
    · rw [hu] at q'
      have e : k = k' := Option.some.inj q'
      subst e
      exact q2 ((nI_inj (by omega) (by omega)).mp q)
    show Sp l m_Md_isFreeIn _ 0 0 [.ref 114, .int (nI s), .int (nI k)] sh S _
    refine sp_Md_isFreeIn hS hs hb H hk (fun fr => ⟨fun q => absurd q (by decide), fun _ => ?_⟩) (fun nf => ⟨fun _ => add (ub_no ht (fun k' q' _ q3 => nf ?_)), fun q => absurd rfl q⟩)
    · have eu : ubG g gap over = some k := (ub_iff ht k g.m).mpr ⟨hu, fun z => q (by rw [z]), fun o q1 q2 => by
        have := fr o q1 q2
        rw [hkg, tch_sym] at this
        exact this⟩
      refine sp_Md_swaps (std := g.std) hS hs hn hg y0 y6 (fun S1 F1 W => ?_)
      show Sp l m_Md_loses _ 0 0 [.ref 114, .int (nI s), .int (nI k)] sh S1 _
      refine sp_Md_loses (by rw [F1.R]; exact hS) hs hm hk (by rw [F1.1 115 _ (by omega)]; exact y3) (fun S2 F2 w3 w4 => h1 k S2 eu hk ((F1.mono (fun c j q => by unfold MX; omega)).trans (F2.mono (fun c j q => by unfold MX; omega))) ?_)
      exact MdG.rem hb H hk F1 (by rw [hkg]; exact W) F2 w3 w4
    · rw [hu] at q'
      have e : k = k' := Option.some.inj q'
      subst e
      intro o q1 q2
      rw [hkg, tch_sym]
      exact q3 o q1 q2
end DA
