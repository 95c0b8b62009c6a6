/-! TRAYS -/
theorem Inv.upTr {S S' : aw_S} (h : Inv S) (h0 : ∀ j, j ≠ 3 → S'.1 0 j = S.1 0 j) (hM : ∀ j, j ≠ 2 → S'.1 114 j = S.1 114 j) (hML : S'.2.1 114 = S.2.1 114) (hk : ∀ k, k ≠ 0 → k ≠ 114 → ¬ (2 ≤ k ∧ k ≤ 9) → ¬ (117 ≤ k ∧ k ≤ 119) → S'.1 k = S.1 k ∧ S'.2.1 k = S.2.1 k) (hR : S'.2.2 = S.2.2) (ht : trR S'.1 S'.2.1) (hs : S'.1 0 3 = S'.1 114 2) : Inv S' := by
  obtain ⟨i1, i2, i3, i4, i5, i6, i7, i8, i9, i10⟩ := h
  have gg : ∀ a s t, 11 ≤ a → a ≤ 72 → ggR S.1 S.2.1 a s t → ggR S'.1 S'.2.1 a s t := fun a s t h1 h2 hg => hg.fr (fun k q1 q2 => (hk k (by omega) (by omega) (by omega) (by omega)).1) (fun j hj => by rw [(hk 115 (by omega) (by omega) (by omega) (by omega)).1]) ((hk (a + 1) (by omega) (by omega) (by omega) (by omega)).2) (fun d hd => by rw [(hk 116 (by omega) (by omega) (by omega) (by omega)).2])
  refine ⟨hs, ?_, ?_, ?_, ?_, ?_, ?_, ht, by rw [hR]; exact i9, ?_⟩
  · rw [hML, (hk 111 (by omega) (by omega) (by omega) (by omega)).2]; exact i2
  · rw [h0 4 (by omega), h0 5 (by omega), hM 16 (by omega), hM 17 (by omega)]; exact i3
  · rw [h0 14 (by omega), hM 50 (by omega), (hk 98 (by omega) (by omega) (by omega) (by omega)).1, (hk 142 (by omega) (by omega) (by omega) (by omega)).1]; exact i4
  · rw [h0 2 (by omega), hM 10 (by omega), (hk 10 (by omega) (by omega) (by omega) (by omega)).1, (hk 120 (by omega) (by omega) (by omega) (by omega)).1]; exact i5
  · rw [h0 9 (by omega), hM 51 (by omega)]
    obtain ⟨k, h1, h2, h3, h4⟩ := i6
    exact ⟨k, h1, h2, h3, fun i hi => gg _ _ _ (by omega) (by omega) (h4 i hi)⟩
  · rw [hR]
    obtain ⟨a, b, h1, h2, h3, h4⟩ := i7
    exact ⟨a, b, h1, h2, h3, gg _ _ _ (by omega) (by omega) h4⟩
  · rw [(hk 95 (by omega) (by omega) (by omega) (by omega)).2]; exact i10
theorem rf_tray {R : Nat → Nat → Option Nat} (h : RefsOk R) {t : Nat} (ht : t < 4) : R 1 t = some (2 + 2 * t) ∧ R (2 + 2 * t) 0 = some (3 + 2 * t) := by
  have e : ∀ t, t < 4 → (1, t, 2 + 2 * t) ∈ rfT ∧ (2 + 2 * t, 0, 3 + 2 * t) ∈ rfT := by decide
  exact ⟨h.at (e t ht).1, h.at (e t ht).2⟩
theorem sh_tray : ∀ t, t < 4 → sh0[2 + 2 * t]? = some (0, 1) ∧ sh0[3 + 2 * t]? = some (4, 60) := by decide
theorem updL_fill {A B : Nat → Prop} [DecidablePred A] [DecidablePred B] (g : Nat → Int64) (k : Nat) (v : Int64) (h : ∀ j, B j ↔ A j ∨ j = k) : vp_updL (fun j => if A j then v else g j) k v = fun j => if B j then v else g j := by
  funext i
  unfold vp_updL
  by_cases h1 : i = k
  · rw [if_pos h1, if_pos ((h i).mpr (Or.inr h1))]
  · rw [if_neg h1]
    show (if A i then v else g i) = _
    by_cases h2 : A i
    · rw [if_pos h2, if_pos ((h i).mpr (Or.inl h2))]
    · rw [if_neg h2, if_neg (fun q => ((h i).mp q).elim h2 h1)]
theorem updI_fill {A B : Nat → Prop} [DecidablePred A] [DecidablePred B] (g : Nat → Int32) (k : Nat) (v : Int32) (h : ∀ j, B j ↔ A j ∨ j = k) : upd (fun j => if A j then v else g j) k v = fun j => if B j then v else g j := by
  funext i
  unfold upd
  by_cases h1 : i = k
  · rw [if_pos h1, if_pos ((h i).mpr (Or.inr h1))]
  · rw [if_neg h1]
    show (if A i then v else g i) = _
    by_cases h2 : A i
    · rw [if_pos h2, if_pos ((h i).mpr (Or.inl h2))]
    · rw [if_neg h2, if_neg (fun q => ((h i).mp q).elim h2 h1)]
theorem wL_id (S : aw_S) (r : Nat) : aw_wL S r (S.2.1 r) = S := by
  unfold aw_wL
  have e1 : va_up S.2.1 r (S.2.1 r) = S.2.1 := by
    funext i
    by_cases hi : i = r
    · subst hi; exact va_up_self _ _ _
    · exact va_up_ne _ _ hi
  rw [e1]
theorem wI_id (S : aw_S) (r : Nat) : aw_wI S r (S.1 r) = S := by
  unfold aw_wI
  have e1 : va_up S.1 r (S.1 r) = S.1 := by
    funext i
    by_cases hi : i = r
    · subst hi; exact va_up_self _ _ _
    · exact va_up_ne _ _ hi
  rw [e1]
theorem wI_at (S : aw_S) (k : Nat) (g : Nat → Int32) (c i : Nat) : (aw_wI S k g).1 c i = if c = k then g i else S.1 c i := by
  by_cases h : c = k
  · subst h; simp [aw_wI, va_up]
  · simp [aw_wI, va_up, h]
theorem wL_at (S : aw_S) (k : Nat) (g : Nat → Int64) (c i : Nat) : (aw_wL S k g).2.1 c i = if c = k then g i else S.2.1 c i := by
  by_cases h : c = k
  · subst h; simp [aw_wL, va_up]
  · simp [aw_wL, va_up, h]
theorem uI_L (S : aw_S) (k j : Nat) (v : Int32) : (aw_uI S k j v).2.1 = S.2.1 := rfl
theorem uI_R (S : aw_S) (k j : Nat) (v : Int32) : (aw_uI S k j v).2.2 = S.2.2 := rfl
theorem uL_I (S : aw_S) (k j : Nat) (v : Int64) : (aw_uL S k j v).1 = S.1 := rfl
theorem uL_R (S : aw_S) (k j : Nat) (v : Int64) : (aw_uL S k j v).2.2 = S.2.2 := rfl
theorem wI_L (S : aw_S) (k : Nat) (g : Nat → Int32) : (aw_wI S k g).2.1 = S.2.1 := rfl
theorem wI_R (S : aw_S) (k : Nat) (g : Nat → Int32) : (aw_wI S k g).2.2 = S.2.2 := rfl
theorem wL_I (S : aw_S) (k : Nat) (g : Nat → Int64) : (aw_wL S k g).1 = S.1 := rfl
theorem wL_R (S : aw_S) (k : Nat) (g : Nat → Int64) : (aw_wL S k g).2.2 = S.2.2 := rfl
theorem uR_I (S : aw_S) (k j : Nat) (v : Option Nat) : (aw_uR S k j v).1 = S.1 := rfl
theorem uR_L (S : aw_S) (k j : Nat) (v : Option Nat) : (aw_uR S k j v).2.1 = S.2.1 := rfl
theorem uR_at (S : aw_S) (k j : Nat) (v : Option Nat) (c i : Nat) : (aw_uR S k j v).2.2 c i = if c = k then (if i = j then v else S.2.2 k i) else S.2.2 c i := by
  by_cases h : c = k
  · subst h; simp [aw_uR, va_up]
  · simp [aw_uR, va_up, h]
theorem sp_fillL {l : Launch} {d : Nat} {sh : aw_SH} {S : aw_S} {P : aw_S → Prop} {r n : Nat} {v : Int64} (sr : sh[r]? = some (4, n)) (hn : n < 2 ^ 31) (h : P (aw_wL S r (fun j => if j < n then v else S.2.1 r j))) : Sp l m_Ar_fill_AJJV (d + 1) 0 0 [.ref r, .long v] sh S (gV sh P) := by
  refine e_Ar_fill_AJJV ⟨n, sr, ?_⟩
  have key : ∀ j k, k + j = n → AW l m_Ar_fill_AJJV (d + 1) 0 0 (gV sh P) 0 0 6 [.ref r, .long v, .null, .int (nI k), .int (nI n)] [] sh (aw_wL S r (fun j => if j < k then v else S.2.1 r j)) := by
    intro j
    induction j with
    | zero =>
      intro k hk
      have hk : k = n := hk
      subst hk
      exact s_Ar_fill_AJJV_6 ⟨fun _ => h, fun q => absurd (nI_le (Nat.le_refl _) hn) q⟩
    | succ j ih =>
      intro k hk
      refine s_Ar_fill_AJJV_6 ⟨fun q => absurd q (nI_ge (by omega) hn), fun _ => ⟨n, sr, vp_in_nI (by omega) hn, ?_⟩⟩
      have e := ih (k + 1) (by omega)
      rw [nI_1, nI_clamp (by omega), uL_w, wL_wL, wL_self]
      have ef := updL_fill (A := fun j => j < k) (B := fun j => j < k + 1) (S.2.1 r) k v (fun j => by omega)
      rw [ef]
      exact e
  have e0 : aw_wL S r (fun j => if j < 0 then v else S.2.1 r j) = S := by
    have : (fun j => if j < 0 then v else S.2.1 r j) = S.2.1 r := by
      funext j
      rw [if_neg (Nat.not_lt_zero j)]
    rw [this, wL_id]
  have := key n 0 (by omega)
  rw [e0] at this
  exact this
theorem le_ge {x : Int32} {M : Int32} {n : Nat} (hM : M.toInt = n) (h : 0 ≤ x ∧ x ≤ M) : ∃ j : Nat, j ≤ n ∧ x = nI j := nI_of2 hM (Int32.not_lt.mpr h.1) h.2
/-- what tray() leaves of the class's cells -/
def trE (S : aw_S) (t k n : Nat) : aw_S := aw_uI (aw_wL (aw_uI (aw_uI (aw_uI S (2 + 2 * t) 1 1) (2 + 2 * t) 2 (nI k)) (2 + 2 * t) 3 (nI n)) (3 + 2 * t) (fun j => if j < 60 then 0 else S.2.1 (3 + 2 * t) j)) 0 3 0
def trM (S : aw_S) (t k n : Nat) : aw_S := aw_uI (aw_wL (aw_uI (aw_uI S 117 t (nI k)) 118 t (nI n)) 119 (fun j => if 60 * t ≤ j ∧ j < 60 * t + n then 0 else S.2.1 119 j)) 114 2 0
def trC (x y z : Int32) : Prop := (0 ≤ x ∧ x ≤ 3) ∧ (0 ≤ y ∧ y ≤ 3) ∧ (0 ≤ z ∧ z ≤ 60)
theorem sp_Mg_tray {l : Launch} {d : Nat} {S : aw_S} {P : Int32 → aw_S → Prop} {x y z : Int32} (hR : RefsOk S.2.2) (h1 : ¬ trC x y z → P 0 (aw_uI S 0 3 1)) (h2 : ∀ t k n, t < 4 → k ≤ 3 → n ≤ 60 → x = nI t → y = nI k → z = nI n → P 1 (trE S t k n)) : Sp l m_Mg_tray (d + 3) 0 0 [.ref 0, .int x, .int y, .int z] sh0 S (gI sh0 P) := by
  refine e_Mg_tray rfl (sp_isTray ?_)
  by_cases c1 : 0 ≤ x ∧ x ≤ 3
  · rw [if_pos c1]
    refine ⟨fun q => absurd q (by decide), fun _ => sp_isWithin ?_⟩
    by_cases c2 : 0 ≤ y ∧ y ≤ 3
    · rw [if_pos c2]
      refine ⟨fun q => absurd q (by decide), fun _ => sp_isWithin ?_⟩
      by_cases c3 : 0 ≤ z ∧ z ≤ 60
      · rw [if_pos c3]
        obtain ⟨t, ht, ex⟩ := le_ge (n := 3) (by decide) c1
        obtain ⟨k, hk, ey⟩ := le_ge (n := 3) (by decide) c2
        obtain ⟨n, hn, ez⟩ := le_ge (n := 60) (by decide) c3
        have hp := h2 t k n (by omega) hk hn ex ey ez
        subst ex; subst ey; subst ez
        obtain ⟨g1, g2⟩ := rf_tray hR (show t < 4 by omega)
        obtain ⟨s1, s2⟩ := sh_tray t (by omega)
        refine ⟨fun _ => ⟨1, hR.at (by decide), 4, rfl, vp_in_nI (by omega) (by omega), 2 + 2 * t, by rw [nI_clamp (by omega)]; exact g1, s1, ?_⟩, fun q => absurd q (by decide)⟩
        refine e_Tr_become s1 ⟨3 + 2 * t, g2, sp_fillL s2 (by decide) (e_Mg_grant rfl ⟨Or.inr rfl, hp⟩)⟩
      · rw [if_neg c3]
        exact ⟨fun q => absurd rfl q, fun _ => e_Mg_refuse rfl ⟨Or.inl rfl, h1 (fun q => c3 q.2.2)⟩⟩
    · rw [if_neg c2]
      exact ⟨fun _ => e_Mg_refuse rfl ⟨Or.inl rfl, h1 (fun q => c2 q.2.1)⟩, fun q => absurd rfl q⟩
  · rw [if_neg c1]
    exact ⟨fun _ => e_Mg_refuse rfl ⟨Or.inl rfl, h1 (fun q => c1 q.1)⟩, fun q => absurd rfl q⟩
theorem sp_is1 {l : Launch} {d : Nat} {S : aw_S} {P : Int32 → aw_S → Prop} {v : Int32} (hv : ¬ v = 0) (h : P 0 (aw_uI S 114 2 v)) : Sp l m_Md_is (d + 1) 0 0 [.ref 114, .int v] sh0 S (gI sh0 P) := e_Md_is rfl ⟨fun _ => h, fun q => absurd q hv⟩
theorem sp_is0 {l : Launch} {d : Nat} {S : aw_S} {P : Int32 → aw_S → Prop} (h : P 1 (aw_uI S 114 2 0)) : Sp l m_Md_is (d + 1) 0 0 [.ref 114, .int 0] sh0 S (gI sh0 P) := e_Md_is rfl ⟨fun q => absurd rfl q, fun _ => h⟩
theorem n60 (t k : Nat) : (60 : Int32) * nI t + nI k = nI (60 * t + k) := by rw [show (60 : Int32) = nI 60 from rfl, pk_mul, nI_add]
theorem sp_Md_tray {l : Launch} {d : Nat} {S : aw_S} {P : Int32 → aw_S → Prop} {x y z : Int32} (hR : RefsOk S.2.2) (h1 : ¬ trC x y z → P 0 (aw_uI S 114 2 1)) (h2 : ∀ t k n, t < 4 → k ≤ 3 → n ≤ 60 → x = nI t → y = nI k → z = nI n → P 1 (trM S t k n)) : Sp l m_Md_tray (d + 3) 0 0 [.ref 114, .int x, .int y, .int z] sh0 S (gI sh0 P) := by
  have bad : ¬ trC x y z → Sp l m_Md_is (d + 2) 0 0 [.ref 114, .int 1] sh0 S (gI sh0 (fun r S' => ((r = 0 ∨ r = 1) ∧ P r S'))) := fun q => sp_is1 (by decide) ⟨Or.inl rfl, h1 q⟩
  refine e_Md_tray rfl (sp_mIsTray ?_)
  by_cases c1 : 0 ≤ x ∧ x ≤ 3
  · rw [if_pos c1]
    refine ⟨fun q => absurd q (by decide), fun _ => ⟨fun q => bad (fun z => absurd z.2.1.1 (Int32.not_le.mpr q)), fun a1 => ⟨fun q => bad (fun z => absurd z.2.1.2 (Int32.not_le.mpr q)), fun a2 => ⟨fun q => bad (fun z => absurd z.2.2.1 (Int32.not_le.mpr q)), fun a3 => ⟨fun a4 => ?_, fun q => bad (fun z => q z.2.2.2)⟩⟩⟩⟩⟩
    have c2 : 0 ≤ y ∧ y ≤ 3 := ⟨Int32.not_lt.mp a1, Int32.not_lt.mp a2⟩
    have c3 : 0 ≤ z ∧ z ≤ 60 := ⟨Int32.not_lt.mp a3, a4⟩
    obtain ⟨t, ht, ex⟩ := le_ge (n := 3) (by decide) c1
    obtain ⟨k, hk, ey⟩ := le_ge (n := 3) (by decide) c2
    obtain ⟨n, hn, ez⟩ := le_ge (n := 60) (by decide) c3
    have hp := h2 t k n (by omega) hk hn ex ey ez
    subst ex; subst ey; subst ez
    have hv : vp_in (nI t) 4 := vp_in_nI (by omega) (by omega)
    refine ⟨117, hR.at (by decide), 4, rfl, hv, 118, hR.at (by decide), 4, rfl, hv, ?_⟩
    rw [nI_clamp (by omega)]
    generalize hT : aw_uI (aw_uI S 117 t (nI k)) 118 t (nI n) = T
    have hT2 : T.2.2 = S.2.2 := by rw [← hT]; rfl
    have key : ∀ j i, i + j = n → AW l m_Md_tray (d + 2 + 1) 0 0 (gI sh0 P) 0 0 49 [.ref 114, .int (nI t), .null, .int (nI n), .int (nI i)] [] sh0 (aw_wL T 119 (fun j => if 60 * t ≤ j ∧ j < 60 * t + i then 0 else T.2.1 119 j)) := by
      intro j
      induction j with
      | zero =>
        intro i hi
        have hi : i = n := hi
        subst hi
        refine s_Md_tray_49 rfl ⟨fun _ => sp_is0 ⟨Or.inr rfl, ?_⟩, fun q => absurd (nI_le (Nat.le_refl _) (by omega)) q⟩
        rw [← hT]
        exact hp
      | succ j ih =>
        intro i hi
        have e := ih (i + 1) (by omega)
        refine s_Md_tray_49 rfl ⟨fun q => absurd q (nI_ge (by omega) (by omega)), fun _ => ⟨119, by show T.2.2 114 7 = _; rw [hT2]; exact hR.at (by decide), 240, rfl, ?_, ?_⟩⟩
        · rw [n60]; exact vp_in_nI (by omega) (by omega)
        · rw [n60, nI_clamp (by omega), nI_1, uL_w, wL_wL, wL_self]
          have ef := updL_fill (A := fun j => 60 * t ≤ j ∧ j < 60 * t + i) (B := fun j => 60 * t ≤ j ∧ j < 60 * t + (i + 1)) (T.2.1 119) (60 * t + i) 0 (fun j => by omega)
          rw [ef]
          exact e
    have k0 := key n 0 (by omega)
    have e0 : aw_wL T 119 (fun j => if 60 * t ≤ j ∧ j < 60 * t + 0 then 0 else T.2.1 119 j) = T := by
      have : (fun j => if 60 * t ≤ j ∧ j < 60 * t + 0 then 0 else T.2.1 119 j) = T.2.1 119 := by
        funext j
        rw [if_neg (by omega)]
      rw [this, wL_id]
    rw [e0] at k0
    exact k0
  · rw [if_neg c1]
    exact ⟨fun _ => bad (fun q => c1 q.1), fun q => absurd rfl q⟩
theorem ok_tray (l : Launch) : Ok_tray l 0 114 sh0 Inv := by
  intro S hI x y z
  refine sp_Mg_tray (d := 197) hI.rf (fun hc => ?_) (fun t k n ht hk hn ex ey ez => ?_)
  · refine sp_Md_tray (d := 197) hI.rf (fun _ => ⟨rfl, hI.st rfl⟩) (fun t k n ht hk hn ex ey ez => absurd ?_ hc)
    subst ex; subst ey; subst ez
    exact ⟨⟨nI_pos' (by omega), nI_le (b := 3) (by omega) (by omega)⟩, ⟨nI_pos' (by omega), nI_le (b := 3) (by omega) (by omega)⟩, ⟨nI_pos' (by omega), nI_le (b := 60) (by omega) (by omega)⟩⟩
  · refine sp_Md_tray (d := 197) hI.rf (fun hc => absurd ?_ hc) (fun t' k' n' ht' hk' hn' ex' ey' ez' => ?_)
    · subst ex; subst ey; subst ez
      exact ⟨⟨nI_pos' (by omega), nI_le (b := 3) (by omega) (by omega)⟩, ⟨nI_pos' (by omega), nI_le (b := 3) (by omega) (by omega)⟩, ⟨nI_pos' (by omega), nI_le (b := 60) (by omega) (by omega)⟩⟩
    · have et : t' = t := (nI_inj (by omega) (by omega)).mp (ex'.symm.trans ex)
      have ek : k' = k := (nI_inj (by omega) (by omega)).mp (ey'.symm.trans ey)
      have en : n' = n := (nI_inj (by omega) (by omega)).mp (ez'.symm.trans ez)
      subst et; subst ek; subst en
      refine ⟨rfl, hI.upTr ?_ ?_ ?_ ?_ rfl ?_ ?_⟩
      · intro j hj
        simp only [trM, trE, uI_at, wL_I]
        simp [hj, show ¬ (0 : Nat) = 2 + 2 * t' by omega]
      · intro j hj
        simp only [trM, trE, uI_at, wL_I]
        simp [hj, show ¬ (114 : Nat) = 2 + 2 * t' by omega]
      · simp only [trM, trE, uI_L]
        rw [wL_ne _ _ (by omega), uI_L, uI_L, uI_L, wL_ne _ _ (by omega)]
        rfl
      · intro k h1 h2 h3 h4
        simp only [trM, trE, uI_L]
        rw [uI_ne _ _ _ (by omega), wL_I, uI_ne _ _ _ (by omega), uI_ne _ _ _ (by omega), uI_ne _ _ _ (by omega), wL_I, uI_ne _ _ _ (by omega), uI_ne _ _ _ (by omega), uI_ne _ _ _ (by omega), wL_ne _ _ (by omega), uI_L, uI_L, uI_L, wL_ne _ _ (by omega)]
        exact ⟨rfl, rfl⟩
      · intro u hu
        by_cases e : u = t'
        · subst e
          refine Or.inr ⟨?_, n', k', hn', hk', ?_, ?_, ?_, ?_, fun j hj => ?_⟩
          all_goals
            simp only [trM, trE, uI_at, wL_I, wL_at, uI_L]
            simp [show ¬ 2 + 2 * u = 114 by omega, show ¬ 2 + 2 * u = 118 by omega, show ¬ 2 + 2 * u = 117 by omega, show ¬ 2 + 2 * u = 0 by omega, show ¬ 3 + 2 * u = 119 by omega]
          · rw [if_pos (by omega), if_pos hj]
        · have hold := hI.2.2.2.2.2.2.2.1 u hu
          simp only [trM, trE, uI_at, wL_I, wL_at, uI_L]
          simp only [e, show ¬ 2 + 2 * u = 114 by omega, show ¬ 2 + 2 * u = 118 by omega, show ¬ 2 + 2 * u = 117 by omega, show ¬ 2 + 2 * u = 0 by omega, show ¬ 2 + 2 * u = 2 + 2 * t' by omega, show ¬ 3 + 2 * u = 119 by omega, show ¬ 3 + 2 * u = 3 + 2 * t' by omega, show ¬ 117 = 2 + 2 * t' by omega, show ¬ 118 = 2 + 2 * t' by omega, show ¬ 119 = 3 + 2 * t' by omega, if_false, if_true, show ¬ 118 = 114 by omega, show ¬ 117 = 114 by omega, show ¬ 118 = 117 by omega, show ¬ 117 = 118 by omega, show ¬ 118 = 0 by omega, show ¬ 117 = 0 by omega]
          rcases hold with h | ⟨h1, n, k, h2, h3, h4, h5, h6, h7, h8⟩
          · exact Or.inl h
          · refine Or.inr ⟨h1, n, k, h2, h3, h4, h5, h6, h7, fun j hj => ?_⟩
            rw [if_neg (by omega)]
            exact h8 j hj
      · simp only [trM, trE, uI_at, wL_I]
        simp
