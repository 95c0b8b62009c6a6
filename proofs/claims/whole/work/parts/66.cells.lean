/-! write and read -/
def CellC (S : aw_S) (x y c : Int32) : Prop :=
  (c = 1 ∧ ¬ (0 ≤ x ∧ x ≤ 3)) ∨ (c = 2 ∧ ∃ t, t < 4 ∧ x = nI t ∧ S.1 (2 + 2 * t) 1 = 0 ∧ S.1 118 t = -1) ∨
  (c = 3 ∧ ∃ t n, t < 4 ∧ n ≤ 60 ∧ x = nI t ∧ S.1 (2 + 2 * t) 1 = 1 ∧ S.1 (2 + 2 * t) 3 = nI n ∧ S.1 118 t = nI n ∧ ¬ (0 ≤ y ∧ y < nI n)) ∨
  (c = 0 ∧ ∃ t n j, t < 4 ∧ n ≤ 60 ∧ j < n ∧ x = nI t ∧ S.1 (2 + 2 * t) 1 = 1 ∧ S.1 (2 + 2 * t) 3 = nI n ∧ S.1 118 t = nI n ∧ y = nI j)
theorem cell_ex {S : aw_S} (h : trR S.1 S.2.1) (x y : Int32) : ∃ c, CellC S x y c := by
  by_cases c1 : 0 ≤ x ∧ x ≤ 3
  · obtain ⟨t, ht, ex⟩ := le_ge (n := 3) (by decide) c1
    rcases h t (by omega) with ⟨h1, h2⟩ | ⟨h1, n, k, h2, h3, h4, h5, h6, h7, h8⟩
    · exact ⟨2, Or.inr (Or.inl ⟨rfl, t, by omega, ex, h1, h2⟩)⟩
    · by_cases c2 : 0 ≤ y ∧ y < nI n
      · obtain ⟨j, hj, ey⟩ := nI_of (Int32.not_lt.mpr c2.1)
        subst ey
        exact ⟨0, Or.inr (Or.inr (Or.inr ⟨rfl, t, n, j, by omega, h2, (nI_ltI hj (by omega)).mp c2.2, ex, h1, h4, h5, rfl⟩))⟩
      · exact ⟨3, Or.inr (Or.inr (Or.inl ⟨rfl, t, n, by omega, h2, ex, h1, h4, h5, c2⟩))⟩
  · exact ⟨1, Or.inl ⟨rfl, c1⟩⟩
theorem le_pred {y : Int32} {n : Nat} (hn : n ≤ 60) : (0 ≤ y ∧ y ≤ nI n - 1) ↔ (0 ≤ y ∧ y < nI n) := by
  have e : (nI n - 1).toInt = (n : Int) - 1 := pk_sub_toInt (b := 1) (by omega) (by omega)
  have e2 : (nI n).toInt = (n : Int) := nI_toInt (by omega)
  rw [Int32.le_iff_toInt_le, Int32.le_iff_toInt_le, Int32.lt_iff_toInt_lt, e, e2]
  constructor <;> intro h <;> exact ⟨h.1, by omega⟩
theorem sp_Mg_cell {l : Launch} {d : Nat} {S : aw_S} {P : Int32 → aw_S → Prop} {x y c : Int32} (hR : RefsOk S.2.2) (hc : CellC S x y c) (h : P c S) : Sp l m_Mg_cellProblem (d + 3) 0 0 [.ref 0, .int x, .int y] sh0 S (gI sh0 P) := by
  refine e_Mg_cellProblem rfl (sp_isTray ?_)
  rcases hc with ⟨rfl, hc⟩ | ⟨rfl, t, ht, rfl, h1, h2⟩ | ⟨rfl, t, n, ht, hn, rfl, h1, h2, h3, h4⟩ | ⟨rfl, t, n, j, ht, hn, hj, rfl, h1, h2, h3, rfl⟩
  · rw [if_neg hc]
    exact ⟨fun q => absurd rfl q, fun _ => h⟩
  · rw [if_pos ⟨nI_pos' (by omega), nI_le (b := 3) (by omega) (by omega)⟩]
    obtain ⟨g1, g2⟩ := rf_tray hR ht
    obtain ⟨s1, s2⟩ := sh_tray t ht
    exact ⟨fun _ => ⟨1, hR.at (by decide), 4, rfl, vp_in_nI (by omega) (by omega), 2 + 2 * t, by rw [nI_clamp (by omega)]; exact g1, s1, fun q => absurd h1 q, fun _ => h⟩, fun q => absurd q (by decide)⟩
  · rw [if_pos ⟨nI_pos' (by omega), nI_le (b := 3) (by omega) (by omega)⟩]
    obtain ⟨g1, g2⟩ := rf_tray hR ht
    obtain ⟨s1, s2⟩ := sh_tray t ht
    refine ⟨fun _ => ⟨1, hR.at (by decide), 4, rfl, vp_in_nI (by omega) (by omega), 2 + 2 * t, by rw [nI_clamp (by omega)]; exact g1, s1, fun _ => ⟨vp_in_nI (by omega) (by omega), 2 + 2 * t, by rw [nI_clamp (by omega)]; exact g1, s1, sp_isWithin ?_⟩, fun q => absurd (h1.symm.trans q) (by decide)⟩, fun q => absurd q (by decide)⟩
    rw [h2, if_neg (fun q => h4 ((le_pred hn).mp q))]
    exact ⟨fun _ => h, fun q => absurd rfl q⟩
  · rw [if_pos ⟨nI_pos' (by omega), nI_le (b := 3) (by omega) (by omega)⟩]
    obtain ⟨g1, g2⟩ := rf_tray hR ht
    obtain ⟨s1, s2⟩ := sh_tray t ht
    refine ⟨fun _ => ⟨1, hR.at (by decide), 4, rfl, vp_in_nI (by omega) (by omega), 2 + 2 * t, by rw [nI_clamp (by omega)]; exact g1, s1, fun _ => ⟨vp_in_nI (by omega) (by omega), 2 + 2 * t, by rw [nI_clamp (by omega)]; exact g1, s1, sp_isWithin ?_⟩, fun q => absurd (h1.symm.trans q) (by decide)⟩, fun q => absurd q (by decide)⟩
    rw [h2, if_pos ((le_pred hn).mpr ⟨nI_pos' (by omega), nI_lt hj (by omega)⟩)]
    exact ⟨fun q => absurd q (by decide), fun _ => h⟩
theorem sp_Md_wrong {l : Launch} {d : Nat} {S T : aw_S} {P : Int32 → aw_S → Prop} {x y c : Int32} (hR : RefsOk T.2.2) (hT : T.1 118 = S.1 118) (hc : CellC S x y c) (h : P c T) : Sp l m_Md_wrongPlace (d + 2) 0 0 [.ref 114, .int x, .int y] sh0 T (gI sh0 P) := by
  refine e_Md_wrongPlace rfl (sp_mIsTray ?_)
  rcases hc with ⟨rfl, hc⟩ | ⟨rfl, t, ht, rfl, h1, h2⟩ | ⟨rfl, t, n, ht, hn, rfl, h1, h2, h3, h4⟩ | ⟨rfl, t, n, j, ht, hn, hj, rfl, h1, h2, h3, rfl⟩
  · rw [if_neg hc]
    exact ⟨fun q => absurd rfl q, fun _ => h⟩
  · rw [if_pos ⟨nI_pos' (by omega), nI_le (b := 3) (by omega) (by omega)⟩]
    refine ⟨fun _ => ⟨118, hR.at (by decide), 4, rfl, vp_in_nI (by omega) (by omega), ?_⟩, fun q => absurd q (by decide)⟩
    rw [hT, nI_clamp (by omega)]
    exact ⟨fun q => absurd h2 q, fun _ => h⟩
  · rw [if_pos ⟨nI_pos' (by omega), nI_le (b := 3) (by omega) (by omega)⟩]
    refine ⟨fun _ => ⟨118, hR.at (by decide), 4, rfl, vp_in_nI (by omega) (by omega), ?_⟩, fun q => absurd q (by decide)⟩
    rw [hT, nI_clamp (by omega), h3]
    exact ⟨fun _ => ⟨fun _ => h, fun q => ⟨vp_in_nI (by omega) (by omega), fun q2 => absurd ⟨Int32.not_lt.mp q, q2⟩ h4, fun _ => h⟩⟩, fun q => absurd q (nI_ne_m1 (by omega))⟩
  · rw [if_pos ⟨nI_pos' (by omega), nI_le (b := 3) (by omega) (by omega)⟩]
    refine ⟨fun _ => ⟨118, hR.at (by decide), 4, rfl, vp_in_nI (by omega) (by omega), ?_⟩, fun q => absurd q (by decide)⟩
    rw [hT, nI_clamp (by omega), h3]
    exact ⟨fun _ => ⟨fun q => absurd q (nI_pos (by omega)), fun q => ⟨vp_in_nI (by omega) (by omega), fun _ => h, fun q2 => absurd (nI_lt hj (by omega)) q2⟩⟩, fun q => absurd q (nI_ne_m1 (by omega))⟩
theorem c_ne {S : aw_S} {x y c : Int32} (hc : CellC S x y c) (h : ¬ c = 0) : c = 1 ∨ c = 2 ∨ c = 3 := by
  rcases hc with ⟨rfl, -⟩ | ⟨rfl, -⟩ | ⟨rfl, -⟩ | ⟨rfl, -⟩
  · exact Or.inl rfl
  · exact Or.inr (Or.inl rfl)
  · exact Or.inr (Or.inr rfl)
  · exact absurd rfl h
/-- cut: to the sort k -/
def cutL (k : Nat) (v : Int64) : Int64 := if k = 0 then v.toInt32.toInt8.toInt32.toInt64 else if k = 1 then v.toInt32.toInt16.toInt32.toInt64 else if k = 2 then v.toInt32.toInt64 else v
theorem sp_Tr_cut {l : Launch} {d : Nat} {sh : aw_SH} {S : aw_S} {P : Int64 → aw_S → Prop} {a k : Nat} {v : Int64} (sa : sh[a]? = some (0, 1)) (hk : k ≤ 3) (he : S.1 a 2 = nI k) (h : P (cutL k v) S) : Sp l m_Tr_cut (d + 1) 0 0 [.ref a, .long v] sh S (gL sh P) := by
  refine e_Tr_cut sa ?_
  rw [he]
  have hi : (nI k).toInt = (k : Int) := nI_toInt (by omega)
  rw [hi]
  refine ⟨fun q => ?_, fun q => ?_, fun q => ?_, fun q => ?_⟩
  · have e : k = 3 := by omega
    subst e
    exact h
  · have e : k = 0 := (nI_inj (b := 0) (by omega) (by omega)).mp q
    subst e
    exact h
  · have e : k = 1 := (nI_inj (b := 1) (by omega) (by omega)).mp q
    subst e
    exact h
  · have e : k = 2 := (nI_inj (b := 2) (by omega) (by omega)).mp q
    subst e
    exact h
theorem sp_Md_cut {l : Launch} {d : Nat} {sh : aw_SH} {S : aw_S} {P : Int64 → aw_S → Prop} {k : Nat} {v : Int64} (hk : k ≤ 3) (h : P (cutL k v) S) : Sp l m_Md_cut (d + 1) 0 0 [.long v, .int (nI k)] sh S (gL sh P) := by
  refine e_Md_cut ⟨fun q0 => ⟨fun q1 => ⟨fun q2 => ?_, fun q2 => ?_⟩, fun q1 => ?_⟩, fun q0 => ?_⟩
  · have e : k = 3 := by
      have h0 : ¬ k = 0 := fun z => q0 (by subst z; rfl)
      have h1 : ¬ k = 1 := fun z => q1 (by subst z; rfl)
      have h2 : ¬ k = 2 := fun z => q2 (by subst z; rfl)
      omega
    subst e
    exact h
  · have e : k = 2 := (nI_inj (b := 2) (by omega) (by omega)).mp q2
    subst e
    exact h
  · have e : k = 1 := (nI_inj (b := 1) (by omega) (by omega)).mp q1
    subst e
    exact h
  · have e : k = 0 := (nI_inj (b := 0) (by omega) (by omega)).mp q0
    subst e
    exact h
theorem sp_Tr_put {l : Launch} {d : Nat} {S : aw_S} {P : aw_S → Prop} {t k j : Nat} {v : Int64} (hR : RefsOk S.2.2) (ht : t < 4) (hk : k ≤ 3) (hj : j < 60) (he : S.1 (2 + 2 * t) 2 = nI k) (h : P (aw_uL S (3 + 2 * t) j (cutL k v))) : Sp l m_Tr_put (d + 2) 0 0 [.ref (2 + 2 * t), .int (nI j), .long v] sh0 S (gV sh0 P) := by
  obtain ⟨g1, g2⟩ := rf_tray hR ht
  obtain ⟨s1, s2⟩ := sh_tray t ht
  refine e_Tr_put s1 ⟨3 + 2 * t, g2, sp_Tr_cut s1 hk he ⟨60, s2, vp_in_nI hj (by omega), ?_⟩⟩
  rw [nI_clamp (by omega)]
  exact h
theorem ok_read (l : Launch) : Ok_read l 0 114 sh0 Inv := by
  intro S hI x y
  obtain ⟨c, hc⟩ := cell_ex hI.2.2.2.2.2.2.2.1 x y
  refine e_Mg_read rfl (sp_Mg_cell (d := 196) hI.rf hc ⟨fun q => ?_, fun q => ?_⟩)
  · subst q
    rcases id hc with ⟨h0, -⟩ | ⟨h0, -⟩ | ⟨h0, -⟩ | ⟨-, t, n, j, ht, hn, hj, rfl, h1, h2, h3, rfl⟩
    · exact absurd h0 (by decide)
    · exact absurd h0 (by decide)
    · exact absurd h0 (by decide)
    · obtain ⟨g1, g2⟩ := rf_tray hI.rf ht
      obtain ⟨s1, s2⟩ := sh_tray t ht
      refine ⟨1, hI.rf.at (by decide), 4, rfl, vp_in_nI (by omega) (by omega), 2 + 2 * t, by rw [nI_clamp (by omega)]; exact g1, s1, 3 + 2 * t, g2, 60, s2, vp_in_nI (by omega) (by omega), ?_⟩
      refine e_Md_read rfl (sp_Md_wrong (d := 197) (S := S) hI.rf (uI_ne _ _ _ (by decide)) hc ⟨fun _ => ⟨119, hI.rf.at (by decide), 240, rfl, ?_, ?_, hI.st rfl⟩, fun q => absurd ?_ q⟩)
      · rw [n60]; exact vp_in_nI (by omega) (by omega)
      · rw [n60, nI_clamp (by omega), nI_clamp (by omega)]
        rcases hI.2.2.2.2.2.2.2.1 t ht with ⟨k1, -⟩ | ⟨k1, n', k, k2, k3, k4, k5, k6, k7, k8⟩
        · exact absurd (k1.symm.trans h1) (by decide)
        · have en : n' = n := (nI_inj (by omega) (by omega)).mp (k4.symm.trans h2)
          subst en
          exact k8 j hj
      · rw [uI_at, if_pos rfl, if_pos rfl]
        exact Int32.le_refl 0
  · refine e_Mg_fail rfl (e_Md_read rfl (sp_Md_wrong (d := 197) (S := S) hI.rf (uI_ne _ _ _ (by decide)) hc ⟨fun z => ?_, fun _ => ⟨rfl, hI.st rfl⟩⟩))
    rw [uI_at, if_pos rfl, if_pos rfl] at z
    rcases c_ne hc q with rfl | rfl | rfl <;> exact absurd z (by decide)
theorem ok_write (l : Launch) : Ok_write l 0 114 sh0 Inv := by
  intro S hI x y v
  have htr := hI.2.2.2.2.2.2.2.1
  obtain ⟨c, hc⟩ := cell_ex htr x y
  refine e_Mg_write rfl (sp_Mg_cell (d := 196) hI.rf hc ⟨fun q => ?_, fun q => ?_⟩)
  · subst q
    rcases id hc with ⟨h0, -⟩ | ⟨h0, -⟩ | ⟨h0, -⟩ | ⟨-, t, n, j, ht, hn, hj, rfl, h1, h2, h3, rfl⟩
    · exact absurd h0 (by decide)
    · exact absurd h0 (by decide)
    · exact absurd h0 (by decide)
    · obtain ⟨g1, g2⟩ := rf_tray hI.rf ht
      obtain ⟨s1, s2⟩ := sh_tray t ht
      rcases htr t ht with ⟨k1, -⟩ | ⟨k1, n', k, k2, k3, k4, k5, k6, k7, k8⟩
      · exact absurd (k1.symm.trans h1) (by decide)
      · have en : n' = n := (nI_inj (by omega) (by omega)).mp (k4.symm.trans h2)
        subst en
        refine ⟨1, hI.rf.at (by decide), 4, rfl, vp_in_nI (by omega) (by omega), 2 + 2 * t, by rw [nI_clamp (by omega)]; exact g1, s1, sp_Tr_put hI.rf ht k3 (by omega) k6 (e_Mg_grant rfl ⟨Or.inr rfl, ?_⟩)⟩
        refine e_Md_write rfl (sp_Md_wrong (d := 197) (S := S) hI.rf (uI_ne _ _ _ (by decide)) hc ⟨fun q => absurd rfl q, fun _ => ⟨119, hI.rf.at (by decide), 117, hI.rf.at (by decide), 4, rfl, vp_in_nI (by omega) (by omega), ?_⟩⟩)
        rw [nI_clamp (by omega), uI_ne _ _ _ (by decide), uL_I, k7]
        refine sp_Md_cut k3 ⟨240, rfl, ?_, sp_is0 ⟨Or.inr rfl, rfl, ?_⟩⟩
        · rw [n60]; exact vp_in_nI (by omega) (by omega)
        · rw [n60, nI_clamp (by omega)]
          refine hI.upTr ?_ ?_ ?_ ?_ rfl ?_ ?_
          · intro i hi
            simp only [uI_at, uL_I]
            simp [hi]
          · intro i hi
            simp only [uI_at, uL_I]
            simp [hi]
          · rw [uI_L, uL_ne _ _ _ (by omega), uI_L, uL_ne _ _ _ (by omega)]
          · intro k h1 h2 h3 h4
            rw [uI_ne _ _ _ (by omega), uL_I, uI_ne _ _ _ (by omega), uL_I, uI_L, uL_ne _ _ _ (by omega), uI_L, uL_ne _ _ _ (by omega)]
            exact ⟨rfl, rfl⟩
          · intro u hu
            have hold := htr u hu
            rw [uI_ne _ _ _ (by omega), uL_I, uI_ne _ _ _ (by omega), uL_I, uI_ne _ _ _ (by omega), uL_I, uI_ne _ _ _ (by omega), uL_I, uI_ne _ _ _ (by omega), uL_I, uI_ne _ _ _ (by omega), uL_I]
            simp only [uI_L, uL_at]
            rcases hold with h | ⟨h1, n, k, h2, h3, h4, h5, h6, h7, h8⟩
            · exact Or.inl h
            · refine Or.inr ⟨h1, n, k, h2, h3, h4, h5, h6, h7, fun i hi => ?_⟩
              rw [if_neg (by omega), if_pos trivial]
              by_cases e : u = t
              · subst e
                rw [if_pos rfl]
                by_cases e2 : i = j
                · subst e2
                  rw [if_pos rfl, if_pos rfl]
                · rw [if_neg e2, if_neg (by omega), if_neg (by omega)]
                  exact h8 i hi
              · rw [if_neg (by omega), if_neg (by omega), if_neg (by omega)]
                exact h8 i hi
          · simp only [uI_at, uL_I]
            simp
  · refine e_Mg_refuse rfl ⟨Or.inl rfl, e_Md_write rfl (sp_Md_wrong (d := 197) (S := S) hI.rf (uI_ne _ _ _ (by decide)) hc ⟨fun _ => sp_is1 q ⟨Or.inl rfl, rfl, hI.st rfl⟩, fun z => absurd z q⟩)⟩
