/-! copyShows -/
theorem ok_copyShows (l : Launch) : Ok_copyShows l 0 114 sh0 Inv := by
  intro S hI x
  obtain ⟨a, b, g, N⟩ := hI.now
  have hS := N.S hI.rf
  have hM := MdS.mk0 hI.rf
  have hab := N.ab
  obtain ⟨n1, n2, n3, n4, n5, n6, n7, n8, n9, n10⟩ := id N
  have hn : g.n ≤ 7 := n4.1
  have hgp := gp_le g.n
  have htr := hI.2.2.2.2.2.2.2.1
  refine e_Mg_copyShows rfl (sp_isTray (d := 197) ?_)
  by_cases c1 : 0 ≤ x ∧ x ≤ 3
  · rw [if_pos c1]
    obtain ⟨t, ht, rfl⟩ := le_ge (n := 3) (by decide) c1
    obtain ⟨g1, g2⟩ := rf_tray hI.rf (show t < 4 by omega)
    obtain ⟨s1, s2⟩ := sh_tray t (by omega)
    refine ⟨fun _ => ⟨1, hI.rf.at (by decide), 4, rfl, vp_in_nI (by omega) (by omega), 2 + 2 * t, by rw [nI_clamp (by omega)]; exact g1, s1, ?_⟩, fun q => absurd q (by decide)⟩
    have mt : ∀ {T : aw_S} {X : Int32 → aw_S → Prop}, X 1 T → Sp l m_Md_isTray 199 0 0 [.int (nI t)] sh0 T (gI sh0 X) := fun h => sp_mIsTray (d := 198) (by rw [if_pos c1]; exact h)
    rcases htr t (by omega) with ⟨h1, h2⟩ | ⟨h1, n, k, h2, h3, h4, h5, h6, h7, h8⟩
    · refine ⟨fun q => absurd h1 q, fun _ => e_Mg_fail rfl (e_Md_copyShows rfl (mt ⟨fun _ => ⟨118, hI.rf.at (by decide), 4, rfl, vp_in_nI (by omega) (by omega), ?_⟩, fun q => absurd q (by decide)⟩))⟩
      rw [nI_clamp (by omega), uI_ne _ _ _ (by omega), h2]
      exact ⟨fun q => absurd rfl q, fun _ => e_Md_refuse rfl ⟨rfl, hI.st rfl⟩⟩
    · refine ⟨fun _ => ⟨a, n1, hS.sa, sp_Gr_gaps (d := 198) hS.sa hn n6.1 ?_⟩, fun q => absurd (h1.symm.trans q) (by decide)⟩
      rw [h4]
      refine ⟨fun q => ?_, fun q => e_Mg_fail rfl (e_Md_copyShows rfl (mt ⟨fun _ => ⟨118, hI.rf.at (by decide), 4, rfl, vp_in_nI (by omega) (by omega), ?_⟩, fun q => absurd q (by decide)⟩))⟩
      · have hle : gpN g.n ≤ n := (nI_leI (by omega) (by omega)).mp q
        -- the reference, behind the class
        have ref : ∀ S1, FrL (fun c _ => c = 3 + 2 * t) S S1 → (∀ y, y < gpN g.n → S1.2.1 (3 + 2 * t) y = cutL k (lN (shN g y))) → (∀ y, gpN g.n ≤ y → S1.2.1 (3 + 2 * t) y = S.2.1 (3 + 2 * t) y) → Sp l m_Md_copyShows 200 0 0 [.ref 114, .int (nI t)] sh0 (aw_uI S1 0 3 0) (gI sh0 (fun y S2 => nI (gpN g.n) = y ∧ Inv S2)) := by
          intro S1 F1 V1 V2
          have M1 : MdG (aw_uI S1 0 3 0).1 0 g := n7.fr n4.1 n4.2.2.2.2.1 (fun j _ => by rw [uI_ne _ _ _ (by omega), F1.2.1])
          have hR1 : (aw_uI S1 0 3 0).2.2 = S.2.2 := F1.2.2
          have rr : RefsOk (aw_uI S1 0 3 0).2.2 := by rw [hR1]; exact hI.rf
          have hM1 : MdS sh0 (aw_uI S1 0 3 0).2.2 := MdS.mk0 rr
          refine e_Md_copyShows rfl (mt ⟨fun _ => ⟨118, rr.at (by decide), 4, rfl, vp_in_nI (by omega) (by omega), ?_⟩, fun q => absurd q (by decide)⟩)
          rw [nI_clamp (by omega), uI_ne _ _ _ (by omega), F1.2.1, h5]
          refine ⟨fun _ => ⟨vp_in_nI (by omega) (by omega), sp_Md_gapsOf (s := 0) (d := 198) hM1 (by omega) hn M1.1 ⟨fun _ => ?_, fun z => absurd q z⟩⟩, fun q => absurd q (nI_ne_m1 (by omega))⟩
          have key : ∀ j y S', y + j = gpN g.n → FrL (fun c _ => c = 119) (aw_uI S1 0 3 0) S' → (∀ i, S'.2.1 119 i = if 60 * t ≤ i ∧ i < 60 * t + y then cutL k (lN (shN g (i - 60 * t))) else S.2.1 119 i) → AW l m_Md_copyShows 200 0 0 (gI sh0 (fun y S2 => nI (gpN g.n) = y ∧ Inv S2)) 0 0 51 [.ref 114, .int (nI t), .int (nI y)] [] sh0 S' := by
            intro j
            induction j with
            | zero =>
              intro y S' hy F V
              have hy : y = gpN g.n := hy
              subst hy
              have hM2 : MdS sh0 S'.2.2 := by rw [F.2.2]; exact hM1
              have M2 : S'.1 115 0 = nI g.n := by rw [F.2.1]; exact M1.1
              refine s_Md_copyShows_51 rfl (sp_Md_gapsOf (s := 0) (d := 198) hM2 (by omega) hn M2 ⟨fun _ => sp_Md_gapsOf (s := 0) (d := 198) hM2 (by omega) hn M2 (e_Md_gives rfl ⟨rfl, ?_⟩), fun q => absurd (nI_le (Nat.le_refl _) (by omega)) q⟩)
              refine hI.upTr ?_ ?_ ?_ ?_ ?_ ?_ ?_
              · intro i hi
                rw [uI_ne _ _ _ (by omega), F.2.1, uI_at, if_pos rfl, if_neg hi, F1.2.1]
              · intro i hi
                rw [uI_at, if_pos rfl, if_neg hi, F.2.1, uI_ne _ _ _ (by omega), F1.2.1]
              · funext i
                rw [uI_L, F.1 114 i (by omega), uI_L, F1.1 114 i (by omega)]
              · intro c q1 q2 q3 q4
                refine ⟨?_, ?_⟩
                · rw [uI_ne _ _ _ (by omega), F.2.1, uI_ne _ _ _ (by omega), F1.2.1]
                · funext i
                  rw [uI_L, F.1 c i (by omega), uI_L, F1.1 c i (by omega)]
              · show S'.2.2 = S.2.2
                rw [F.2.2, hR1]
              · intro u hu
                have hold := htr u hu
                have eI : ∀ c, c ≠ 0 → c ≠ 114 → (aw_uI S' 114 2 0).1 c = S.1 c := fun c q1 q2 => by rw [uI_ne _ _ _ q2, F.2.1, uI_ne _ _ _ q1, F1.2.1]
                rw [eI _ (by omega) (by omega), eI _ (by omega) (by omega), eI _ (by omega) (by omega)]
                rcases hold with h | ⟨k1, n', k', k2, k3, k4, k5, k6, k7, k8⟩
                · exact Or.inl h
                · refine Or.inr ⟨k1, n', k', k2, k3, k4, k5, k6, k7, fun i hi => ?_⟩
                  rw [uI_L, V, F.1 (3 + 2 * u) i (by omega), uI_L]
                  by_cases e : u = t
                  · subst e
                    have en : n' = n := (nI_inj (by omega) (by omega)).mp (k4.symm.trans h4)
                    subst en
                    by_cases c : i < gpN g.n
                    · rw [V1 i c, if_pos (by omega), show 60 * u + i - 60 * u = i by omega]
                    · rw [V2 i (by omega), if_neg (by omega)]
                      exact k8 i hi
                  · rw [if_neg (by omega), F1.1 (3 + 2 * u) i (by omega)]
                    exact k8 i hi
              · rw [uI_ne _ _ _ (by omega), F.2.1, uI_at, if_pos rfl, if_pos rfl, uI_at, if_pos rfl, if_pos rfl]
            | succ j ih =>
              intro y S' hy F V
              have hM2 : MdS sh0 S'.2.2 := by rw [F.2.2]; exact hM1
              have rr2 : RefsOk S'.2.2 := by rw [F.2.2]; exact rr
              have M2 : MdG S'.1 0 g := by rw [F.2.1]; exact M1
              have e117 : S'.1 117 t = nI k := by rw [F.2.1, uI_ne _ _ _ (by omega), F1.2.1]; exact h7
              have s6 := sh_le n4 y
              refine s_Md_copyShows_51 rfl (sp_Md_gapsOf (s := 0) (d := 198) hM2 (by omega) hn M2.1 ⟨fun q => absurd q (nI_ge (by omega) (by omega)), fun _ => ⟨119, rr2.at (by decide), sp_Md_showsOf (d := 196) hM2 n4 M2 (by omega) ⟨117, rr2.at (by decide), 4, rfl, vp_in_nI (by omega) (by omega), ?_⟩⟩⟩)
              rw [nI_clamp (by omega), e117, nI_l (by omega)]
              refine sp_Md_cut h3 ⟨240, rfl, ?_, ?_⟩
              · rw [n60]; exact vp_in_nI (by omega) (by omega)
              · rw [n60, nI_clamp (by omega), nI_1]
                refine ih (y + 1) _ (by omega) (F.uL _ rfl) (fun i => ?_)
                rw [uL_at, if_pos rfl]
                by_cases e : i = 60 * t + y
                · rw [if_pos e, if_pos (by omega), show i - 60 * t = y by omega]
                · rw [if_neg e, V i]
                  by_cases e2 : 60 * t ≤ i ∧ i < 60 * t + y
                  · rw [if_pos e2, if_pos (by omega)]
                  · rw [if_neg e2, if_neg (by omega)]
          refine key (gpN g.n) 0 _ (by omega) (FrL.refl _ _) (fun i => ?_)
          rw [if_neg (by omega), uI_L, F1.1 119 i (by omega)]
        have key : ∀ j y S', y + j = gpN g.n → FrL (fun c _ => c = 3 + 2 * t) S S' → (∀ i, i < y → S'.2.1 (3 + 2 * t) i = cutL k (lN (shN g i))) → (∀ i, y ≤ i → S'.2.1 (3 + 2 * t) i = S.2.1 (3 + 2 * t) i) → AW l m_Mg_copyShows 200 0 0 (gI sh0 (fun x S1 => Sp l m_Md_copyShows 200 0 0 [.ref 114, .int (nI t)] sh0 S1 (gI sh0 (fun y S2 => x = y ∧ Inv S2)))) 0 0 58 [.ref 0, .null, .ref (2 + 2 * t), .int (nI (gpN g.n)), .int (nI y)] [] sh0 S' := by
          intro j
          induction j with
          | zero =>
            intro y S' hy F V1 V2
            have hy : y = gpN g.n := hy
            subst hy
            exact s_Mg_copyShows_58 rfl ⟨fun _ => e_Mg_give rfl (ref S' F V1 V2), fun q => absurd (nI_le (Nat.le_refl _) (by omega)) q⟩
          | succ j ih =>
            intro y S' hy F V1 V2
            have hS2 : GrS sh0 S'.2.2 a := by rw [F.2.2]; exact hS
            have G2 : GrG S'.1 a g := by rw [F.2.1]; exact n6
            have s6 := sh_le n4 y
            refine s_Mg_copyShows_58 rfl ⟨fun q => absurd q (nI_ge (by omega) (by omega)), fun _ => ⟨a, by rw [F.2.2]; exact n1, hS.sa, a + 6, hS2.r10, hS.s6, ?_⟩⟩
            rw [G2.2.2.2.1]
            refine sp_colour (d := 197) hS2 n4 G2 (by omega) ⟨s1, ?_⟩
            rw [nI_l (by omega), nI_1]
            refine sp_Tr_put (d := 197) (by rw [F.2.2]; exact hI.rf) (by omega) h3 (by omega) (by rw [F.2.1]; exact h6) ?_
            refine ih (y + 1) _ (by omega) (F.uL _ rfl) (fun i hi => ?_) (fun i hi => ?_)
            · rw [uL_at, if_pos rfl]
              by_cases e : i = y
              · rw [if_pos e, e]
              · rw [if_neg e]
                exact V1 i (by omega)
            · rw [uL_at, if_pos rfl, if_neg (by omega)]
              exact V2 i (by omega)
        exact key (gpN g.n) 0 S (by omega) (FrL.refl _ _) (fun i hi => absurd hi (Nat.not_lt_zero i)) (fun i _ => rfl)
      · rw [nI_clamp (by omega), uI_ne _ _ _ (by omega), h5]
        exact ⟨fun _ => ⟨vp_in_nI (by omega) (by omega), sp_Md_gapsOf (s := 0) (d := 198) hM (by omega) hn (N.m3 3).1 ⟨fun z => absurd z q, fun _ => e_Md_refuse rfl ⟨rfl, hI.st rfl⟩⟩⟩, fun z => absurd z (nI_ne_m1 (by omega))⟩
  · rw [if_neg c1]
    refine ⟨fun q => absurd rfl q, fun _ => e_Mg_fail rfl (e_Md_copyShows rfl (sp_mIsTray (d := 198) ?_))⟩
    rw [if_neg c1]
    exact ⟨fun q => absurd rfl q, fun _ => e_Md_refuse rfl ⟨rfl, hI.st rfl⟩⟩
