theorem n60b (t k i : Nat) : (60 : Int32) * nI t + nI k + nI i = nI (60 * t + k + i) := by rw [n60, nI_add]
theorem sp_Md_pour {l : Launch} {d : Nat} {S T : aw_S} {P : Int32 → aw_S → Prop} {x y z w v c : Int32} (hR : RefsOk T.2.2) (hT1 : T.1 118 = S.1 118) (hT2 : T.1 117 = S.1 117) (htr : trR S.1 S.2.1) (hc : PourC S x y z w v c) (h1 : ¬ c = 0 → P 0 (aw_uI T 114 2 c)) (h2 : ∀ t u p q m, t < 4 → u < 4 → p + m ≤ 60 → q + m ≤ 60 → x = nI t → z = nI u → y = nI p → w = nI q → v = nI m → c = 0 → P 1 (aw_uI (aw_wL T 119 (va_cpy (T.2.1 119) (T.2.1 119) (60 * t + p) (60 * u + q) m)) 114 2 0)) : Sp l m_Md_pour (d + 3) 0 0 [.ref 114, .int x, .int y, .int z, .int w, .int v] sh0 T (gI sh0 P) := by
  have bad : ¬ c = 0 → Sp l m_Md_is (d + 2) 0 0 [.ref 114, .int c] sh0 T (gI sh0 (fun r S' => ((r = 0 ∨ r = 1) ∧ P r S'))) := fun q => sp_is1 q ⟨Or.inl rfl, h1 q⟩
  refine e_Md_pour rfl (sp_mIsTray ?_)
  rcases hc with ⟨rfl, hc⟩ | ⟨t, u, p, q, m, ht, hu, hp, hq, hm, ex, ez, ey, ew, ev, hc⟩
  · by_cases c1 : 0 ≤ x ∧ x ≤ 3
    · rw [if_pos c1]
      refine ⟨fun q => absurd q (by decide), fun _ => sp_mIsTray ?_⟩
      by_cases c2 : 0 ≤ z ∧ z ≤ 3
      · rw [if_pos c2]
        exact ⟨fun q => absurd q (by decide), fun _ => ⟨fun _ => bad (by decide), fun a1 => ⟨fun _ => bad (by decide), fun a2 => ⟨fun a3 => absurd ⟨c1, c2, Int32.not_lt.mp a1, Int32.not_lt.mp a2, a3⟩ hc, fun _ => bad (by decide)⟩⟩⟩⟩
      · rw [if_neg c2]
        exact ⟨fun _ => bad (by decide), fun q => absurd rfl q⟩
    · rw [if_neg c1]
      exact ⟨fun _ => bad (by decide), fun q => absurd rfl q⟩
  · have hp2 := fun e1 e2 e3 => h2 t u p q m ht hu e1 e2 ex ez ey ew ev e3
    subst ex; subst ez; subst ey; subst ew; subst ev
    have n1 : ∀ i : Nat, i < 4 → 0 ≤ nI i ∧ nI i ≤ 3 := fun i hi => ⟨nI_pos' (by omega), nI_le (b := 3) (by omega) (by omega)⟩
    have n2 : ∀ i : Nat, i < 2 ^ 31 → ¬ nI i < 0 := fun i hi => nI_pos hi
    have v1 : ∀ i : Nat, i < 4 → vp_in (nI i) 4 := fun i hi => vp_in_nI hi (by omega)
    rw [if_pos (n1 t ht)]
    refine ⟨fun q => absurd q (by decide), fun _ => sp_mIsTray ?_⟩
    rw [if_pos (n1 u hu)]
    refine ⟨fun q => absurd q (by decide), fun _ => ⟨fun a => absurd a (n2 p hp), fun _ => ⟨fun a => absurd a (n2 q hq), fun _ => ⟨fun _ => ⟨118, hR.at (by decide), 4, rfl, v1 t ht, ?_⟩, fun a => absurd (nI_pos' hm) a⟩⟩⟩⟩
    rw [nI_clamp (show t < 2 ^ 31 by omega), nI_clamp (show u < 2 ^ 31 by omega), hT1]
    rcases htr t ht with ⟨a1, a2⟩ | ⟨a1, n, k, a2, a3, a4, a5, a6, a7, a8⟩
    · rcases hc with ⟨rfl, hc⟩ | ⟨t1, -⟩
      · exact ⟨fun _ => bad (by decide), fun z => absurd a2 z⟩
      · exact absurd (a1.symm.trans t1) (by decide)
    · rw [a5]
      refine ⟨fun z => absurd z (nI_ne_m1 (by omega)), fun _ => ⟨v1 u hu, ?_⟩⟩
      rcases htr u hu with ⟨b1, b2⟩ | ⟨b1, n', k', b2, b3, b4, b5, b6, b7, b8⟩
      · rcases hc with ⟨rfl, hc⟩ | ⟨t1, u1, -⟩
        · exact ⟨fun z => absurd b2 z, fun _ => bad (by decide)⟩
        · exact absurd (b1.symm.trans u1) (by decide)
      · rw [b5]
        refine ⟨fun _ => ⟨117, hR.at (by decide), 4, rfl, v1 t ht, v1 u hu, ?_⟩, fun z => absurd z (nI_ne_m1 (by omega))⟩
        rw [hT2, a7, b7]
        rcases hc with ⟨rfl, hc⟩ | ⟨t1, u1, m1, m2, k1, k2, hm1, hm2, hk1, hk2, e1, e2, e3, e4, hc⟩
        · rcases hc with hc | hc
          · exact absurd (a1.symm.trans hc) (by decide)
          · exact absurd (b1.symm.trans hc) (by decide)
        · have f1 : m1 = n := (nI_inj (by omega) (by omega)).mp (e1.symm.trans a4)
          have f2 : m2 = n' := (nI_inj (by omega) (by omega)).mp (e2.symm.trans b4)
          have f3 : k1 = k := (nI_inj (by omega) (by omega)).mp (e3.symm.trans a6)
          have f4 : k2 = k' := (nI_inj (by omega) (by omega)).mp (e4.symm.trans b6)
          subst f1; subst f2; subst f3; subst f4
          rcases hc with ⟨rfl, hc⟩ | ⟨rfl, rfl, hc⟩ | ⟨rfl, rfl, hc, hc'⟩
          · exact ⟨fun a => absurd ((nI_inj (by omega) (by omega)).mp a) hc, fun _ => bad (by decide)⟩
          · refine ⟨fun _ => ⟨v1 t ht, fun _ => bad (by decide), fun a => ⟨v1 u hu, fun b => absurd ⟨?_, ?_⟩ hc, fun _ => bad (by decide)⟩⟩, fun a => absurd rfl a⟩
            · exact Classical.byContradiction fun z => a ((room_iff hm1 hp hm).mpr z)
            · exact Classical.byContradiction fun z => absurd b (Int32.not_le.mpr ((room_iff hm2 hq hm).mpr z))
          · refine ⟨fun _ => ⟨v1 t ht, fun a => absurd hc ((room_iff hm1 hp hm).mp a), fun a => ⟨v1 u hu, fun b => ?_, fun b => absurd hc' ((room_iff hm2 hq hm).mp (Int32.not_le.mp b))⟩⟩, fun a => absurd rfl a⟩
            have hpm : p + m ≤ 60 := by omega
            have hqm : q + m ≤ 60 := by omega
            have hfin := hp2 hpm hqm rfl
            have hR7 : T.2.2 114 7 = some 119 := hR.at (by decide)
            by_cases hqp : q ≤ p
            · have key : ∀ j i, i + j = m → AW l m_Md_pour (d + 2 + 1) 0 0 (gI sh0 P) 0 0 118 [.ref 114, .int (nI t), .int (nI p), .int (nI u), .int (nI q), .int (nI m), .int (nI i), .null] [] sh0 (aw_wL T 119 (va_cpy (T.2.1 119) (T.2.1 119) (60 * t + p) (60 * u + q) i)) := by
                intro j
                induction j with
                | zero =>
                  intro i hi
                  have hi : i = m := hi
                  subst hi
                  exact s_Md_pour_118 rfl ⟨fun _ => sp_is0 ⟨Or.inr rfl, hfin⟩, fun z => absurd (nI_le (Nat.le_refl _) (by omega)) z⟩
                | succ j ih =>
                  intro i hi
                  have e := ih (i + 1) (by omega)
                  refine s_Md_pour_118 rfl ⟨fun z => absurd z (nI_ge (by omega) (by omega)), fun _ => ⟨fun _ => ⟨119, hR7, 240, rfl, ?_, ?_, ?_⟩, fun z => absurd (nI_le hqp (by omega)) z⟩⟩
                  · rw [n60b]; exact vp_in_nI (by omega) (by omega)
                  · rw [n60b]; exact vp_in_nI (by omega) (by omega)
                  · rw [n60b, n60b, nI_clamp (by omega), nI_clamp (by omega), nI_1, uL_w, wL_wL, wL_self]
                    have ef : vp_updL (va_cpy (T.2.1 119) (T.2.1 119) (60 * t + p) (60 * u + q) i) (60 * u + q + i) (va_cpy (T.2.1 119) (T.2.1 119) (60 * t + p) (60 * u + q) i (60 * t + p + i)) = va_cpy (T.2.1 119) (T.2.1 119) (60 * t + p) (60 * u + q) (i + 1) := by
                      funext a
                      rw [pk_cpy_out (j := 60 * t + p + i) (by omega)]
                      unfold vp_updL
                      by_cases g1 : a = 60 * u + q + i
                      · rw [if_pos g1, pk_cpy_in (by omega) (by omega)]
                        exact congrArg _ (by omega)
                      · rw [if_neg g1]
                        by_cases g2 : 60 * u + q ≤ a ∧ a < 60 * u + q + i
                        · rw [pk_cpy_in (by omega) (by omega), pk_cpy_in (by omega) (by omega)]
                        · rw [pk_cpy_out (by omega), pk_cpy_out (by omega)]
                    rw [ef]
                    exact e
              have k0 := key m 0 (by omega)
              have e0 : va_cpy (T.2.1 119) (T.2.1 119) (60 * t + p) (60 * u + q) 0 = T.2.1 119 := by
                funext a
                exact pk_cpy_out (by omega)
              rw [e0, wL_id] at k0
              exact k0
            · have key : ∀ j i, i + j = m → AW l m_Md_pour (d + 2 + 1) 0 0 (gI sh0 P) 0 0 118 [.ref 114, .int (nI t), .int (nI p), .int (nI u), .int (nI q), .int (nI m), .int (nI i), .null] [] sh0 (aw_wL T 119 (va_cpy (T.2.1 119) (T.2.1 119) (60 * t + p + (m - i)) (60 * u + q + (m - i)) i)) := by
                intro j
                induction j with
                | zero =>
                  intro i hi
                  have hi : i = m := hi
                  subst hi
                  rw [Nat.sub_self]
                  exact s_Md_pour_118 rfl ⟨fun _ => sp_is0 ⟨Or.inr rfl, hfin⟩, fun z => absurd (nI_le (Nat.le_refl _) (by omega)) z⟩
                | succ j ih =>
                  intro i hi
                  have e := ih (i + 1) (by omega)
                  have es : nI m - 1 - nI i = nI (m - 1 - i) := by
                    rw [show (1 : Int32) = nI 1 from rfl, pk_sub (by omega), pk_sub (by omega)]
                  refine s_Md_pour_118 rfl ⟨fun z => absurd z (nI_ge (by omega) (by omega)), fun _ => ⟨fun z => absurd z (nI_ge (by omega) (by omega)), fun _ => ⟨119, hR7, 240, rfl, ?_, ?_, ?_⟩⟩⟩
                  · rw [es, n60b]; exact vp_in_nI (by omega) (by omega)
                  · rw [es, n60b]; exact vp_in_nI (by omega) (by omega)
                  · rw [es, n60b, n60b, nI_clamp (by omega), nI_clamp (by omega), nI_1, uL_w, wL_wL, wL_self]
                    have ef : vp_updL (va_cpy (T.2.1 119) (T.2.1 119) (60 * t + p + (m - i)) (60 * u + q + (m - i)) i) (60 * u + q + (m - 1 - i)) (va_cpy (T.2.1 119) (T.2.1 119) (60 * t + p + (m - i)) (60 * u + q + (m - i)) i (60 * t + p + (m - 1 - i))) = va_cpy (T.2.1 119) (T.2.1 119) (60 * t + p + (m - (i + 1))) (60 * u + q + (m - (i + 1))) (i + 1) := by
                      funext a
                      rw [pk_cpy_out (j := 60 * t + p + (m - 1 - i)) (by omega)]
                      unfold vp_updL
                      by_cases g1 : a = 60 * u + q + (m - 1 - i)
                      · rw [if_pos g1, pk_cpy_in (by omega) (by omega)]
                        exact congrArg _ (by omega)
                      · rw [if_neg g1]
                        by_cases g2 : 60 * u + q + (m - i) ≤ a ∧ a < 60 * u + q + (m - i) + i
                        · rw [pk_cpy_in (by omega) (by omega), pk_cpy_in (by omega) (by omega)]
                          exact congrArg _ (by omega)
                        · rw [pk_cpy_out (by omega), pk_cpy_out (by omega)]
                    rw [ef]
                    exact e
              have k0 := key m 0 (by omega)
              have e0 : va_cpy (T.2.1 119) (T.2.1 119) (60 * t + p + (m - 0)) (60 * u + q + (m - 0)) 0 = T.2.1 119 := by
                funext a
                exact pk_cpy_out (by omega)
              rw [e0, wL_id] at k0
              exact k0
theorem ok_pour (l : Launch) : Ok_pour l 0 114 sh0 Inv := by
  intro S hI x y z w v
  have htr := hI.2.2.2.2.2.2.2.1
  obtain ⟨c, hc⟩ := pour_ex htr x y z w v
  have hb : ∀ t, t < 4 → S.1 (2 + 2 * t) 1 = 0 ∨ S.1 (2 + 2 * t) 1 = 1 := fun t ht => by
    rcases htr t ht with ⟨h, -⟩ | ⟨h, -⟩
    · exact Or.inl h
    · exact Or.inr h
  refine sp_Mg_pour (d := 197) hI.rf hc hb (fun hn => ?_) (fun t u p q m ht hu hpm hqm ex ez ey ew ev e0 => ?_)
  · refine sp_Md_pour (d := 197) (S := S) hI.rf (uI_ne _ _ _ (by decide)) (uI_ne _ _ _ (by decide)) htr hc (fun _ => ⟨rfl, hI.st rfl⟩) (fun _ _ _ _ _ _ _ _ _ _ _ _ _ _ e => absurd e hn)
  · refine sp_Md_pour (d := 197) (S := S) hI.rf (by rw [uI_ne _ _ _ (by decide)]; rfl) (by rw [uI_ne _ _ _ (by decide)]; rfl) htr hc (fun hn => absurd e0 hn) (fun t' u' p' q' m' ht' hu' _ _ ex' ez' ey' ew' ev' _ => ?_)
    have f1 : t' = t := (nI_inj (by omega) (by omega)).mp (ex'.symm.trans ex)
    have f2 : u' = u := (nI_inj (by omega) (by omega)).mp (ez'.symm.trans ez)
    have f3 : p' = p := (nI_inj (by omega) (by omega)).mp (ey'.symm.trans ey)
    have f4 : q' = q := (nI_inj (by omega) (by omega)).mp (ew'.symm.trans ew)
    have f5 : m' = m := (nI_inj (by omega) (by omega)).mp (ev'.symm.trans ev)
    subst f1; subst f2; subst f3; subst f4; subst f5
    -- what is poured fits
    have hfit : ∃ n n' : Nat, n ≤ 60 ∧ n' ≤ 60 ∧ S.1 (2 + 2 * t') 1 = 1 ∧ S.1 (2 + 2 * u') 1 = 1 ∧ S.1 (2 + 2 * t') 3 = nI n ∧ S.1 (2 + 2 * u') 3 = nI n' ∧ p' + m' ≤ n ∧ q' + m' ≤ n' := by
      rcases hc with ⟨h0, -⟩ | ⟨t2, u2, p2, q2, m2, a1, a2, a3, a4, a5, b1, b2, b3, b4, b5, hc⟩
      · exact absurd (e0.symm.trans h0) (by decide)
      · have g1 : t2 = t' := (nI_inj (by omega) (by omega)).mp (b1.symm.trans ex)
        have g2 : u2 = u' := (nI_inj (by omega) (by omega)).mp (b2.symm.trans ez)
        have g3 : p2 = p' := (nI_inj (by omega) (by omega)).mp (b3.symm.trans ey)
        have g4 : q2 = q' := (nI_inj (by omega) (by omega)).mp (b4.symm.trans ew)
        have g5 : m2 = m' := (nI_inj (by omega) (by omega)).mp (b5.symm.trans ev)
        subst g1; subst g2; subst g3; subst g4; subst g5
        rcases hc with ⟨h0, -⟩ | ⟨t1, u1, n, n', k, k', hn, hn', -, -, e1, e2, -, -, hc⟩
        · exact absurd (e0.symm.trans h0) (by decide)
        · rcases hc with ⟨h0, -⟩ | ⟨h0, -⟩ | ⟨-, -, c1, c2⟩
          · exact absurd (e0.symm.trans h0) (by decide)
          · exact absurd (e0.symm.trans h0) (by decide)
          · exact ⟨n, n', hn, hn', t1, u1, e1, e2, c1, c2⟩
    obtain ⟨nT, nU, hnT, hnU, tT, tU, eT, eU, r1, r2⟩ := hfit
    refine ⟨rfl, hI.upTr ?_ ?_ ?_ ?_ rfl ?_ ?_⟩
    · intro i hi
      simp only [uI_at, wL_I, pourL]
      simp [hi]
    · intro i hi
      simp only [uI_at, wL_I, pourL]
      simp [hi]
    · rw [uI_L, wL_ne _ _ (by omega), uI_L, pourL, wL_ne _ _ (by omega)]
    · intro k h1 h2 h3 h4
      rw [uI_ne _ _ _ (by omega), wL_I, uI_ne _ _ _ (by omega), pourL, wL_I, uI_L, wL_ne _ _ (by omega), uI_L, wL_ne _ _ (by omega)]
      exact ⟨rfl, rfl⟩
    · intro a ha
      have hold := htr a ha
      have e1 : (aw_uI (aw_wL (aw_uI (pourL S t' p' u' q' m') 0 3 0) 119 (va_cpy ((aw_uI (pourL S t' p' u' q' m') 0 3 0).2.1 119) ((aw_uI (pourL S t' p' u' q' m') 0 3 0).2.1 119) (60 * t' + p') (60 * u' + q') m')) 114 2 0).2.1 = (aw_wL (pourL S t' p' u' q' m') 119 (va_cpy (S.2.1 119) (S.2.1 119) (60 * t' + p') (60 * u' + q') m')).2.1 := by
        rw [uI_L]
        have : (pourL S t' p' u' q' m').2.1 119 = S.2.1 119 := by rw [pourL, wL_ne _ _ (by omega)]
        unfold aw_wL
        rw [uI_L, this]
      rw [e1, uI_ne _ _ _ (by omega), wL_I, uI_ne _ _ _ (by omega), pourL, wL_I, uI_ne _ _ _ (by omega), wL_I, uI_ne _ _ _ (by omega), wL_I, uI_ne _ _ _ (by omega), wL_I, uI_ne _ _ _ (by omega), wL_I]
      rw [wL_self, wL_ne _ _ (by omega)]
      rcases hold with h | ⟨h1, n, k, h2, h3, h4, h5, h6, h7, h8⟩
      · exact Or.inl h
      · refine Or.inr ⟨h1, n, k, h2, h3, h4, h5, h6, h7, fun i hi => ?_⟩
        by_cases ea : a = u'
        · subst ea
          rw [wL_self]
          have en : n = nU := (nI_inj (by omega) (by omega)).mp (h4.symm.trans eU)
          subst en
          by_cases g : q' ≤ i ∧ i < q' + m'
          · rw [pk_cpy_in g.1 g.2, pk_cpy_in (by omega) (by omega)]
            rcases htr t' ht' with ⟨z, -⟩ | ⟨z1, n2, k2, z2, z3, z4, z5, z6, z7, z8⟩
            · exact absurd (z.symm.trans tT) (by decide)
            · have en2 : n2 = nT := (nI_inj (by omega) (by omega)).mp (z4.symm.trans eT)
              subst en2
              rw [z8 (p' + (i - q')) (by omega)]
              exact congrArg _ (by omega)
          · rw [pk_cpy_out (by omega), pk_cpy_out (by omega)]
            exact h8 i hi
        · rw [wL_ne _ _ (by omega), pk_cpy_out (by omega)]
          exact h8 i hi
    · simp only [uI_at, wL_I, pourL]
      simp
