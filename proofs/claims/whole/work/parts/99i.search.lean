/-! what is seen: both searches -/
section SE
variable {l : Launch} {d : Nat} {S : aw_S} {g : GM} {n : Nat} {G C : Nat → Nat}
theorem sp_laysRowsSeen {P : aw_S → Prop} {t k : Nat} (ht : t < 4) (hn20 : n ≤ 20) (hk : k ≤ 4) (hR : RefsOk S.2.2) (hb : bdG g) (hr : redN g.n g.f g.m) (hM : MdG S.1 0 g) (hT : SeT S t n (gpN g.n) G C) (h : ∀ U, FrI (fun k j => PlX k j ∨ (k = 114 ∧ j = 39)) S U → XI (okM n G C) g 0 k 0 (fun _ _ => 0) 114 39 134 133 (S.1 132) (S.1 133) U.1 → P U) : Sp l m_Md_laysRowsSeen (d + 1 + 1 + 1 + 1 + 1) 0 0 [.ref 114, .int (nI t), .int (nI n), .int (nI k)] sh0 S (gV sh0 P) := by
  have hn : g.n ≤ 7 := hb.1
  have hm : g.m ≤ 40 := hb.2.2.2.2.1
  have hgp := gp_le g.n
  have e2 : (2 : Int32) * nI (gpN g.n) = nI (2 * gpN g.n) := by rw [show (2 : Int32) = nI 2 from rfl, pk_mul]
  have key : ∀ j y U, y + j = 49 → FrI (fun a i => (a = 114 ∧ i = 39) ∨ a = 134) S U → U.1 114 39 = nI 0 → (∀ i, i < y → U.1 134 i = 0) → AW l m_Md_laysRowsSeen (d + 1 + 1 + 1 + 1 + 1) 0 0 (gV sh0 P) 0 0 8 [.ref 114, .int (nI t), .int (nI n), .int (nI k), .int (nI y), .null] [] sh0 U := by
    intro j
    induction j with
    | zero =>
      intro y U hy F h39 V
      have hy : y = 49 := hy
      subst hy
      have hRU : RefsOk U.2.2 := by rw [F.R]; exact hR
      have MU : MdG U.1 0 g := hM.fr hn hm (fun j _ => F.1 115 _ (by omega))
      have TU : SeT U t n (gpN g.n) G C := ⟨hT.1, fun i hi => by rw [F.L]; exact hT.2 i hi⟩
      have hta : ∀ gap c, gap < gpN g.n → c ≤ 6 → U.1 134 (7 * gap + c) = nI ((fun _ _ => 0 : Nat → Nat → Nat) gap c) := fun gap c hg hc => V _ (by omega)
      refine s_Md_laysRowsSeen_8 rfl ⟨fun _ => ⟨fun q => ⟨132, hRU.at (by decide), 5, rfl, vp_in_nI (n := 0) (by omega) (by omega), ?_⟩, fun q => ?_⟩, fun q => absurd (by decide) q⟩
      · have hk0 : k ≠ 0 := fun z => q (by rw [z]; rfl)
        show Sp l m_Md_levelAt _ 0 0 [.int (nI 0)] sh0 (aw_uI U 132 0 (-1)) _
        refine sp_lvA (lv := 0) (sp_Md_keeps hRU (by unfold lvA; omega) (by unfold lvA; omega) (fun S1 F1 V1 => ?_))
        have hR1 : RefsOk S1.2.2 := by rw [F1.R]; exact hRU
        have f1 : ∀ a i, ¬ ((a = 115 ∧ 2944 ≤ i) ∨ (a = 132 ∧ i = 0)) → S1.1 a i = U.1 a i := fun a i q => by
          rw [F1.1 a i (by unfold lvA; omega), uI_at]
          by_cases e : a = 132
          · rw [if_pos e, if_neg (by omega), e]
          · rw [if_neg e]
        have M1 : MdG S1.1 (lvA 0) g := MU.mv hn hm (fun j hj => by rw [Nat.zero_add, V1 j hj, uI_ne _ _ _ (by omega)])
        have T1 : SeT S1 t n (gpN g.n) G C := ⟨TU.1, fun i hi => by rw [F1.L]; exact TU.2 i hi⟩
        have h1 : S1.1 132 0 = -1 := by rw [F1.1 132 _ (by omega), uI_at, if_pos rfl, if_pos rfl]
        have hrl := rows_le (ok := okM n G C) k g hb hr
        have h14 : 14 ^ k ≤ 14 ^ 4 := Nat.pow_le_pow_right (by decide) hk
        have h14' : (14 : Nat) ^ 4 = 38416 := by decide
        have b20 : (2 : Nat) ^ 20 = 1048576 := by decide
        have ek : k - 1 + 1 = k := by omega
        refine lv_seen (k := k) ht hn20 hk (k - 1) 0 S1 g 0 (fun _ _ => 0) (by omega) hR1 hb hr M1 T1 h1 (by rw [f1 114 39 (by omega)]; exact h39) (by rw [ek]; omega) (fun gap c hg hc => by rw [f1 134 _ (by omega)]; exact hta gap c hg hc) (fun S6 F6 y1 X6 => ?_)
        rw [ek] at X6
        have hR6 : RefsOk S6.2.2 := by rw [F6.R]; exact hR1
        refine s_Md_laysRowsSeen_59 rfl ⟨fun q => absurd q (by decide), fun _ => sp_lvA (lv := 0) (sp_Md_restores hR6 (by unfold lvA; omega) (by unfold lvA; omega) (fun S7 F7 V7 => ⟨132, by rw [F7.R]; exact hR6.at (by decide), 5, rfl, vp_in_nI (n := 0) (by omega) (by omega), vp_in_nI (n := 0) (by omega) (by omega), vp_in_nI (n := 0) (by omega) (by omega), fun v10 hv => ?_⟩))⟩
        have e8 : S7.1 132 0 + 1 = nI (2 * gpN g.n) := by rw [F7.1 132 0 (by omega), y1, Int32.sub_add_cancel]
        have hv : v10 = (aw_uI S7 132 0 (S7.1 132 0 + 1)).1 132 0 := hv
        show Sp l m_Md_gapsOf _ 0 0 _ sh0 (aw_uI S7 132 0 (S7.1 132 0 + 1)) _
        rw [e8] at hv ⊢
        rw [uI_at, if_pos rfl, if_pos rfl] at hv
        subst hv
        have V8 : ∀ j, j < 184 → (aw_uI S7 132 0 (nI (2 * gpN g.n))).1 115 (lvA 0 + j) = S.1 115 j ∧ (aw_uI S7 132 0 (nI (2 * gpN g.n))).1 115 j = S.1 115 j := fun j hj => by
          have a1 : S6.1 115 (lvA 0 + j) = S.1 115 j := by
            rw [F6.1 115 _ (by unfold RvX lvA; omega), V1 j hj, uI_ne _ _ _ (by omega), F.1 115 j (by omega)]
          refine ⟨?_, ?_⟩
          · rw [uI_ne _ _ _ (by omega), F7.1 115 _ (by unfold lvA; omega)]
            exact a1
          · rw [uI_ne _ _ _ (by omega), V7 j hj]
            exact a1
        have F8 : FrI (fun a i => (a = 115 ∧ i < 184) ∨ (a = 132 ∧ i = 0)) S6 (aw_uI S7 132 0 (nI (2 * gpN g.n))) := (F7.mono (fun a i q => Or.inl q)).uI _ (Or.inr ⟨rfl, rfl⟩)
        revert V8 F8
        generalize aw_uI S7 132 0 (nI (2 * gpN g.n)) = V
        intro V8 F8
        have hRV : RefsOk V.2.2 := by rw [F8.R]; exact hR6
        refine sp_Md_gapsOf (s := 0) (MdS.mk0 hRV) (by omega) hn ((V8 0 (by omega)).2.trans hM.1) ?_
        rw [e2]
        refine ⟨fun q => absurd rfl q, fun _ => ?_⟩
        refine s_Md_laysRowsSeen_59 rfl ⟨fun _ => sp_lvA (lv := 0) (sp_Md_restores hRV (by unfold lvA; omega) (by unfold lvA; omega) (fun W F9 V9 => ?_)), fun q => absurd (by decide) q⟩
        have gW : ∀ a i, ¬ (a = 115 ∨ a = 132) → W.1 a i = S6.1 a i := fun a i q => (F9.1 a i (by omega)).trans (F8.1 a i (by omega))
        have g6 : ∀ a i, ¬ ((a = 115 ∧ (i < 184 ∨ 2208 ≤ i)) ∨ (121 ≤ a ∧ a ≤ 141) ∨ (a = 114 ∧ i = 39)) → W.1 a i = S.1 a i := fun a i q => by
          rw [F9.1 a i (by omega), F8.1 a i (by omega), F6.1 a i (by unfold RvX lvA; omega), f1 a i (by omega), F.1 a i (by omega)]
        refine h W ⟨fun a i q => ?_, ?_⟩ ?_
        · by_cases e : a = 115 ∧ i < 184
          · rw [e.1, V9 i e.2]
            exact (V8 i e.2).1
          · exact g6 a i (by unfold PlX at q; omega)
        · rw [F9.2, F8.2, F6.2, F1.2]; exact F.2
        · obtain ⟨a1, a2, a3, a4⟩ := X6
          refine ⟨by rw [gW 114 39 (by omega)]; exact a1, fun gap c hg hc => by rw [gW 134 _ (by omega)]; exact a2 gap c hg hc, fun q j => ?_, fun z1 z2 => ?_⟩
          · rw [gW 133 j (by omega), a3 q j, f1 133 j (by omega), F.1 133 j (by omega)]
          · obtain ⟨p, b1, b2, b3⟩ := a4 z1 z2
            exact ⟨p, b1, fun i hi => absurd hi (Nat.not_lt_zero i), fun i hi => by rw [gW 133 _ (by omega)]; exact b3 i hi⟩
      · have hk0 : k = 0 := (nI_inj (b := 0) (by omega) (by omega)).mp q
        subst hk0
        refine sp_counts (k := 0) (R := 0) (T := fun _ _ => 0) ht hn20 (by omega) hRU hb MU TU h39 (by decide) hta (fun W FW XW => h W (F.mono (fun a i q => by unfold PlX; omega) |>.trans (FW.mono (fun a i q => by unfold PlX; omega))) (XW.cp (fun i hi => absurd hi (Nat.not_lt_zero i)) (fun j => (F.1 133 j (by omega)).symm)))
    | succ j ih =>
      intro y U hy F h39 V
      have hRU : RefsOk U.2.2 := by rw [F.R]; exact hR
      refine s_Md_laysRowsSeen_8 rfl ⟨fun q => absurd ((nI_leI (a := 49) (by omega) (by omega)).mp q) (by omega), fun _ => ⟨134, hRU.at (by decide), 49, rfl, vp_in_nI (by omega) (by omega), ?_⟩⟩
      rw [nI_clamp (by omega), nI_1]
      refine ih (y + 1) _ (by omega) (F.uI _ (Or.inr rfl)) (by rw [uI_ne _ _ _ (by omega)]; exact h39) (fun i hi => ?_)
      rw [uI_at, if_pos rfl]
      by_cases e : i = y
      · rw [if_pos e]
      · rw [if_neg e]; exact V i (by omega)
  exact e_Md_laysRowsSeen rfl (key 49 0 _ (by omega) ((FrI.refl _ _).uI _ (Or.inl ⟨rfl, rfl⟩)) (by rw [uI_at, if_pos rfl, if_pos rfl]; rfl) (fun i hi => absurd hi (Nat.not_lt_zero i)))
/-- what must show -/
theorem sp_want {P : Int32 → aw_S → Prop} {t nd : Nat} (ht : t < 4) (hn20 : n ≤ 20) (hnd : nd ≤ 7) (hR : RefsOk S.2.2) (hG : ∀ i, i < n → G i < gpN nd ∧ C i ≤ 6) (hV : ∀ i, i < n → S.2.1 (3 + 2 * t) (2 * i) = lN (G i) ∧ S.2.1 (3 + 2 * t) (2 * i + 1) = lN (C i)) (h1 : ∀ U, FrI (fun a _ => a = 105) S U → OkW (okM n G C) (U.1 105) nd → P 1 U) (h0 : ∀ U, FrI (fun a _ => a = 105) S U → (∀ g, okM n G C g = false) → P 0 U) : Sp l m_Ou_want (d + 1 + 1) 0 0 [.ref 102, .ref (2 + 2 * t), .int (nI n)] sh0 S (gI sh0 P) := by
  have hgp := gp_le nd
  obtain ⟨s1, s2⟩ := sh_tray t ht
  have key : ∀ j i U, i + j = n → FrI (fun a _ => a = 105) S U → (∀ gap, gap < gpN nd → (U.1 105 gap = -1 ∧ ∀ y, y < i → G y ≠ gap) ∨ ∃ y, y < i ∧ G y = gap ∧ U.1 105 gap = nI (C y)) → (∀ y, y < i → U.1 105 (G y) = nI (C y)) → AW l m_Ou_want (d + 1 + 1) 0 0 (gI sh0 P) 0 0 10 [.ref 102, .ref (2 + 2 * t), .int (nI n), .int (nI i), .null, .null] [] sh0 U := by
    intro j
    induction j with
    | zero =>
      intro i U hi F u1 u2
      have hi : i = n := hi
      subst hi
      refine s_Ou_want_10 rfl ⟨fun _ => h1 U F (fun g hb hg => ⟨fun q => (wrC_0 _).mpr (fun gap hgap => ?_), fun q => decide_eq_true (fun y hy => ?_)⟩), fun q => absurd (nI_le (Nat.le_refl _) (by omega)) q⟩
      · rcases u1 gap hgap with ⟨z, -⟩ | ⟨y, y1, y2, y3⟩
        · exact decide_eq_true (Or.inl z)
        · refine decide_eq_true (Or.inr ?_)
          rw [y3, ← of_decide_eq_true q y y1, y2]
      · have c6 := sh_le hb (G y)
        obtain ⟨g1, g2⟩ := hG y hy
        have := (wrC_0 _).mp q (G y) g1
        rcases of_decide_eq_true this with z | z
        · rw [u2 y hy] at z
          exact absurd z (nI_ne_m1 (by omega))
        · rw [u2 y hy] at z
          exact ((nI_inj (by omega) (by omega)).mp z).symm
    | succ j ih =>
      intro i U hi F u1 u2
      have hRU : RefsOk U.2.2 := by rw [F.R]; exact hR
      obtain ⟨r1, r2⟩ := rf_tray hRU ht
      obtain ⟨v1, v2⟩ := hV i (by omega)
      obtain ⟨g1, g2⟩ := hG i (by omega)
      have x1 : (2 : Int32) * nI i = nI (2 * i) := by rw [show (2 : Int32) = nI 2 from rfl, pk_mul]
      refine s_Ou_want_10 rfl ⟨fun q => absurd q (nI_ge (by omega) (by omega)), fun _ => ⟨s1, 3 + 2 * t, r2, 60, s2, ?_⟩⟩
      rw [x1, nI_1, nI_clamp (by omega), nI_clamp (by omega), F.L, v1, v2, lN_i, lN_i]
      refine ⟨vp_in_nI (by omega) (by omega), vp_in_nI (by omega) (by omega), fun v8 hv8 => ?_⟩
      subst hv8
      refine sp_Ou_suits hRU (by omega) ⟨fun q => ⟨105, hRU.at (by decide), 7, rfl, vp_in_nI (by omega) (by omega), ?_⟩, fun q => h0 U F (fun g => decide_eq_false (fun z => ?_))⟩
      · rw [nI_clamp (by omega), nI_1]
        have su := of_decide_eq_true ((bI_1 _).mp q)
        refine ih (i + 1) _ (by omega) (F.uI _ rfl) (fun gap hgap => ?_) (fun y hy => ?_)
        · rw [uI_at, if_pos rfl]
          by_cases e : gap = G i
          · rw [if_pos e]
            exact Or.inr ⟨i, by omega, e.symm, rfl⟩
          · rw [if_neg e]
            rcases u1 gap hgap with ⟨z1, z2⟩ | ⟨y, y1, y2, y3⟩
            · refine Or.inl ⟨z1, fun y hy => ?_⟩
              by_cases e2 : y = i
              · rw [e2]; exact fun z => e z.symm
              · exact z2 y (by omega)
            · exact Or.inr ⟨y, by omega, y2, y3⟩
        · rw [uI_at, if_pos rfl]
          by_cases e2 : y = i
          · rw [e2, if_pos rfl]
          · have hu := u2 y (by omega)
            by_cases e : G y = G i
            · rw [if_pos e]
              rw [e] at hu
              rcases su with z | z
              · rw [hu] at z
                have := (hG y (by omega)).2
                exact absurd z (nI_ne_m1 (by omega))
              · exact z.symm.trans hu
            · rw [if_neg e]; exact hu
      · have nb := (bI_0 _).mp q
        have ns := of_decide_eq_false nb
        rcases u1 (G i) g1 with ⟨z1, -⟩ | ⟨y, y1, y2, y3⟩
        · exact ns (Or.inl z1)
        · refine ns (Or.inr ?_)
          rw [y3, ← z i (by omega), ← z y (by omega), y2]
  refine e_Ou_want rfl ⟨105, hR.at (by decide), sp_fillI (r := 105) (n := 7) rfl (by omega) ?_⟩
  refine key n 0 _ (by omega) ((FrI.refl _ _).wI _ (fun j => Or.inl rfl)) (fun gap hg => Or.inl ⟨?_, fun y hy => absurd hy (Nat.not_lt_zero y)⟩) (fun y hy => absurd hy (Nat.not_lt_zero y))
  rw [wI_self, if_pos (by omega)]
end SE
