/-! feasts as a text: the reference takes a step -/
theorem pm_s : ∀ i, i < 19 → ((pmN i = 3 ∨ (7 ≤ pmN i ∧ pmN i ≤ 14)) ↔ (i = 4 ∨ i = 7 ∨ i = 8 ∨ i = 9 ∨ i = 10 ∨ i = 11 ∨ i = 16 ∨ i = 18 ∨ i = 17)) ∧ (pmN i = 11 ↔ i = 11) ∧ (pmN i = 12 ↔ i = 16) ∧ (pmN i = 13 ↔ i = 17) := by decide +kernel
section FMT2
variable {l : Launch} {d L n : Nat} {B : Nat → Nat} {S0 T : aw_S} {s : FpS} {nm : Nat → List Nat}
/-- a step that is no end -/
theorem fm_step {P : Int32 → aw_S → Prop} {k : Nat} {i4 : Int32} {T1 : aw_S} (hk : isStp k) (h4 : ((k = 11 ∨ k = 16) ∧ i4 = 1) ∨ (¬ (k = 11 ∨ k = 16) ∧ i4 = 0)) (hR : RefsOk S0.2.2) (hn : n ≤ 7) (h0 : S0.1 115 0 = nI n) (hnm : ∀ d, d < n → S0.2.1 116 d = lN (p8 (nm d)) ∧ okW (nm d)) (hB : FpB n s) (h : FmR S0 T B L s) (h30 : ncN s.cd s.N < 30) (hD : (k = 11 ∨ k = 16) → s.D < 3) (hT1 : FrI (fun c j => (c = 114 ∧ j = 23) ∨ (c = 115 ∧ j = 2392 + 6 * s.N)) T T1) (e23 : T1.1 114 23 = nI (ncN s.cd s.N + 1)) (ev : T1.1 115 (2392 + 6 * s.N) = nI (pmN k)) {r : RsT FpS} (hr : frK B L n nm k (tkF B L s.t.e) (fun c x1 x2 x5 t2 => seK B L t2 fun t' => .inr (addS s t' c x1 x2 x5)) = r) (kk : ∀ x T', (x = 0 ∨ x = 1) → OutG S0 B L x T' r → P x T') : AW l m_Md_feastStep (d + 10) 0 0 (gI sh0 P) 0 0 164 [.ref 114, .int (nI (pmN k)), .int (nI s.N), .int (nI (2392 + 6 * s.N)), .int i4, .null, .int 1] [] sh0 T1 := by
  have h1 := h.1
  have hN : s.N ≤ 59 := by
    have := hB.2.2.1
    omega
  have k19 : k < 19 := by unfold isStp at hk; omega
  have pk := pm_s k k19
  have pk19 := (pc_ok k k19).2.2.1
  have n13 : ¬ nI (pmN k) = 13 := fun y => by
    have := (nI_inj (b := 13) (by omega) (by omega)).mp y
    have := pk.2.2.2.mp this
    unfold isStp at hk
    omega
  have hRT : RefsOk T.2.2 := by rw [h1.R]; exact hR
  have hRT1 : RefsOk T1.2.2 := by rw [hT1.R]; exact hRT
  refine fm_zero (by omega) (hRT1.at (by decide)) (fun U hU => ?_)
  obtain ⟨u1, u2⟩ := fm_5 h hT1 hU
  have hRU : RefsOk U.2.2 := by rw [hU.R]; exact hRT1
  refine s_Md_feastStep_164 rfl ⟨fun _ => ⟨115, hRU.at (by decide), 3864, rfl, vp_in_nI (n := 2213) (by omega) (by omega), vp_in_nI (n := 2213) (by omega) (by omega), ?_⟩, fun z => absurd (by decide) z⟩
  have u1' : U.1 115 (2213 : Int32).toNatClampNeg = nI s.N := u1
  rw [u1', nI_1]
  show Sp l m_Md_ahead (d + 9) 0 0 [.ref 114] sh0 (aw_uI U 115 2213 (nI (s.N + 1))) _
  refine sp_aheadM u2 (fun S7 F7 T7 => ?_)
  obtain ⟨g1, g2, g3, g4, g5⟩ := fm_7 h hN hT1 e23 ev hU (AXF F7)
  have g22 : S7.2.2 = T.2.2 := by rw [g2]
  have g21 : S7.2.1 = T.2.1 := by rw [g2]
  have hR7 : RefsOk S7.2.2 := by rw [g22]; exact hRT
  have f7 : FrI FmX S0 S7 := by
    refine ⟨fun c j q => ?_, by rw [g2, h1.2]⟩
    rw [g1 c j (by unfold FmX at q; unfold FX at q ⊢; omega)]
    exact h1.1 c j q
  have c0 : S7.1 115 0 = nI n := by rw [f7.1 115 0 (by unfold FmX FX; omega)]; exact h0
  have VM : ∀ {Z : aw_S}, FrI (VX (2392 + 6 * s.N)) S7 Z → FrI FmX S0 Z := fun F => f7.trans (F.mono (fun c j q => by unfold VX FX at q; unfold FmX FX; omega))
  refine sp_feastOrder (α := FpS) hk hR7 hn (by omega) (by omega) c0 (fun d hd => by rw [g21, h1.L]; exact hnm d hd) g4 T7 (fun f hf S8 F8 M8 => ⟨fun y => absurd rfl y, fun _ => kk 0 S8 (Or.inl rfl) ?_⟩) (fun c x1 x2 x5 t' hf S8 o => ⟨fun _ => ?_, fun y => absurd y (by decide)⟩)
  · rw [← hr, hf]
    exact ⟨rfl, VM F8, M8⟩
  · obtain ⟨o1, o2, o3, o4⟩ := o
    obtain ⟨c', y1, y2, y5, u, v1, v2, v3, v4, v5⟩ := frK_r hk T7.2.2.1 (hf (fun c x1 x2 x5 t' => .inr ((t', c, fun _ => x1, fun _ => x2, fun _ => x5, fun _ => 0, fun _ => 0, 0, fun _ => 0) : FpS)))
    have v5 := Sum.inr.inj v5
    have w2 : c' = c := congrArg (fun s : FpS => s.2.1) v5
    have w3 : y1 = x1 := congrArg (fun s : FpS => s.2.2.1 0) v5
    have w4 : y2 = x2 := congrArg (fun s : FpS => s.2.2.2.1 0) v5
    have w5 : y5 = x5 := congrArg (fun s : FpS => s.2.2.2.2.1 0) v5
    rw [w2, w3, w4, w5] at v1
    rw [w2] at v4
    have co := frK_o hk hf
    rw [hf] at hr
    have p8 : ∀ c j, ¬ (FX c j ∨ (c = 115 ∧ ((2392 + 6 * s.N ≤ j ∧ j ≤ 2392 + 6 * s.N + 5) ∨ j = 2213)) ∨ (c = 114 ∧ j = 23)) → S8.1 c j = T.1 c j := fun c j q => by
      rw [o1.1 c j (by unfold FX at q; unfold VX FX; omega)]
      exact g1 c j q
    have q5 : S8.1 115 2213 = nI (s.N + 1) := by rw [o1.1 115 2213 (by unfold VX FX; omega)]; exact g3
    have q23 : S8.1 114 23 = nI (ncN s.cd s.N + 1) := by rw [o1.1 114 23 (by unfold VX FX; omega)]; exact g5
    have q22 : S8.1 114 22 = nI s.D := by rw [p8 114 22 (by unfold FX; omega)]; exact h.2.2.2.1
    have hR8 : RefsOk S8.2.2 := by rw [o1.R]; exact hR7
    rcases h4 with ⟨ho, e4⟩ | ⟨ho, e4⟩
    · subst e4
      have D3 := hD ho
      refine ⟨fun y => absurd y (by decide), fun _ => ⟨122, hR8.at (by decide), 3, rfl, ?_⟩⟩
      rw [q22, nI_clamp (by omega)]
      refine ⟨vp_in_nI D3 (by omega), fun _ => ?_, fun y => absurd y n13⟩
      have a1 : (aw_uI S8 122 s.D (nI s.N)).1 114 22 = nI s.D := by rw [uI_ne _ _ _ (by decide)]; exact q22
      rw [a1, nI_1]
      have F8 : FrI FmX S0 (aw_uI (aw_uI S8 122 s.D (nI s.N)) 114 22 (nI (s.D + 1))) := ((VM o1).uI _ (by unfold FmX; omega)).uI _ (by unfold FmX; omega)
      have T8 : TmG (aw_uI (aw_uI S8 122 s.D (nI s.N)) 114 22 (nI (s.D + 1))) B L t' := o2.fr (fun j hj => by rw [uI_at, if_pos rfl, if_neg (by omega), uI_ne _ _ _ (by decide)]) (by rw [uI_ne _ _ _ (by decide), uI_ne _ _ _ (by decide)]) rfl
      have c115 : ∀ j, (aw_uI (aw_uI S8 122 s.D (nI s.N)) 114 22 (nI (s.D + 1))).1 115 j = S8.1 115 j := fun j => by rw [uI_ne _ _ _ (by decide), uI_ne _ _ _ (by decide)]
      refine sp_wantSign (α := FpS) T8 (fun f hsf S9 F9 M9 => ⟨Or.inl rfl, kk 0 S9 (Or.inl rfl) ?_⟩) (fun hsf S9 F9 T9 => ⟨Or.inr rfl, kk 1 S9 (Or.inr rfl) ?_⟩)
      · rw [← hr, hsf]
        exact ⟨rfl, F8.trans (F9.mono (fun _ _ q => Or.inl q)), M9⟩
      · rw [← hr, hsf]
        refine ⟨rfl, FmR.add hB v1 h (F8.trans (F9.mono (fun _ _ q => Or.inl q))) (fun c j q => ?_) T9 ?_ ?_ ?_ ?_ ?_ (fun _ => ?_)⟩
        · rw [F9.1 c j (fun w => q (Or.inl w)), uI_at]
          by_cases y : c = 114
          · rw [if_pos y, if_neg (by omega), uI_ne _ _ _ (by omega), ← y]
            exact p8 c j (by unfold FX at q ⊢; omega)
          · rw [if_neg y, uI_at]
            by_cases y2 : c = 122
            · rw [if_pos y2, if_neg (by omega), ← y2]
              exact p8 c j (by unfold FX at q ⊢; omega)
            · rw [if_neg y2]
              exact p8 c j (by unfold FX at q ⊢; omega)
        · rw [FX.c115 F9, c115]; exact q5
        · rw [FX.c115 F9, c115]; exact o3
        · rw [FX.c115 F9, FX.c115 F9, FX.c115 F9, c115, c115, c115]; exact o4
        · rw [F9.1 114 22 (by unfold FX; omega), uI_at, if_pos rfl, if_pos rfl, if_pos (co.mpr ho)]
        · rw [F9.1 114 23 (by unfold FX; omega), uI_at, if_pos rfl, if_neg (by decide), uI_ne _ _ _ (by decide)]; exact q23
        · rw [F9.1 122 s.D (by unfold FX; omega), uI_ne _ _ _ (by decide), uI_at, if_pos rfl, if_pos rfl]
    · subst e4
      refine ⟨fun _ => ⟨fun _ => ?_, fun y => absurd y n13⟩, fun y => absurd rfl y⟩
      refine sp_wantSign (α := FpS) o2 (fun f hsf S9 F9 M9 => ⟨Or.inl rfl, kk 0 S9 (Or.inl rfl) ?_⟩) (fun hsf S9 F9 T9 => ⟨Or.inr rfl, kk 1 S9 (Or.inr rfl) ?_⟩)
      · rw [← hr, hsf]
        exact ⟨rfl, (VM o1).trans (F9.mono (fun _ _ q => Or.inl q)), M9⟩
      · rw [← hr, hsf]
        refine ⟨rfl, FmR.add hB v1 h ((VM o1).trans (F9.mono (fun _ _ q => Or.inl q))) (fun c j q => ?_) T9 ?_ ?_ ?_ ?_ ?_ (fun y => absurd (co.mp y) ho)⟩
        · rw [F9.1 c j (fun w => q (Or.inl w))]
          exact p8 c j (by unfold FX at q ⊢; omega)
        · rw [FX.c115 F9]; exact q5
        · rw [FX.c115 F9]; exact o3
        · rw [FX.c115 F9, FX.c115 F9, FX.c115 F9]; exact o4
        · rw [F9.1 114 22 (by unfold FX; omega), if_neg (fun y => ho (co.mp y))]; exact q22
        · rw [F9.1 114 23 (by unfold FX; omega)]; exact q23
end FMT2
