/-! homeward: fewestFrom -/
section FWI
variable {l : Launch} {d n : Nat} {S : aw_S} {x : List Nat}
theorem sp_fewestFrom {P : Int32 → aw_S → Prop} (hn : n ≤ 7) (hR : RefsOk S.2.2) (hx : isO n x) (hc : ∀ p, p < n → S.1 100 p = nI (atL x p)) (kk : ∀ S', FrI HX S S' → P (nI (fwL n x)) S') : Sp l m_Ho_fewestFrom (d + 2) 0 0 [.ref 99, .int (nI n)] sh0 S (gI sh0 P) := by
  have hl := hx.ln
  have key : ∀ k i W, i + k = n → FrI HX S W → (∀ p, p < i → W.1 101 p = wI (atL x p + 20 - p)) → AW l m_Ho_fewestFrom (d + 2) 0 0 (gI sh0 P) 0 0 2 [.ref 99, .int (nI n), .int (nI i), .null, .null, .null, .null] [] sh0 W := by
    intro k
    induction k with
    | zero =>
      intro i W hi F hw
      have hi : i = n := hi
      subst hi
      have hRW : RefsOk W.2.2 := by rw [F.R]; exact hR
      refine s_Ho_fewestFrom_2 rfl ⟨fun _ => ?_, fun z => absurd (Int32.le_refl _) z⟩
      by_cases h0 : i = 0
      · subst h0
        have hxn : x = [] := atL_ext hl (fun j hj => by rw [hl] at hj; omega)
        have e0 : fwL 0 x = 0 := by rw [hxn]; decide
        have k := kk W F
        rw [e0] at k
        have f58 : AW l m_Ho_fewestFrom (d + 2) 0 0 (gI sh0 P) 0 0 58 [.ref 99, .int (nI 0), .null, .int 0, .int 0, .null, .null] [] sh0 W := s_Ho_fewestFrom_58 rfl ⟨fun _ => k, fun z => absurd (by decide) z⟩
        refine s_Ho_fewestFrom_31 rfl ⟨fun _ => f58, fun _ => ⟨fun _ => f58, fun _ => e_Ho_shareWalks rfl (s_Ho_shareWalks_7 rfl ⟨fun _ => ⟨101, hRW.at (by decide), 7, rfl, vp_in_nI (n := 0) (by omega) (by omega), vp_in_nI (n := 0) (by omega) (by omega), fun z => ?_, fun _ => s_Ho_fewestFrom_31 rfl ⟨fun _ => f58, fun _ => ⟨fun _ => f58, fun y => absurd rfl y⟩⟩⟩, fun z => absurd (by decide) z⟩)⟩⟩
        rw [Int32.sub_self] at z
        exact absurd z (by decide)
      · refine fw_31 (by omega) hn 7 0 (wkL x 0) W (by omega) hRW ⟨by rw [wk_ln]; exact hl, fun p hp => ?_⟩ (fun S' F' => ?_)
        · have lt := hx.lt hp
          rw [wk_at x 0 p (by rw [hl]; exact hp), Nat.zero_add]
          exact ⟨hw p hp, by omega, by omega⟩
        · rw [← fw_eq]
          exact kk S' (F.trans F')
    | succ k ih =>
      intro i W hi F hw
      have hRW : RefsOk W.2.2 := by rw [F.R]; exact hR
      have lt := hx.lt (p := i) (by omega)
      refine s_Ho_fewestFrom_2 rfl ⟨fun z => absurd ((nI_leI (by omega) (by omega)).mp z) (by omega), fun _ => ⟨101, hRW.at (by decide), 100, hRW.at (by decide), 7, rfl, vp_in_nI (by omega) (by omega), 7, rfl, vp_in_nI (by omega) (by omega), ?_⟩⟩
      rw [nI_clamp (by omega), F.1 100 i (by unfold HX; omega), hc i (by omega), wI_0 _ (by omega) _ (by omega), nI_1]
      refine ih (i + 1) _ (by omega) (F.uI _ (show HX 101 _ from rfl)) (fun p hp => ?_)
      rw [uI_at, if_pos rfl]
      by_cases e : p = i
      · rw [if_pos e, e]
      · rw [if_neg e]; exact hw p (by omega)
  exact e_Ho_fewestFrom rfl (key n 0 S (by omega) (FrI.refl _ S) (fun p hp => absurd hp (Nat.not_lt_zero p)))
end FWI
