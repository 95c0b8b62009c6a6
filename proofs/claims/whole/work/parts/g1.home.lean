/-! homeward: the class counts the fewest passes, all of them -/
section FWH
variable {l : Launch} {d n : Nat} {S : aw_S} {u : List Nat}
theorem fw_58 {P : Int32 → aw_S → Prop} (hn : n ≤ 7) (hR : RefsOk S.2.2) (h : WkC S n u) : ∀ k p c, p + k = n → (∀ X, X = nI c + nI (smS n u k p) → P X S) → AW l m_Ho_fewestFrom (d + 2) 0 0 (gI sh0 P) 0 0 58 [.ref 99, .int (nI n), .null, .int (nI c), .int (nI p), .null, .null] [] sh0 S := by
  intro k
  induction k with
  | zero =>
    intro p c hp kk
    exact s_Ho_fewestFrom_58 rfl ⟨fun _ => kk _ (by show nI c = nI c + nI 0; rw [nI_add, Nat.add_zero]), fun z => absurd (nI_le (by omega) (by omega)) z⟩
  | succ k ih =>
    intro p c hp kk
    refine s_Ho_fewestFrom_58 rfl ⟨fun z => absurd ((nI_leI (by omega) (by omega)).mp z) (by omega), fun _ => ?_⟩
    rw [nI_1]
    refine fw_70 hn hR h (by omega) k (p + 1) c (by omega) (by omega) (fun X hX => ?_)
    rw [hX, nI_add]
    refine ih (p + 1) _ (by omega) (fun Y hY => kk Y ?_)
    rw [hY, nI_add, nI_add]
    show nI (c + paS n (p + atL u p) u k (p + 1) + smS n u k (p + 1)) = nI (c + (paS n (p + atL u p) u k (p + 1) + smS n u k (p + 1)))
    rw [Nat.add_assoc]
theorem fw_31 {P : Int32 → aw_S → Prop} (hn1 : 1 ≤ n) (hn : n ≤ 7) : ∀ f i u S, i + f = 7 → RefsOk S.2.2 → WkC S n u → (∀ S', FrI HX S S' → P (nI (smL n (shL n f u) 0)) S') → AW l m_Ho_fewestFrom (d + 2) 0 0 (gI sh0 P) 0 0 31 [.ref 99, .int (nI n), .int 1, .int (nI i), .null, .null, .null] [] sh0 S := by
  have fin : ∀ u S, RefsOk S.2.2 → WkC S n u → P (nI (smL n u 0)) S → AW l m_Ho_fewestFrom (d + 2) 0 0 (gI sh0 P) 0 0 58 [.ref 99, .int (nI n), .null, .int 0, .int 0, .null, .null] [] sh0 S := fun u S hR h k => fw_58 hn hR h n 0 0 (by omega) (fun X hX => by
    rw [hX, nI_add, Nat.zero_add]
    rw [sm_all, h.1] at k
    exact k)
  intro f
  induction f with
  | zero =>
    intro i u S hi hR h kk
    have hi : i = 7 := hi
    subst hi
    exact s_Ho_fewestFrom_31 rfl ⟨fun _ => fin u S hR h (kk S (FrI.refl _ S)), fun z => absurd (by decide) z⟩
  | succ f ih =>
    intro i u S hi hR h kk
    refine s_Ho_fewestFrom_31 rfl ⟨fun z => absurd ((nI_leI (a := 7) (by omega) (by omega)).mp z) (by omega), fun _ => ⟨fun y => absurd y (by decide), fun _ => ?_⟩⟩
    rw [nI_1]
    have hl := h.1
    have es := shL_s n f u
    rw [hl] at es
    rw [es] at kk
    refine sp_shareWalks hn1 hn hR h (fun q S' F W => ?_) (fun q => ?_)
    · rw [if_pos q] at kk
      exact ih (i + 1) _ S' (by omega) (by rw [F.R]; exact hR) W (fun S'' F' => kk S'' (F.trans F'))
    · rw [if_neg q] at kk
      have k := fin u S hR h (kk S (FrI.refl _ S))
      exact s_Ho_fewestFrom_31 rfl ⟨fun _ => k, fun _ => ⟨fun _ => k, fun y => absurd rfl y⟩⟩
end FWH
