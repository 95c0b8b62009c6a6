/-! homeward: the class shares walks -/
def WkC (S : aw_S) (n : Nat) (u : List Nat) : Prop := lnN u = n ∧ ∀ p, p < n → S.1 101 p = wI (atL u p) ∧ 13 ≤ atL u p ∧ atL u p ≤ 27
def HX (k _j : Nat) : Prop := k = 101
section SHW
variable {l : Launch} {d n : Nat} {S : aw_S} {u : List Nat}
theorem sp_shareWalks {P : Int32 → aw_S → Prop} (hn1 : 1 ≤ n) (hn : n ≤ 7) (hR : RefsOk S.2.2) (h : WkC S n u) (k1 : atL u (mnP u n) + n < atL u (mxP u n) → ∀ S', FrI HX S S' → WkC S' n (stL (stL u (mxP u n) (atL u (mxP u n) - n)) (mnP u n) (atL u (mnP u n) + n)) → P 1 S') (k0 : ¬ atL u (mnP u n) + n < atL u (mxP u n) → P 0 S) : Sp l m_Ho_shareWalks (d + 1) 0 0 [.ref 99, .int (nI n)] sh0 S (gI sh0 P) := by
  obtain ⟨hl, hc⟩ := id h
  have r1 : S.2.2 99 1 = some 101 := hR.at (by decide)
  have mlt : mxP u n < n := by have := mxP_lt u n; omega
  have nlt : mnP u n < n := by have := mnP_lt u n; omega
  have key : ∀ m i, i + m = n → 1 ≤ i → AW l m_Ho_shareWalks (d + 1) 0 0 (gI sh0 P) 0 0 7 [.ref 99, .int (nI n), .int (nI (mxP u i)), .int (nI (mnP u i)), .int (nI i)] [] sh0 S := by
    intro m
    induction m with
    | zero =>
      intro i hi h1
      have hi : i = n := hi
      subst hi
      obtain ⟨cM, bM1, bM2⟩ := hc _ mlt
      obtain ⟨cm, bm1, bm2⟩ := hc _ nlt
      refine s_Ho_shareWalks_7 rfl ⟨fun _ => ⟨101, r1, 7, rfl, vp_in_nI (by omega) (by omega), vp_in_nI (by omega) (by omega), ?_⟩, fun z => absurd (Int32.le_refl _) z⟩
      rw [nI_clamp (by omega), nI_clamp (by omega), cM, cm, wI_m _ (by omega) _ (by omega) (by omega)]
      have d1 := wI_d _ (show atL u (mxP u i) < 40 by omega) _ (show atL u (mnP u i) < 40 by omega) i (by omega)
      refine ⟨fun z => ⟨vp_in_nI (by omega) (by omega), vp_in_nI (by omega) (by omega), vp_in_nI (by omega) (by omega), vp_in_nI (by omega) (by omega), ?_⟩, fun z => k0 (fun y => z (d1.mpr y))⟩
      have q := d1.mp z
      have ne : mnP u i ≠ mxP u i := fun e => by rw [e] at q; omega
      have e2 : (aw_uI S 101 (mxP u i) (wI (atL u (mxP u i) - i))).1 101 (mnP u i) + nI i = wI (atL u (mnP u i) + i) := by
        rw [uI_at, if_pos rfl, if_neg ne, cm, wI_p _ (by omega) _ (by omega)]
      rw [e2]
      refine k1 q _ (((FrI.refl HX S).uI _ (show HX 101 _ from rfl)).uI _ (show HX 101 _ from rfl)) ⟨by rw [stL_ln, stL_ln]; exact hl, fun p hp => ?_⟩
      rw [stL_at _ _ _ _ (by rw [stL_ln, hl]; exact nlt), stL_at _ _ _ _ (by rw [hl]; exact mlt), uI_at, if_pos rfl, uI_at, if_pos rfl]
      by_cases e : p = mnP u i
      · rw [if_pos e, if_pos e]; exact ⟨rfl, by omega, by omega⟩
      · rw [if_neg e, if_neg e]
        by_cases e' : p = mxP u i
        · rw [if_pos e', if_pos e']; exact ⟨rfl, by omega, by omega⟩
        · rw [if_neg e', if_neg e']; exact hc p hp
    | succ m ih =>
      intro i hi h1
      have M := mxP_lt u i
      have N := mnP_lt u i
      obtain ⟨ci, bi1, bi2⟩ := hc i (by omega)
      obtain ⟨cM, bM1, bM2⟩ := hc (mxP u i) (by omega)
      obtain ⟨cm, bm1, bm2⟩ := hc (mnP u i) (by omega)
      have ih := ih (i + 1) (by omega) (by omega)
      have eM : mxP u (i + 1) = if atL u (mxP u i) < atL u i then i else mxP u i := rfl
      have em : mnP u (i + 1) = if atL u i < atL u (mnP u i) then i else mnP u i := rfl
      refine s_Ho_shareWalks_7 rfl ⟨fun z => absurd ((nI_leI (by omega) (by omega)).mp z) (by omega), fun _ => ⟨101, r1, 7, rfl, vp_in_nI (by omega) (by omega), vp_in_nI (by omega) (by omega), ?_⟩⟩
      rw [nI_clamp (by omega), nI_clamp (by omega), nI_clamp (by omega), ci, cM, cm, nI_1]
      have l1 := wI_le _ (show atL u i < 40 by omega) _ (show atL u (mxP u i) < 40 by omega)
      have l2 := wI_le _ (show atL u (mnP u i) < 40 by omega) _ (show atL u i < 40 by omega)
      have vi : vp_in (nI i) 7 := vp_in_nI (by omega) (by omega)
      have vm : vp_in (nI (mnP u i)) 7 := vp_in_nI (by omega) (by omega)
      refine ⟨fun z => ⟨vi, vm, fun z2 => ?_, fun z2 => ?_⟩, fun z => ⟨vi, vm, fun z2 => ?_, fun z2 => ?_⟩⟩
      · rw [eM, em, if_neg (by have := l1.mp z; omega), if_neg (by have := l2.mp z2; omega)] at ih
        exact ih
      · have q2 : ¬ atL u (mnP u i) ≤ atL u i := fun y => z2 (l2.mpr y)
        rw [eM, em, if_neg (by have := l1.mp z; omega), if_pos (by omega)] at ih
        exact ih
      · have q1 : ¬ atL u i ≤ atL u (mxP u i) := fun y => z (l1.mpr y)
        rw [eM, em, if_pos (by omega), if_neg (by have := l2.mp z2; omega)] at ih
        exact ih
      · have q1 : ¬ atL u i ≤ atL u (mxP u i) := fun y => z (l1.mpr y)
        have q2 : ¬ atL u (mnP u i) ≤ atL u i := fun y => z2 (l2.mpr y)
        rw [eM, em, if_pos (by omega), if_pos (by omega)] at ih
        exact ih
  have s1 : mxP u 1 = 0 ∧ mnP u 1 = 0 := by
    refine ⟨?_, ?_⟩
    · show (if atL u 0 < atL u 0 then 0 else 0) = 0
      split <;> rfl
    · show (if atL u 0 < atL u 0 then 0 else 0) = 0
      split <;> rfl
  have k := key (n - 1) 1 (by omega) (by omega)
  rw [s1.1, s1.2] at k
  exact e_Ho_shareWalks rfl k
end SHW
