/-! the easy calls -/
theorem Inv.rf {S : aw_S} (h : Inv S) : RefsOk S.2.2 := h.2.2.2.2.2.2.2.2.1
theorem Inv.sp {S : aw_S} (h : Inv S) : ∃ b, S.2.2 0 7 = some b := by
  obtain ⟨a, b, h1, h2, -⟩ := h.2.2.2.2.2.2.1
  exact ⟨b, h2⟩
theorem RefsOk.at {R : Nat → Nat → Option Nat} (h : RefsOk R) {k j r : Nat} (hm : (k, j, r) ∈ rfT) : R k j = some r := h (k, j, r) hm
/-- the same picture but for the status -/
theorem Keep.st (b : Nat) (S : aw_S) (v w : Int32) : Keep b S (aw_uI (aw_uI S 0 3 v) 114 2 w) := by
  refine ⟨fun j hj => ?_, fun j hj => ?_, ⟨rfl, rfl⟩, fun k hk => ⟨fun _ => ?_, fun _ => rfl⟩, fun j _ => ?_, fun j _ => rfl, fun q _ => rfl, rfl, rfl⟩
  · rw [uI_ne _ _ _ (by decide), uI_at, if_pos rfl, if_neg (by omega)]
  · rw [uI_at, if_pos rfl, if_neg (by omega), uI_ne _ _ _ (by decide)]
  · rw [uI_ne _ _ _ (by omega), uI_ne _ _ _ (by omega)]
  · rw [uI_ne _ _ _ (by decide), uI_ne _ _ _ (by decide)]
theorem Inv.st {S : aw_S} (h : Inv S) {v w : Int32} (e : v = w) : Inv (aw_uI (aw_uI S 0 3 v) 114 2 w) := by
  obtain ⟨b, hb⟩ := h.sp
  refine h.keep hb (Keep.st b S v w) ?_
  rw [uI_ne _ _ _ (by decide), uI_at, uI_at]
  simp [e]
section EASY
variable {l : Launch} {d : Nat} {sh : aw_SH} {S : aw_S}
theorem sp_isWithin {P : Int32 → aw_S → Prop} {x a b : Int32} (h : P (if a ≤ x ∧ x ≤ b then 1 else 0) S) : Sp l m_Mg_isWithin (d + 1) 0 0 [.int x, .int a, .int b] sh S (gI sh P) := by
  refine e_Mg_isWithin ⟨fun q => ?_, fun q => ⟨fun q2 => ?_, fun q2 => ?_⟩⟩
  · rw [if_neg (fun z => absurd z.1 (Int32.not_le.mpr q))] at h
    exact h
  · rw [if_neg (fun z => absurd z.2 (Int32.not_le.mpr q2))] at h
    exact h
  · rw [if_pos ⟨Int32.not_lt.mp q, Int32.not_lt.mp q2⟩] at h
    exact h
theorem sp_isTray {P : Int32 → aw_S → Prop} {x : Int32} (h : P (if 0 ≤ x ∧ x ≤ 3 then 1 else 0) S) : Sp l m_Mg_isTray (d + 1 + 1) 0 0 [.int x] sh S (gI sh P) := by
  refine e_Mg_isTray (sp_isWithin ⟨?_, h⟩)
  split
  · exact Or.inr rfl
  · exact Or.inl rfl
theorem sp_mIsTray {P : Int32 → aw_S → Prop} {x : Int32} (h : P (if 0 ≤ x ∧ x ≤ 3 then 1 else 0) S) : Sp l m_Md_isTray (d + 1) 0 0 [.int x] sh S (gI sh P) := by
  refine e_Md_isTray ⟨fun q => ?_, fun q => ⟨fun q2 => ?_, fun q2 => ?_⟩⟩
  · rw [if_neg (fun z => absurd z.1 (Int32.not_le.mpr q))] at h
    exact h
  · rw [if_neg (fun z => ?_)] at h
    · exact h
    · have h1 := Int32.le_iff_toInt_le.mp q2
      have h2 := Int32.le_iff_toInt_le.mp z.2
      simp at h1 h2
      omega
  · have hle : x ≤ 3 := by
      have h1 := Int32.lt_iff_toInt_lt.mp (Int32.not_le.mp q2)
      rw [Int32.le_iff_toInt_le]
      simp at h1 ⊢
      omega
    rw [if_pos ⟨Int32.not_lt.mp q, hle⟩] at h
    exact h
end EASY
theorem ok_status (l : Launch) : Ok_status l 0 114 sh0 Inv := fun S hI => e_Mg_status rfl (e_Md_status rfl ⟨hI.1, hI⟩)
theorem ok_top (l : Launch) : Ok_top l 0 114 sh0 Inv := fun S hI => e_Mg_top rfl ⟨111, hI.rf.at (by decide), rfl, e_Md_top rfl ⟨hI.2.1.1, hI⟩⟩
theorem ok_bottom (l : Launch) : Ok_bottom l 0 114 sh0 Inv := fun S hI => e_Mg_bottom rfl ⟨111, hI.rf.at (by decide), rfl, e_Md_bottom rfl ⟨hI.2.1.2, hI⟩⟩
theorem ok_fault (l : Launch) : Ok_fault l 0 114 sh0 Inv := fun S hI v => e_Mg_fault rfl ⟨fun q => ⟨fun q2 => e_Md_fault rfl ⟨fun _ => ⟨fun _ => ⟨rfl, hI⟩, fun z => absurd z q2⟩, fun z => absurd z q⟩, fun q2 => e_Md_fault rfl ⟨fun _ => ⟨fun z => absurd q2 z, fun _ => ⟨hI.2.2.1.2, hI⟩⟩, fun z => absurd z q⟩⟩, fun q => e_Md_fault rfl ⟨fun z => absurd q z, fun _ => ⟨hI.2.2.1.1, hI⟩⟩⟩
theorem ok_lived (l : Launch) : Ok_lived l 0 114 sh0 Inv := by
  intro S hI v
  obtain ⟨hz, he, hv⟩ := hI.2.2.2.1
  refine e_Mg_lived rfl (sp_isWithin ?_)
  by_cases hc : 0 ≤ v ∧ v ≤ 4
  · rw [if_pos hc]
    refine ⟨fun _ => ⟨fun q => ?_, fun q => ?_⟩, fun q => absurd q (by decide)⟩
    · refine e_Mg_fail rfl (e_Md_lived rfl ⟨fun z => absurd hc.1 (Int32.not_le.mpr z), fun _ => ⟨fun _ => ⟨fun _ => e_Md_refuse rfl ⟨rfl, hI.st rfl⟩, fun z => absurd ?_ z⟩, fun z => absurd hc.2 z⟩⟩)
      exact he.trans q
    · have h1 : S.1 0 14 = 1 := hz.resolve_left q
      obtain ⟨k, hk, e⟩ := nI_of2 (M := 4) (n := 4) (by decide) (Int32.not_lt.mpr hc.1) hc.2
      subst e
      have hvp : vp_in (nI k) 5 := vp_in_nI (by omega) (by omega)
      refine ⟨98, hI.rf.at (by decide), 5, rfl, hvp, e_Mg_give rfl (e_Md_lived rfl ⟨fun z => absurd hc.1 (Int32.not_le.mpr z), fun _ => ⟨fun _ => ⟨fun z => absurd (he.symm.trans z) q, fun _ => ⟨142, hI.rf.at (by decide), 5, rfl, hvp, e_Md_gives rfl ⟨?_, hI.st rfl⟩⟩⟩, fun z => absurd hc.2 z⟩⟩)⟩
      rw [nI_clamp (by omega)]
      exact hv h1 k (by omega)
  · rw [if_neg hc]
    refine ⟨fun q => absurd rfl q, fun _ => e_Mg_fail rfl (e_Md_lived rfl ⟨fun _ => e_Md_refuse rfl ⟨rfl, hI.st rfl⟩, fun z => ⟨fun z2 => absurd ⟨Int32.not_lt.mp z, z2⟩ hc, fun _ => e_Md_refuse rfl ⟨rfl, hI.st rfl⟩⟩⟩)⟩
