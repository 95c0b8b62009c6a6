/-! homeward: the reference's search -/
def HH (k _j : Nat) : Prop := k = 125 ∨ k = 126 ∨ k = 127
def SrC (S : aw_S) (n t : Nat) (Q : Nat → List Nat) : Prop := (∀ i, i < t → S.1 126 i = nI (nuL (Q i) 0)) ∧ ∀ y, isO n y → (FdQ t Q y → S.1 125 (nuL y 0) = nI (fwL n y)) ∧ (¬ FdQ t Q y → S.1 125 (nuL y 0) = nI 1000000)
section HSR
variable {l : Launch} {d n : Nat} {S : aw_S}
theorem SrC.fr {W : aw_S} {t : Nat} {Q : Nat → List Nat} (h : SrC S n t Q) (F : FrI HO S W) : SrC W n t Q := by
  refine ⟨fun i hi => ?_, fun y hy => ?_⟩
  · rw [F.1 126 i (by unfold HO; omega)]; exact h.1 i hi
  · rw [F.1 125 _ (by unfold HO; omega)]; exact h.2 y hy
theorem SrC.psh {t : Nat} {Q : Nat → List Nat} {y : List Nat} {v : Int32} (hn : n ≤ 7) (h : SrC S n t Q) (hy : isO n y) (hv : v = nI (fwL n y)) : SrC (aw_uI (aw_uI S 125 (nuL y 0) v) 126 t (nI (nuL y 0))) n (t + 1) (pshQ t Q y) := by
  refine ⟨fun i hi => ?_, fun z hz => ?_⟩
  · rw [uI_at, if_pos rfl]
    by_cases e : i = t
    · rw [if_pos e, e, psh_new]
    · rw [if_neg e, uI_at, if_neg (by omega), psh_old (by omega)]
      exact h.1 i (by omega)
  · rw [uI_at, if_neg (by omega), uI_at, if_pos rfl]
    by_cases e : nuL z 0 = nuL y 0
    · have ez : z = y := nu_inj hn hz hy e
      rw [if_pos e, hv, ez]
      exact ⟨fun _ => rfl, fun c => absurd (fd_psh.mpr (Or.inr rfl)) c⟩
    · rw [if_neg e]
      have ne : z ≠ y := fun q => e (by rw [q])
      exact ⟨fun c => (h.2 z hz).1 ((fd_psh.mp c).resolve_right ne), fun c => (h.2 z hz).2 (fun q => c (fd_psh.mpr (Or.inl q)))⟩
theorem hm_68 {P : aw_S → Prop} {h : Nat} (hn : n ≤ 7) (hR : RefsOk S.2.2) (h0 : S.1 115 0 = nI n) (cont : ∀ t Q W, SrH n (h + 1) 0 t Q → SrC W n t Q → FrI HH S W → AW l m_Md_laysHome (d + 3) 0 0 (gV sh0 P) 0 0 50 [.ref 114, .null, .int (nI t), .int (nI (h + 1)), .null, .null] [] sh0 W) : ∀ m g t Q W, g + m = gpN n → h < t → SrH n h g t Q → SrC W n t Q → FrI HH S W → (∀ p, p < n → W.1 127 p = nI (atL (Q h) p)) → AW l m_Md_laysHome (d + 3) 0 0 (gV sh0 P) 0 0 68 [.ref 114, .null, .int (nI t), .int (nI h), .int (nI g), .null] [] sh0 W := by
  have gle : gpN n ≤ 7 := by
    unfold gpN
    split
    · omega
    · split <;> omega
  intro m
  induction m with
  | zero =>
    intro g t Q W hg ht H C F c
    have hg : g = gpN n := hg
    have hRW : RefsOk W.2.2 := by rw [F.R]; exact hR
    have h0W : W.1 115 0 = nI n := by rw [F.1 115 0 (by unfold HH; omega)]; exact h0
    refine s_Md_laysHome_68 rfl (sp_Md_gapsOf (s := 0) (d := d + 1) (MdS.mk0 hRW) (by omega) hn h0W ⟨fun _ => ?_, fun z => absurd (nI_le (Nat.le_of_eq hg.symm) (by omega)) z⟩)
    rw [nI_1]
    exact cont t Q W (H.nxt ht hg) C F
  | succ m ih =>
    intro g t Q W hg ht H C F c
    have hg' : g < gpN n := by omega
    have hRW : RefsOk W.2.2 := by rw [F.R]; exact hR
    have h0W : W.1 115 0 = nI n := by rw [F.1 115 0 (by unfold HH; omega)]; exact h0
    have hx := H.2.2.1 h ht
    have hy := hx.sw hg'
    have tle := H.le hn
    have fle := fc_le n (by omega)
    have nx := (hx.ck hn).1
    have ny := (hy.ck hn).1
    refine s_Md_laysHome_68 rfl (sp_Md_gapsOf (s := 0) (d := d + 1) (MdS.mk0 hRW) (by omega) hn h0W ⟨fun z => absurd ((nI_leI (by omega) (by omega)).mp z) (by omega), fun _ => sp_turnsOrder (d := d + 1) hn hRW h0W hx.ln hg' c (fun S4 F4 c4 => ?_)⟩)
    have hR4 : RefsOk S4.2.2 := by rw [F4.R]; exact hRW
    have h04 : S4.1 115 0 = nI n := by rw [F4.1 115 0 (by unfold HO; omega)]; exact h0W
    refine sp_orderNumber (d := d + 1) hn hR4 h04 hy c4 (sp_turnsOrder (d := d + 1) (x := swL n (Q h) g) hn hR4 h04 (by rw [sw_ln]; exact hx.ln) hg' c4 (fun S7 F7 c7 => ?_))
    rw [swL2 hx.ln hg'] at c7
    have FO := F4.trans F7
    have F' : FrI HH S S7 := F.trans (FO.mono (fun k j q => Or.inr (Or.inr q)))
    have hR7 : RefsOk S7.2.2 := by rw [FO.R]; exact hRW
    have C7 := C.fr FO
    refine ⟨125, hR7.at (by decide), 5040, rfl, vp_in_nI (by omega) (by omega), ?_⟩
    rw [nI_clamp (n := nuL (swL n (Q h) g) 0) (by omega), nI_1 g]
    by_cases hf : FdQ t Q (swL n (Q h) g)
    · rw [(C7.2 _ hy).1 hf]
      have fb := fw_lt hn hy
      refine ⟨fun z => absurd ((nI_leI (a := 1000000) (by omega) (by omega)).mp z) (by omega), fun _ => ?_⟩
      exact ih (g + 1) t Q S7 (by omega) ht (H.old hf) C7 F' c7
    · obtain ⟨e1, H'⟩ := H.new hn ht hg' hf
      have tle' := H'.le hn
      rw [(C7.2 _ hy).2 hf]
      refine ⟨fun _ => ⟨126, hR7.at (by decide), 5040, rfl, vp_in_nI (by omega) (by omega), ?_⟩, fun z => absurd (Int32.le_refl _) z⟩
      rw [nI_clamp (n := h) (by omega), C7.1 h ht, nI_clamp (n := nuL (Q h) 0) (by omega), nI_clamp (n := t) (by omega), (C7.2 _ hx).1 ⟨h, ht, rfl⟩, nI_1 (fwL n (Q h)), nI_1 t]
      refine ⟨vp_in_nI (by omega) (by omega), vp_in_nI (by omega) (by omega), vp_in_nI (by omega) (by omega), ?_⟩
      refine ih (g + 1) (t + 1) (pshQ t Q (swL n (Q h) g)) _ (by omega) (by omega) H' (C7.psh hn hy (by rw [e1])) ((F'.uI _ (show HH 125 _ from Or.inl rfl)).uI _ (show HH 126 _ from Or.inr (Or.inl rfl))) (fun p hp => ?_)
      rw [psh_old ht, uI_ne _ _ _ (by omega), uI_ne _ _ _ (by omega)]
      exact c7 p hp
theorem hm_50 {P : aw_S → Prop} (hn : n ≤ 7) (hR : RefsOk S.2.2) (h0 : S.1 115 0 = nI n) (k : ∀ S', FrI HH S S' → (∀ y, isO n y → S'.1 125 (nuL y 0) = nI (fwL n y)) → P S') : ∀ m h t Q W, h + m = fcN n → SrH n h 0 t Q → SrC W n t Q → FrI HH S W → AW l m_Md_laysHome (d + 3) 0 0 (gV sh0 P) 0 0 50 [.ref 114, .null, .int (nI t), .int (nI h), .null, .null] [] sh0 W := by
  have fin : ∀ t Q W, SrH n t 0 t Q → SrC W n t Q → FrI HH S W → P W := fun t Q W H C F => k W F (fun y hy => (C.2 y hy).1 (H.all hn _ y hy rfl))
  intro m
  induction m with
  | zero =>
    intro h t Q W hh H C F
    have hh : h = fcN n := hh
    have tle := H.le hn
    have h9 : h ≤ t := H.2.2.2.2.2.2.2.2
    have e : h = t := by omega
    rw [e] at H ⊢
    exact s_Md_laysHome_50 rfl ⟨fun _ => fin t Q W H C F, fun z => absurd (Int32.le_refl _) z⟩
  | succ m ih =>
    intro h t Q W hh H C F
    have tle := H.le hn
    have fle := fc_le n (by omega)
    have h9 : h ≤ t := H.2.2.2.2.2.2.2.2
    by_cases e : h = t
    · rw [e] at H ⊢
      exact s_Md_laysHome_50 rfl ⟨fun _ => fin t Q W H C F, fun z => absurd (Int32.le_refl _) z⟩
    · have ht : h < t := by omega
      have hRW : RefsOk W.2.2 := by rw [F.R]; exact hR
      have h0W : W.1 115 0 = nI n := by rw [F.1 115 0 (by unfold HH; omega)]; exact h0
      have ck := (H.2.2.1 h ht).ck hn
      refine s_Md_laysHome_50 rfl ⟨fun z => absurd ((nI_leI (by omega) (by omega)).mp z) (by omega), fun _ => ⟨126, hRW.at (by decide), 5040, rfl, vp_in_nI (by omega) (by omega), ?_⟩⟩
      rw [nI_clamp (by omega), C.1 h ht]
      refine sp_laysOrder (d := d) hn hRW h0W ck.1 (fun S6 F6 c6 => ?_)
      rw [ck.2.1] at c6
      exact hm_68 hn hR h0 (fun t' Q' W' H' C' F' => ih (h + 1) t' Q' W' (by omega) H' C' F') (gpN n) 0 t Q S6 (by omega) ht H (C.fr F6) (F.trans (F6.mono (fun k j q => Or.inr (Or.inr q)))) c6
theorem sp_laysHome {P : aw_S → Prop} (hn : n ≤ 7) (hR : RefsOk S.2.2) (h0 : S.1 115 0 = nI n) (k : ∀ S', FrI HH S S' → (∀ y, isO n y → S'.1 125 (nuL y 0) = nI (fwL n y)) → P S') : Sp l m_Md_laysHome (d + 3) 0 0 [.ref 114] sh0 S (gV sh0 P) := by
  have fle := fc_le n (by omega)
  have fpo := fc_pos n
  have key : ∀ m i W, i + m = fcN n → FrI HH S W → (∀ j, j < i → W.1 125 j = nI 1000000) → AW l m_Md_laysHome (d + 3) 0 0 (gV sh0 P) 0 0 12 [.ref 114, .int (nI (fcN n)), .int (nI i), .null, .null, .null] [] sh0 W := by
    intro m
    induction m with
    | zero =>
      intro i W hi F c
      have hi : i = fcN n := hi
      have hRW : RefsOk W.2.2 := by rw [F.R]; exact hR
      subst hi
      refine s_Md_laysHome_12 rfl ⟨fun _ => ⟨125, hRW.at (by decide), 5040, rfl, vp_in_nI (n := 0) (by omega) (by omega), 126, hRW.at (by decide), 5040, rfl, vp_in_nI (n := 0) (by omega) (by omega), ?_⟩, fun z => absurd (Int32.le_refl _) z⟩
      refine hm_50 hn hR h0 k (fcN n) 0 1 (fun _ => upL n 0) _ (by omega) (SrH.beg n) ?_ ((F.uI _ (show HH 125 _ from Or.inl rfl)).uI _ (show HH 126 _ from Or.inr (Or.inl rfl)))
      obtain ⟨w1, w2⟩ := fw_home n (by omega)
      refine ⟨fun j hj => ?_, fun y hy => ?_⟩
      · show _ = nI (nuL (upL n 0) 0)
        have e : (aw_uI (aw_uI W 125 (0 : Int32).toNatClampNeg 0) 126 (0 : Int32).toNatClampNeg 0).1 126 j = if j = (0 : Int32).toNatClampNeg then 0 else (aw_uI W 125 (0 : Int32).toNatClampNeg 0).1 126 j := by rw [uI_at, if_pos rfl]
        rw [e, if_pos (show j = (0 : Int32).toNatClampNeg by have : (0 : Int32).toNatClampNeg = 0 := rfl; omega), w2]
        rfl
      · have z0 : (0 : Int32).toNatClampNeg = 0 := rfl
        rw [z0, uI_at, if_neg (by omega), uI_at, if_pos rfl]
        have ly := (hy.ck hn).1
        by_cases e : nuL y 0 = 0
        · have ey : y = upL n 0 := nu_inj hn hy (isO.home n) (by rw [e, w2])
          rw [if_pos e, ey, w1]
          exact ⟨fun _ => rfl, fun q => absurd ⟨0, Nat.one_pos, rfl⟩ q⟩
        · rw [if_neg e]
          refine ⟨fun q => ?_, fun _ => c _ ly⟩
          obtain ⟨i, -, q⟩ := q
          have q : upL n 0 = y := q
          rw [← q, w2] at e
          exact absurd rfl e
    | succ m ih =>
      intro i W hi F c
      have hRW : RefsOk W.2.2 := by rw [F.R]; exact hR
      refine s_Md_laysHome_12 rfl ⟨fun z => absurd ((nI_leI (by omega) (by omega)).mp z) (by omega), fun _ => ⟨125, hRW.at (by decide), 5040, rfl, vp_in_nI (by omega) (by omega), ?_⟩⟩
      rw [nI_clamp (by omega), nI_1]
      refine ih (i + 1) _ (by omega) (F.uI _ (show HH 125 _ from Or.inl rfl)) (fun j hj => ?_)
      rw [uI_at, if_pos rfl]
      by_cases e : j = i
      · rw [if_pos e]; rfl
      · rw [if_neg e]; exact c j (by omega)
  have e0 : S.1 115 (0 : Int32).toNatClampNeg = nI n := h0
  refine e_Md_laysHome rfl ⟨115, hR.at (by decide), 3864, rfl, vp_in_nI (n := 0) (by omega) (by omega), ?_⟩
  rw [e0]
  exact sp_ordersOf (d := d + 1) hn (key (fcN n) 0 S (by omega) (FrI.refl _ S) (fun j hj => absurd hj (Nat.not_lt_zero j)))
end HSR
