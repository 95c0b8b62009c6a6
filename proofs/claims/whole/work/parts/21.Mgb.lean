set_option maxRecDepth 4000 in
theorem e_Mg_status {l : Launch} {d : Nat} {sh : aw_SH} {S : aw_S} {P : Int32 → aw_S → Prop} {a : Nat} (sa : sh[a]? = some (0, 0)) (h : P (S.1 a 3) S) : Sp l m_Mg_status (d + 1) 0 0 [.ref a] sh S (gI sh P) := by
  refine Sp.of k_Mg_status (ls := [.ref a]) rfl (Nat.le_of_ble_eq_true rfl) ?_
  refine r_aload_n (pc := 0) d_Mg_status_0 (x := a) rfl ?_
  refine r_getI (pc := 1) d_Mg_status_1 f_Mg_96 sa rfl ?_
  exact r_ireturn (pc := 4) d_Mg_status_4 rfl rfl (Nat.le_refl _) ⟨rfl, _, rfl, h⟩
set_option maxRecDepth 4000 in
theorem e_Mg_top {l : Launch} {d : Nat} {sh : aw_SH} {S : aw_S} {P : Int64 → aw_S → Prop} {a : Nat} (sa : sh[a]? = some (0, 0)) (h : ∃ r1, S.2.2 a 18 = some r1 ∧ sh[r1]? = some (0, 10) ∧ P (S.2.1 r1 0) S) : Sp l m_Mg_top (d + 1) 0 0 [.ref a] sh S (gL sh P) := by
  refine Sp.of k_Mg_top (ls := [.ref a]) rfl (Nat.le_of_ble_eq_true rfl) ?_
  refine r_aload_n (pc := 0) d_Mg_top_0 (x := a) rfl ?_
  obtain ⟨r1, er1, h⟩ := h
  refine r_getR (pc := 1) d_Mg_top_1 f_Mg_92 sa (Or.inl ⟨_, rfl⟩) (r := r1) er1 ?_
  obtain ⟨s2, h⟩ := h
  refine r_getL (pc := 4) d_Mg_top_4 f_Mg_99 s2 rfl ?_
  exact r_lreturn (pc := 7) d_Mg_top_7 rfl rfl (Nat.le_refl _) ⟨rfl, _, rfl, h⟩
set_option maxRecDepth 4000 in
theorem e_Mg_bottom {l : Launch} {d : Nat} {sh : aw_SH} {S : aw_S} {P : Int64 → aw_S → Prop} {a : Nat} (sa : sh[a]? = some (0, 0)) (h : ∃ r1, S.2.2 a 18 = some r1 ∧ sh[r1]? = some (0, 10) ∧ P (S.2.1 r1 1) S) : Sp l m_Mg_bottom (d + 1) 0 0 [.ref a] sh S (gL sh P) := by
  refine Sp.of k_Mg_bottom (ls := [.ref a]) rfl (Nat.le_of_ble_eq_true rfl) ?_
  refine r_aload_n (pc := 0) d_Mg_bottom_0 (x := a) rfl ?_
  obtain ⟨r1, er1, h⟩ := h
  refine r_getR (pc := 1) d_Mg_bottom_1 f_Mg_92 sa (Or.inl ⟨_, rfl⟩) (r := r1) er1 ?_
  obtain ⟨s2, h⟩ := h
  refine r_getL (pc := 4) d_Mg_bottom_4 f_Mg_103 s2 rfl ?_
  exact r_lreturn (pc := 7) d_Mg_bottom_7 rfl rfl (Nat.le_refl _) ⟨rfl, _, rfl, h⟩
set_option maxRecDepth 4000 in
theorem e_Mg_tray {l : Launch} {d : Nat} {sh : aw_SH} {S : aw_S} {P : Int32 → aw_S → Prop} {a : Nat} {p0 : Int32} {p1 : Int32} {p2 : Int32} (sa : sh[a]? = some (0, 0)) (h : Sp l m_Mg_isTray d 0 0 [.int p0] sh S (gI sh (fun x2 S1 => ((x2 = 0 → Sp l m_Mg_refuse d 0 0 [.ref a, .int 1] sh S1 (gI sh (fun x5 S4 => ((x5 = 0 ∨ x5 = 1) ∧ P x5 S4)))) ∧ (¬ x2 = 0 → Sp l m_Mg_isWithin d 0 0 [.int p1, .int 0, .int 3] sh S1 (gI sh (fun x8 S7 => ((x8 = 0 → Sp l m_Mg_refuse d 0 0 [.ref a, .int 1] sh S7 (gI sh (fun x11 S10 => ((x11 = 0 ∨ x11 = 1) ∧ P x11 S10)))) ∧ (¬ x8 = 0 → Sp l m_Mg_isWithin d 0 0 [.int p2, .int 0, .int 60] sh S7 (gI sh (fun x14 S13 => ((¬ x14 = 0 → ∃ r16, S13.2.2 a 0 = some r16 ∧ ∃ n18, sh[r16]? = some (5, n18) ∧ vp_in p0 n18 ∧ ∃ r20, S13.2.2 r16 p0.toNatClampNeg = some r20 ∧ sh[r20]? = some (0, 1) ∧ Sp l m_Tr_become d 0 0 [.ref r20, .int p1, .int p2] sh S13 (gV sh (fun S22 => Sp l m_Mg_grant d 0 0 [.ref a] sh S22 (gI sh (fun x24 S23 => ((x24 = 0 ∨ x24 = 1) ∧ P x24 S23)))))) ∧ (x14 = 0 → Sp l m_Mg_refuse d 0 0 [.ref a, .int 1] sh S13 (gI sh (fun x27 S26 => ((x27 = 0 ∨ x27 = 1) ∧ P x27 S26)))))))))))))))) : Sp l m_Mg_tray (d + 1) 0 0 [.ref a, .int p0, .int p1, .int p2] sh S (gI sh P) := by
  refine Sp.of k_Mg_tray (ls := [.ref a, .int p0, .int p1, .int p2]) rfl (Nat.le_of_ble_eq_true rfl) ?_
  refine r_iload_n (pc := 0) d_Mg_tray_0 (x := p0) rfl ?_
  refine r_callS (pc := 1) (k := 0) (As := [.int p0]) (rest := []) (mc' := 0) (ms' := 0) lk_Mg_106 st_Mg_isTray d_Mg_tray_1 k_Mg_isTray rfl rfl (Nat.le_of_ble_eq_true rfl) (by decide) (by decide) (Sp.mono h ?_)
  rintro rS1 shS1 S1 ⟨qS1, x2, uS1, h⟩
  subst uS1
  rw [qS1]
  refine r_if_eq (pc := 4) d_Mg_tray_4 (tgt := 26) (by decide) (fun c3 => ?_) (fun c3 => ?_)
  · replace h := h.1 c3
    refine r_aload_n (pc := 26) d_Mg_tray_26 (x := a) rfl ?_
    refine r_iconst (pc := 27) d_Mg_tray_27 (v := 1) (by decide) ?_
    refine r_callV (pc := 28) (k := a) (As := [.int 1]) (rest := []) (mc' := 0) (ms' := 0) lk_Mg_114 in_Mg_refuse se_Mg_refuse sa rfl d_Mg_tray_28 k_Mg_refuse rfl rfl (Nat.le_of_ble_eq_true rfl) (by decide) (by decide) (Sp.mono h ?_)
    rintro rS4 shS4 S4 ⟨qS4, x5, uS4, h⟩
    subst uS4
    rw [qS4]
    obtain ⟨g6, h⟩ := h
    exact r_zreturn (pc := 31) d_Mg_tray_31 rfl (aw_nb g6) rfl (Nat.le_refl _) ⟨rfl, _, rfl, h⟩
  · replace h := h.2 c3
    refine r_iload_n (pc := 7) d_Mg_tray_7 (x := p1) rfl ?_
    refine r_iconst (pc := 8) d_Mg_tray_8 (v := 0) (by decide) ?_
    refine r_iconst (pc := 9) d_Mg_tray_9 (v := 3) (by decide) ?_
    refine r_callS (pc := 10) (k := 0) (As := [.int p1, .int 0, .int 3]) (rest := []) (mc' := 0) (ms' := 0) lk_Mg_110 st_Mg_isWithin d_Mg_tray_10 k_Mg_isWithin rfl rfl (Nat.le_of_ble_eq_true rfl) (by decide) (by decide) (Sp.mono h ?_)
    rintro rS7 shS7 S7 ⟨qS7, x8, uS7, h⟩
    subst uS7
    rw [qS7]
    refine r_if_eq (pc := 13) d_Mg_tray_13 (tgt := 26) (by decide) (fun c9 => ?_) (fun c9 => ?_)
    · replace h := h.1 c9
      refine r_aload_n (pc := 26) d_Mg_tray_26 (x := a) rfl ?_
      refine r_iconst (pc := 27) d_Mg_tray_27 (v := 1) (by decide) ?_
      refine r_callV (pc := 28) (k := a) (As := [.int 1]) (rest := []) (mc' := 0) (ms' := 0) lk_Mg_114 in_Mg_refuse se_Mg_refuse sa rfl d_Mg_tray_28 k_Mg_refuse rfl rfl (Nat.le_of_ble_eq_true rfl) (by decide) (by decide) (Sp.mono h ?_)
      rintro rS10 shS10 S10 ⟨qS10, x11, uS10, h⟩
      subst uS10
      rw [qS10]
      obtain ⟨g12, h⟩ := h
      exact r_zreturn (pc := 31) d_Mg_tray_31 rfl (aw_nb g12) rfl (Nat.le_refl _) ⟨rfl, _, rfl, h⟩
    · replace h := h.2 c9
      refine r_iload_n (pc := 16) d_Mg_tray_16 (x := p2) rfl ?_
      refine r_iconst (pc := 17) d_Mg_tray_17 (v := 0) (by decide) ?_
      refine r_bipush (pc := 18) d_Mg_tray_18 (v := 60) (by decide) ?_
      refine r_callS (pc := 20) (k := 0) (As := [.int p2, .int 0, .int 60]) (rest := []) (mc' := 0) (ms' := 0) lk_Mg_110 st_Mg_isWithin d_Mg_tray_20 k_Mg_isWithin rfl rfl (Nat.le_of_ble_eq_true rfl) (by decide) (by decide) (Sp.mono h ?_)
      rintro rS13 shS13 S13 ⟨qS13, x14, uS13, h⟩
      subst uS13
      rw [qS13]
      refine r_if_ne (pc := 23) d_Mg_tray_23 (tgt := 32) (by decide) (fun c15 => ?_) (fun c15 => ?_)
      · replace h := h.1 c15
        refine r_aload_n (pc := 32) d_Mg_tray_32 (x := a) rfl ?_
        obtain ⟨r16, er16, h⟩ := h
        refine r_getR (pc := 33) d_Mg_tray_33 f_Mg_11 sa (Or.inr ⟨_, rfl⟩) (r := r16) er16 ?_
        refine r_iload_n (pc := 36) d_Mg_tray_36 (x := p0) rfl ?_
        obtain ⟨n18, s17, h⟩ := h
        obtain ⟨g19, h⟩ := h
        obtain ⟨r20, er20, h⟩ := h
        refine r_aald5 (pc := 37) d_Mg_tray_37 s17 g19 (r := r20) er20 ?_
        refine r_iload_n (pc := 38) d_Mg_tray_38 (x := p1) rfl ?_
        refine r_iload_n (pc := 39) d_Mg_tray_39 (x := p2) rfl ?_
        obtain ⟨s21, h⟩ := h
        refine r_callV (pc := 40) (k := r20) (As := [.int p1, .int p2]) (rest := []) (mc' := 0) (ms' := 0) lk_Mg_117 in_Tr_become se_Tr_become s21 rfl d_Mg_tray_40 k_Tr_become rfl rfl (Nat.le_of_ble_eq_true rfl) (by decide) (by decide) (Sp.mono h ?_)
        rintro rS22 shS22 S22 ⟨qS22, uS22, h⟩
        subst uS22
        rw [qS22]
        refine r_aload_n (pc := 43) d_Mg_tray_43 (x := a) rfl ?_
        refine r_callV (pc := 44) (k := a) (As := []) (rest := []) (mc' := 0) (ms' := 0) lk_Mg_121 in_Mg_grant se_Mg_grant sa rfl d_Mg_tray_44 k_Mg_grant rfl rfl (Nat.le_of_ble_eq_true rfl) (by decide) (by decide) (Sp.mono h ?_)
        rintro rS23 shS23 S23 ⟨qS23, x24, uS23, h⟩
        subst uS23
        rw [qS23]
        obtain ⟨g25, h⟩ := h
        exact r_zreturn (pc := 47) d_Mg_tray_47 rfl (aw_nb g25) rfl (Nat.le_refl _) ⟨rfl, _, rfl, h⟩
      · replace h := h.2 c15
        refine r_aload_n (pc := 26) d_Mg_tray_26 (x := a) rfl ?_
        refine r_iconst (pc := 27) d_Mg_tray_27 (v := 1) (by decide) ?_
        refine r_callV (pc := 28) (k := a) (As := [.int 1]) (rest := []) (mc' := 0) (ms' := 0) lk_Mg_114 in_Mg_refuse se_Mg_refuse sa rfl d_Mg_tray_28 k_Mg_refuse rfl rfl (Nat.le_of_ble_eq_true rfl) (by decide) (by decide) (Sp.mono h ?_)
        rintro rS26 shS26 S26 ⟨qS26, x27, uS26, h⟩
        subst uS26
        rw [qS26]
        obtain ⟨g28, h⟩ := h
        exact r_zreturn (pc := 31) d_Mg_tray_31 rfl (aw_nb g28) rfl (Nat.le_refl _) ⟨rfl, _, rfl, h⟩
set_option maxRecDepth 4000 in
theorem e_Mg_isTray {l : Launch} {d : Nat} {sh : aw_SH} {S : aw_S} {P : Int32 → aw_S → Prop} {p0 : Int32} (h : Sp l m_Mg_isWithin d 0 0 [.int p0, .int 0, .int 3] sh S (gI sh (fun x2 S1 => ((x2 = 0 ∨ x2 = 1) ∧ P x2 S1)))) : Sp l m_Mg_isTray (d + 1) 0 0 [.int p0] sh S (gI sh P) := by
  refine Sp.of k_Mg_isTray (ls := [.int p0]) rfl (Nat.le_of_ble_eq_true rfl) ?_
  refine r_iload_n (pc := 0) d_Mg_isTray_0 (x := p0) rfl ?_
  refine r_iconst (pc := 1) d_Mg_isTray_1 (v := 0) (by decide) ?_
  refine r_iconst (pc := 2) d_Mg_isTray_2 (v := 3) (by decide) ?_
  refine r_callS (pc := 3) (k := 0) (As := [.int p0, .int 0, .int 3]) (rest := []) (mc' := 0) (ms' := 0) lk_Mg_110 st_Mg_isWithin d_Mg_isTray_3 k_Mg_isWithin rfl rfl (Nat.le_of_ble_eq_true rfl) (by decide) (by decide) (Sp.mono h ?_)
  rintro rS1 shS1 S1 ⟨qS1, x2, uS1, h⟩
  subst uS1
  rw [qS1]
  obtain ⟨g3, h⟩ := h
  exact r_zreturn (pc := 6) d_Mg_isTray_6 rfl (aw_nb g3) rfl (Nat.le_refl _) ⟨rfl, _, rfl, h⟩
set_option maxRecDepth 4000 in
theorem e_Mg_isWithin {l : Launch} {d : Nat} {sh : aw_SH} {S : aw_S} {P : Int32 → aw_S → Prop} {p0 : Int32} {p1 : Int32} {p2 : Int32} (h : ((p0 < p1 → P 0 S) ∧ (¬ p0 < p1 → ((p2 < p0 → P 0 S) ∧ (¬ p2 < p0 → P 1 S))))) : Sp l m_Mg_isWithin (d + 1) 0 0 [.int p0, .int p1, .int p2] sh S (gI sh P) := by
  refine Sp.of k_Mg_isWithin (ls := [.int p0, .int p1, .int p2]) rfl (Nat.le_of_ble_eq_true rfl) ?_
  refine r_iload_n (pc := 0) d_Mg_isWithin_0 (x := p0) rfl ?_
  refine r_iload_n (pc := 1) d_Mg_isWithin_1 (x := p1) rfl ?_
  refine r_icmp_lt (pc := 2) d_Mg_isWithin_2 (tgt := 14) (by decide) (fun c1 => ?_) (fun c1 => ?_)
  · replace h := h.1 c1
    refine r_iconst (pc := 14) d_Mg_isWithin_14 (v := 0) (by decide) ?_
    exact r_zreturn (pc := 15) d_Mg_isWithin_15 (v := 0) rfl (by decide) rfl (Nat.le_refl _) ⟨rfl, _, rfl, h⟩
  · replace h := h.2 c1
    refine r_iload_n (pc := 5) d_Mg_isWithin_5 (x := p0) rfl ?_
    refine r_iload_n (pc := 6) d_Mg_isWithin_6 (x := p2) rfl ?_
    refine r_icmp_gt (pc := 7) d_Mg_isWithin_7 (tgt := 14) (by decide) (fun c2 => ?_) (fun c2 => ?_)
    · replace h := h.1 c2
      refine r_iconst (pc := 14) d_Mg_isWithin_14 (v := 0) (by decide) ?_
      exact r_zreturn (pc := 15) d_Mg_isWithin_15 (v := 0) rfl (by decide) rfl (Nat.le_refl _) ⟨rfl, _, rfl, h⟩
    · replace h := h.2 c2
      refine r_iconst (pc := 10) d_Mg_isWithin_10 (v := 1) (by decide) ?_
      refine r_goto (pc := 11) d_Mg_isWithin_11 (tgt := 15) (by decide) ?_
      exact r_zreturn (pc := 15) d_Mg_isWithin_15 (v := 1) rfl (by decide) rfl (Nat.le_refl _) ⟨rfl, _, rfl, h⟩
set_option maxRecDepth 4000 in
theorem e_Mg_refuse {l : Launch} {d : Nat} {sh : aw_SH} {S : aw_S} {P : Int32 → aw_S → Prop} {a : Nat} {p0 : Int32} (sa : sh[a]? = some (0, 0)) (h : P 0 (aw_uI S a 3 p0)) : Sp l m_Mg_refuse (d + 1) 0 0 [.ref a, .int p0] sh S (gI sh P) := by
  refine Sp.of k_Mg_refuse (ls := [.ref a, .int p0]) rfl (Nat.le_of_ble_eq_true rfl) ?_
  refine r_aload_n (pc := 0) d_Mg_refuse_0 (x := a) rfl ?_
  refine r_iload_n (pc := 1) d_Mg_refuse_1 (x := p0) rfl ?_
  refine r_putI (pc := 2) d_Mg_refuse_2 f_Mg_96 sa rfl ?_
  refine r_iconst (pc := 5) d_Mg_refuse_5 (v := 0) (by decide) ?_
  exact r_zreturn (pc := 6) d_Mg_refuse_6 (v := 0) rfl (by decide) rfl (Nat.le_refl _) ⟨rfl, _, rfl, h⟩
set_option maxRecDepth 4000 in
theorem e_Mg_grant {l : Launch} {d : Nat} {sh : aw_SH} {S : aw_S} {P : Int32 → aw_S → Prop} {a : Nat} (sa : sh[a]? = some (0, 0)) (h : P 1 (aw_uI S a 3 0)) : Sp l m_Mg_grant (d + 1) 0 0 [.ref a] sh S (gI sh P) := by
  refine Sp.of k_Mg_grant (ls := [.ref a]) rfl (Nat.le_of_ble_eq_true rfl) ?_
  refine r_aload_n (pc := 0) d_Mg_grant_0 (x := a) rfl ?_
  refine r_iconst (pc := 1) d_Mg_grant_1 (v := 0) (by decide) ?_
  refine r_putI (pc := 2) d_Mg_grant_2 f_Mg_96 sa rfl ?_
  refine r_iconst (pc := 5) d_Mg_grant_5 (v := 1) (by decide) ?_
  exact r_zreturn (pc := 6) d_Mg_grant_6 (v := 1) rfl (by decide) rfl (Nat.le_refl _) ⟨rfl, _, rfl, h⟩
set_option maxRecDepth 4000 in
theorem e_Mg_write {l : Launch} {d : Nat} {sh : aw_SH} {S : aw_S} {P : Int32 → aw_S → Prop} {a : Nat} {p0 : Int32} {p1 : Int32} {p2 : Int64} (sa : sh[a]? = some (0, 0)) (h : Sp l m_Mg_cellProblem d 0 0 [.ref a, .int p0, .int p1] sh S (gI sh (fun x2 S1 => ((x2 = 0 → ∃ r4, S1.2.2 a 0 = some r4 ∧ ∃ n6, sh[r4]? = some (5, n6) ∧ vp_in p0 n6 ∧ ∃ r8, S1.2.2 r4 p0.toNatClampNeg = some r8 ∧ sh[r8]? = some (0, 1) ∧ Sp l m_Tr_put d 0 0 [.ref r8, .int p1, .long p2] sh S1 (gV sh (fun S10 => Sp l m_Mg_grant d 0 0 [.ref a] sh S10 (gI sh (fun x12 S11 => ((x12 = 0 ∨ x12 = 1) ∧ P x12 S11)))))) ∧ (¬ x2 = 0 → Sp l m_Mg_refuse d 0 0 [.ref a, .int x2] sh S1 (gI sh (fun x15 S14 => ((x15 = 0 ∨ x15 = 1) ∧ P x15 S14)))))))) : Sp l m_Mg_write (d + 1) 0 0 [.ref a, .int p0, .int p1, .long p2] sh S (gI sh P) := by
  refine Sp.of k_Mg_write (ls := [.ref a, .int p0, .int p1, .long p2, .null, .null]) rfl (Nat.le_of_ble_eq_true rfl) ?_
  refine r_aload_n (pc := 0) d_Mg_write_0 (x := a) rfl ?_
  refine r_iload_n (pc := 1) d_Mg_write_1 (x := p0) rfl ?_
  refine r_iload_n (pc := 2) d_Mg_write_2 (x := p1) rfl ?_
  refine r_callV (pc := 3) (k := a) (As := [.int p0, .int p1]) (rest := []) (mc' := 0) (ms' := 0) lk_Mg_125 in_Mg_cellProblem se_Mg_cellProblem sa rfl d_Mg_write_3 k_Mg_cellProblem rfl rfl (Nat.le_of_ble_eq_true rfl) (by decide) (by decide) (Sp.mono h ?_)
  rintro rS1 shS1 S1 ⟨qS1, x2, uS1, h⟩
  subst uS1
  rw [qS1]
  refine r_istore (pc := 6) (hd := d_Mg_write_6) (hi := by decide) (ls2 := [.ref a, .int p0, .int p1, .long p2, .null, .int x2]) (h2 := rfl) ?_
  refine r_iload (pc := 8) d_Mg_write_8 (x := x2) rfl ?_
  refine r_if_eq (pc := 10) d_Mg_write_10 (tgt := 20) (by decide) (fun c3 => ?_) (fun c3 => ?_)
  · replace h := h.1 c3
    refine r_aload_n (pc := 20) d_Mg_write_20 (x := a) rfl ?_
    obtain ⟨r4, er4, h⟩ := h
    refine r_getR (pc := 21) d_Mg_write_21 f_Mg_11 sa (Or.inr ⟨_, rfl⟩) (r := r4) er4 ?_
    refine r_iload_n (pc := 24) d_Mg_write_24 (x := p0) rfl ?_
    obtain ⟨n6, s5, h⟩ := h
    obtain ⟨g7, h⟩ := h
    obtain ⟨r8, er8, h⟩ := h
    refine r_aald5 (pc := 25) d_Mg_write_25 s5 g7 (r := r8) er8 ?_
    refine r_iload_n (pc := 26) d_Mg_write_26 (x := p1) rfl ?_
    refine r_lload_n (pc := 27) d_Mg_write_27 (x := p2) rfl ?_
    obtain ⟨s9, h⟩ := h
    refine r_callV (pc := 28) (k := r8) (As := [.int p1, .long p2]) (rest := []) (mc' := 0) (ms' := 0) lk_Mg_129 in_Tr_put se_Tr_put s9 rfl d_Mg_write_28 k_Tr_put rfl rfl (Nat.le_of_ble_eq_true rfl) (by decide) (by decide) (Sp.mono h ?_)
    rintro rS10 shS10 S10 ⟨qS10, uS10, h⟩
    subst uS10
    rw [qS10]
    refine r_aload_n (pc := 31) d_Mg_write_31 (x := a) rfl ?_
    refine r_callV (pc := 32) (k := a) (As := []) (rest := []) (mc' := 0) (ms' := 0) lk_Mg_121 in_Mg_grant se_Mg_grant sa rfl d_Mg_write_32 k_Mg_grant rfl rfl (Nat.le_of_ble_eq_true rfl) (by decide) (by decide) (Sp.mono h ?_)
    rintro rS11 shS11 S11 ⟨qS11, x12, uS11, h⟩
    subst uS11
    rw [qS11]
    obtain ⟨g13, h⟩ := h
    exact r_zreturn (pc := 35) d_Mg_write_35 rfl (aw_nb g13) rfl (Nat.le_refl _) ⟨rfl, _, rfl, h⟩
  · replace h := h.2 c3
    refine r_aload_n (pc := 13) d_Mg_write_13 (x := a) rfl ?_
    refine r_iload (pc := 14) d_Mg_write_14 (x := x2) rfl ?_
    refine r_callV (pc := 16) (k := a) (As := [.int x2]) (rest := []) (mc' := 0) (ms' := 0) lk_Mg_114 in_Mg_refuse se_Mg_refuse sa rfl d_Mg_write_16 k_Mg_refuse rfl rfl (Nat.le_of_ble_eq_true rfl) (by decide) (by decide) (Sp.mono h ?_)
    rintro rS14 shS14 S14 ⟨qS14, x15, uS14, h⟩
    subst uS14
    rw [qS14]
    obtain ⟨g16, h⟩ := h
    exact r_zreturn (pc := 19) d_Mg_write_19 rfl (aw_nb g16) rfl (Nat.le_refl _) ⟨rfl, _, rfl, h⟩
set_option maxRecDepth 4000 in
theorem e_Mg_cellProblem {l : Launch} {d : Nat} {sh : aw_SH} {S : aw_S} {P : Int32 → aw_S → Prop} {a : Nat} {p0 : Int32} {p1 : Int32} (sa : sh[a]? = some (0, 0)) (h : Sp l m_Mg_isTray d 0 0 [.int p0] sh S (gI sh (fun x2 S1 => ((¬ x2 = 0 → ∃ r4, S1.2.2 a 0 = some r4 ∧ ∃ n6, sh[r4]? = some (5, n6) ∧ vp_in p0 n6 ∧ ∃ r8, S1.2.2 r4 p0.toNatClampNeg = some r8 ∧ sh[r8]? = some (0, 1) ∧ ((¬ (S1.1 r8 1) = 0 → vp_in p0 n6 ∧ ∃ r12, S1.2.2 r4 p0.toNatClampNeg = some r12 ∧ sh[r12]? = some (0, 1) ∧ Sp l m_Mg_isWithin d 0 0 [.int p1, .int 0, .int ((S1.1 r12 3) - (1 : Int32))] sh S1 (gI sh (fun x15 S14 => ((x15 = 0 → P 3 S14) ∧ (¬ x15 = 0 → P 0 S14))))) ∧ ((S1.1 r8 1) = 0 → P 2 S1))) ∧ (x2 = 0 → P 1 S1))))) : Sp l m_Mg_cellProblem (d + 1) 0 0 [.ref a, .int p0, .int p1] sh S (gI sh P) := by
  refine Sp.of k_Mg_cellProblem (ls := [.ref a, .int p0, .int p1]) rfl (Nat.le_of_ble_eq_true rfl) ?_
  refine r_iload_n (pc := 0) d_Mg_cellProblem_0 (x := p0) rfl ?_
  refine r_callS (pc := 1) (k := 0) (As := [.int p0]) (rest := []) (mc' := 0) (ms' := 0) lk_Mg_106 st_Mg_isTray d_Mg_cellProblem_1 k_Mg_isTray rfl rfl (Nat.le_of_ble_eq_true rfl) (by decide) (by decide) (Sp.mono h ?_)
  rintro rS1 shS1 S1 ⟨qS1, x2, uS1, h⟩
  subst uS1
  rw [qS1]
  refine r_if_ne (pc := 4) d_Mg_cellProblem_4 (tgt := 9) (by decide) (fun c3 => ?_) (fun c3 => ?_)
  · replace h := h.1 c3
    refine r_aload_n (pc := 9) d_Mg_cellProblem_9 (x := a) rfl ?_
    obtain ⟨r4, er4, h⟩ := h
    refine r_getR (pc := 10) d_Mg_cellProblem_10 f_Mg_11 sa (Or.inr ⟨_, rfl⟩) (r := r4) er4 ?_
    refine r_iload_n (pc := 13) d_Mg_cellProblem_13 (x := p0) rfl ?_
    obtain ⟨n6, s5, h⟩ := h
    obtain ⟨g7, h⟩ := h
    obtain ⟨r8, er8, h⟩ := h
    refine r_aald5 (pc := 14) d_Mg_cellProblem_14 s5 g7 (r := r8) er8 ?_
    obtain ⟨s9, h⟩ := h
    refine r_getI (pc := 15) d_Mg_cellProblem_15 f_Mg_141 s9 rfl ?_
    refine r_if_ne (pc := 18) d_Mg_cellProblem_18 (tgt := 23) (by decide) (fun c10 => ?_) (fun c10 => ?_)
    · replace h := h.1 c10
      refine r_iload_n (pc := 23) d_Mg_cellProblem_23 (x := p1) rfl ?_
      refine r_iconst (pc := 24) d_Mg_cellProblem_24 (v := 0) (by decide) ?_
      refine r_aload_n (pc := 25) d_Mg_cellProblem_25 (x := a) rfl ?_
      refine r_getR (pc := 26) d_Mg_cellProblem_26 f_Mg_11 sa (Or.inr ⟨_, rfl⟩) (r := r4) er4 ?_
      refine r_iload_n (pc := 29) d_Mg_cellProblem_29 (x := p0) rfl ?_
      obtain ⟨g11, h⟩ := h
      obtain ⟨r12, er12, h⟩ := h
      refine r_aald5 (pc := 30) d_Mg_cellProblem_30 s5 g11 (r := r12) er12 ?_
      obtain ⟨s13, h⟩ := h
      refine r_getI (pc := 31) d_Mg_cellProblem_31 f_Mg_360 s13 rfl ?_
      refine r_iconst (pc := 34) d_Mg_cellProblem_34 (v := 1) (by decide) ?_
      refine r_isub (pc := 35) d_Mg_cellProblem_35 ?_
      refine r_callS (pc := 36) (k := 0) (As := [.int p1, .int 0, .int ((S1.1 r12 3) - (1 : Int32))]) (rest := []) (mc' := 0) (ms' := 0) lk_Mg_110 st_Mg_isWithin d_Mg_cellProblem_36 k_Mg_isWithin rfl rfl (Nat.le_of_ble_eq_true rfl) (by decide) (by decide) (Sp.mono h ?_)
      rintro rS14 shS14 S14 ⟨qS14, x15, uS14, h⟩
      subst uS14
      rw [qS14]
      refine r_if_eq (pc := 39) d_Mg_cellProblem_39 (tgt := 46) (by decide) (fun c16 => ?_) (fun c16 => ?_)
      · replace h := h.1 c16
        refine r_iconst (pc := 46) d_Mg_cellProblem_46 (v := 3) (by decide) ?_
        exact r_ireturn (pc := 47) d_Mg_cellProblem_47 rfl rfl (Nat.le_refl _) ⟨rfl, _, rfl, h⟩
      · replace h := h.2 c16
        refine r_iconst (pc := 42) d_Mg_cellProblem_42 (v := 0) (by decide) ?_
        refine r_goto (pc := 43) d_Mg_cellProblem_43 (tgt := 47) (by decide) ?_
        exact r_ireturn (pc := 47) d_Mg_cellProblem_47 rfl rfl (Nat.le_refl _) ⟨rfl, _, rfl, h⟩
    · replace h := h.2 c10
      refine r_iconst (pc := 21) d_Mg_cellProblem_21 (v := 2) (by decide) ?_
      exact r_ireturn (pc := 22) d_Mg_cellProblem_22 rfl rfl (Nat.le_refl _) ⟨rfl, _, rfl, h⟩
  · replace h := h.2 c3
    refine r_iconst (pc := 7) d_Mg_cellProblem_7 (v := 1) (by decide) ?_
    exact r_ireturn (pc := 8) d_Mg_cellProblem_8 rfl rfl (Nat.le_refl _) ⟨rfl, _, rfl, h⟩
set_option maxRecDepth 4000 in
theorem e_Mg_read {l : Launch} {d : Nat} {sh : aw_SH} {S : aw_S} {P : Int64 → aw_S → Prop} {a : Nat} {p0 : Int32} {p1 : Int32} (sa : sh[a]? = some (0, 0)) (h : Sp l m_Mg_cellProblem d 0 0 [.ref a, .int p0, .int p1] sh S (gI sh (fun x2 S1 => ((x2 = 0 → ∃ r4, (aw_uI S1 a 3 0).2.2 a 0 = some r4 ∧ ∃ n6, sh[r4]? = some (5, n6) ∧ vp_in p0 n6 ∧ ∃ r8, (aw_uI S1 a 3 0).2.2 r4 p0.toNatClampNeg = some r8 ∧ sh[r8]? = some (0, 1) ∧ ∃ r10, (aw_uI S1 a 3 0).2.2 r8 0 = some r10 ∧ ∃ n12, sh[r10]? = some (4, n12) ∧ vp_in p1 n12 ∧ P ((aw_uI S1 a 3 0).2.1 r10 p1.toNatClampNeg) (aw_uI S1 a 3 0)) ∧ (¬ x2 = 0 → Sp l m_Mg_fail d 0 0 [.ref a, .int x2] sh S1 (gI sh (fun x15 S14 => P x15.toInt64 S14))))))) : Sp l m_Mg_read (d + 1) 0 0 [.ref a, .int p0, .int p1] sh S (gL sh P) := by
  refine Sp.of k_Mg_read (ls := [.ref a, .int p0, .int p1, .null]) rfl (Nat.le_of_ble_eq_true rfl) ?_
  refine r_aload_n (pc := 0) d_Mg_read_0 (x := a) rfl ?_
  refine r_iload_n (pc := 1) d_Mg_read_1 (x := p0) rfl ?_
  refine r_iload_n (pc := 2) d_Mg_read_2 (x := p1) rfl ?_
  refine r_callV (pc := 3) (k := a) (As := [.int p0, .int p1]) (rest := []) (mc' := 0) (ms' := 0) lk_Mg_125 in_Mg_cellProblem se_Mg_cellProblem sa rfl d_Mg_read_3 k_Mg_cellProblem rfl rfl (Nat.le_of_ble_eq_true rfl) (by decide) (by decide) (Sp.mono h ?_)
  rintro rS1 shS1 S1 ⟨qS1, x2, uS1, h⟩
  subst uS1
  rw [qS1]
  refine r_istore_n (pc := 6) (hk := rfl) (hd := d_Mg_read_6) (hi := by decide) (ls2 := [.ref a, .int p0, .int p1, .int x2]) (h2 := rfl) ?_
  refine r_iload_n (pc := 7) d_Mg_read_7 (x := x2) rfl ?_
  refine r_if_eq (pc := 8) d_Mg_read_8 (tgt := 18) (by decide) (fun c3 => ?_) (fun c3 => ?_)
  · replace h := h.1 c3
    refine r_aload_n (pc := 18) d_Mg_read_18 (x := a) rfl ?_
    refine r_iconst (pc := 19) d_Mg_read_19 (v := 0) (by decide) ?_
    refine r_putI (pc := 20) d_Mg_read_20 f_Mg_96 sa rfl ?_
    refine r_aload_n (pc := 23) d_Mg_read_23 (x := a) rfl ?_
    obtain ⟨r4, er4, h⟩ := h
    refine r_getR (pc := 24) d_Mg_read_24 f_Mg_11 sa (Or.inr ⟨_, rfl⟩) (r := r4) er4 ?_
    refine r_iload_n (pc := 27) d_Mg_read_27 (x := p0) rfl ?_
    obtain ⟨n6, s5, h⟩ := h
    obtain ⟨g7, h⟩ := h
    obtain ⟨r8, er8, h⟩ := h
    refine r_aald5 (pc := 28) d_Mg_read_28 s5 g7 (r := r8) er8 ?_
    obtain ⟨s9, h⟩ := h
    obtain ⟨r10, er10, h⟩ := h
    refine r_getR (pc := 29) d_Mg_read_29 f_Mg_137 s9 (Or.inr ⟨_, rfl⟩) (r := r10) er10 ?_
    refine r_iload_n (pc := 32) d_Mg_read_32 (x := p1) rfl ?_
    obtain ⟨n12, s11, h⟩ := h
    obtain ⟨g13, h⟩ := h
    refine r_lald (pc := 33) d_Mg_read_33 s11 g13 ?_
    exact r_lreturn (pc := 34) d_Mg_read_34 rfl rfl (Nat.le_refl _) ⟨rfl, _, rfl, h⟩
  · replace h := h.2 c3
    refine r_aload_n (pc := 11) d_Mg_read_11 (x := a) rfl ?_
    refine r_iload_n (pc := 12) d_Mg_read_12 (x := x2) rfl ?_
    refine r_callV (pc := 13) (k := a) (As := [.int x2]) (rest := []) (mc' := 0) (ms' := 0) lk_Mg_133 in_Mg_fail se_Mg_fail sa rfl d_Mg_read_13 k_Mg_fail rfl rfl (Nat.le_of_ble_eq_true rfl) (by decide) (by decide) (Sp.mono h ?_)
    rintro rS14 shS14 S14 ⟨qS14, x15, uS14, h⟩
    subst uS14
    rw [qS14]
    refine r_i2l (pc := 16) d_Mg_read_16 ?_
    exact r_lreturn (pc := 17) d_Mg_read_17 rfl rfl (Nat.le_refl _) ⟨rfl, _, rfl, h⟩
set_option maxRecDepth 4000 in
theorem e_Mg_fail {l : Launch} {d : Nat} {sh : aw_SH} {S : aw_S} {P : Int32 → aw_S → Prop} {a : Nat} {p0 : Int32} (sa : sh[a]? = some (0, 0)) (h : P (-1) (aw_uI S a 3 p0)) : Sp l m_Mg_fail (d + 1) 0 0 [.ref a, .int p0] sh S (gI sh P) := by
  refine Sp.of k_Mg_fail (ls := [.ref a, .int p0]) rfl (Nat.le_of_ble_eq_true rfl) ?_
  refine r_aload_n (pc := 0) d_Mg_fail_0 (x := a) rfl ?_
  refine r_iload_n (pc := 1) d_Mg_fail_1 (x := p0) rfl ?_
  refine r_putI (pc := 2) d_Mg_fail_2 f_Mg_96 sa rfl ?_
  refine r_iconst (pc := 5) d_Mg_fail_5 (v := (-1)) (by decide) ?_
  exact r_ireturn (pc := 6) d_Mg_fail_6 rfl rfl (Nat.le_refl _) ⟨rfl, _, rfl, h⟩
set_option maxRecDepth 4000 in
theorem e_Mg_pour {l : Launch} {d : Nat} {sh : aw_SH} {S : aw_S} {P : Int32 → aw_S → Prop} {a : Nat} {p0 : Int32} {p1 : Int32} {p2 : Int32} {p3 : Int32} {p4 : Int32} (sa : sh[a]? = some (0, 0)) (h : Sp l m_Mg_isTray d 0 0 [.int p0] sh S (gI sh (fun x2 S1 => ((x2 = 0 → Sp l m_Mg_refuse d 0 0 [.ref a, .int 1] sh S1 (gI sh (fun x5 S4 => ((x5 = 0 ∨ x5 = 1) ∧ P x5 S4)))) ∧ (¬ x2 = 0 → Sp l m_Mg_isTray d 0 0 [.int p2] sh S1 (gI sh (fun x8 S7 => ((x8 = 0 → Sp l m_Mg_refuse d 0 0 [.ref a, .int 1] sh S7 (gI sh (fun x11 S10 => ((x11 = 0 ∨ x11 = 1) ∧ P x11 S10)))) ∧ (¬ x8 = 0 → ((p1 < 0 → Sp l m_Mg_refuse d 0 0 [.ref a, .int 1] sh S7 (gI sh (fun x15 S14 => ((x15 = 0 ∨ x15 = 1) ∧ P x15 S14)))) ∧ (¬ p1 < 0 → ((p3 < 0 → Sp l m_Mg_refuse d 0 0 [.ref a, .int 1] sh S7 (gI sh (fun x19 S18 => ((x19 = 0 ∨ x19 = 1) ∧ P x19 S18)))) ∧ (¬ p3 < 0 → ((0 ≤ p4 → ∃ r22, S7.2.2 a 0 = some r22 ∧ ∃ n24, sh[r22]? = some (5, n24) ∧ vp_in p0 n24 ∧ ∃ r26, S7.2.2 r22 p0.toNatClampNeg = some r26 ∧ vp_in p2 n24 ∧ ∃ r28, S7.2.2 r22 p2.toNatClampNeg = some r28 ∧ sh[r26]? = some (0, 1) ∧ (((S7.1 r26 1) = 0 → Sp l m_Mg_refuse d 0 0 [.ref a, .int 2] sh S7 (gI sh (fun x32 S31 => ((x32 = 0 ∨ x32 = 1) ∧ P x32 S31)))) ∧ (¬ (S7.1 r26 1) = 0 → sh[r28]? = some (0, 1) ∧ ((¬ (S7.1 r28 1) = 0 → (((S7.1 r26 2) = (S7.1 r28 2) → Sp l m_Tr_hasRoom d 0 0 [.ref r26, .int p1, .int p4] sh S7 (gI sh (fun x38 S37 => ((x38 = 0 → Sp l m_Mg_refuse d 0 0 [.ref a, .int 3] sh S37 (gI sh (fun x41 S40 => ((x41 = 0 ∨ x41 = 1) ∧ P x41 S40)))) ∧ (¬ x38 = 0 → Sp l m_Tr_hasRoom d 0 0 [.ref r28, .int p3, .int p4] sh S37 (gI sh (fun x44 S43 => ((¬ x44 = 0 → ∃ r46, S43.2.2 r26 0 = some r46 ∧ ∃ r47, S43.2.2 r28 0 = some r47 ∧ ∃ n49, sh[r46]? = some (4, n49) ∧ ∃ n51, sh[r47]? = some (4, n51) ∧ ¬ (p1 : Int32) < 0 ∧ ¬ (p3 : Int32) < 0 ∧ ¬ (p4 : Int32) < 0 ∧ (p1 : Int32).toNatClampNeg + (p4 : Int32).toNatClampNeg ≤ n49 ∧ (p3 : Int32).toNatClampNeg + (p4 : Int32).toNatClampNeg ≤ n51 ∧ Sp l m_Mg_grant d 0 0 [.ref a] sh (aw_cpl S43 r46 r47 p1 p3 p4) (gI sh (fun x58 S57 => ((x58 = 0 ∨ x58 = 1) ∧ P x58 S57)))) ∧ (x44 = 0 → Sp l m_Mg_refuse d 0 0 [.ref a, .int 3] sh S43 (gI sh (fun x61 S60 => ((x61 = 0 ∨ x61 = 1) ∧ P x61 S60)))))))))))) ∧ (¬ (S7.1 r26 2) = (S7.1 r28 2) → Sp l m_Mg_refuse d 0 0 [.ref a, .int 8] sh S7 (gI sh (fun x64 S63 => ((x64 = 0 ∨ x64 = 1) ∧ P x64 S63)))))) ∧ ((S7.1 r28 1) = 0 → Sp l m_Mg_refuse d 0 0 [.ref a, .int 2] sh S7 (gI sh (fun x67 S66 => ((x67 = 0 ∨ x67 = 1) ∧ P x67 S66)))))))) ∧ (¬ 0 ≤ p4 → Sp l m_Mg_refuse d 0 0 [.ref a, .int 1] sh S7 (gI sh (fun x70 S69 => ((x70 = 0 ∨ x70 = 1) ∧ P x70 S69)))))))))))))))))) : Sp l m_Mg_pour (d + 1) 0 0 [.ref a, .int p0, .int p1, .int p2, .int p3, .int p4] sh S (gI sh P) := by
  refine Sp.of k_Mg_pour (ls := [.ref a, .int p0, .int p1, .int p2, .int p3, .int p4, .null, .null]) rfl (Nat.le_of_ble_eq_true rfl) ?_
  refine r_iload_n (pc := 0) d_Mg_pour_0 (x := p0) rfl ?_
  refine r_callS (pc := 1) (k := 0) (As := [.int p0]) (rest := []) (mc' := 0) (ms' := 0) lk_Mg_106 st_Mg_isTray d_Mg_pour_1 k_Mg_isTray rfl rfl (Nat.le_of_ble_eq_true rfl) (by decide) (by decide) (Sp.mono h ?_)
  rintro rS1 shS1 S1 ⟨qS1, x2, uS1, h⟩
  subst uS1
  rw [qS1]
  refine r_if_eq (pc := 4) d_Mg_pour_4 (tgt := 28) (by decide) (fun c3 => ?_) (fun c3 => ?_)
  · replace h := h.1 c3
    refine r_aload_n (pc := 28) d_Mg_pour_28 (x := a) rfl ?_
    refine r_iconst (pc := 29) d_Mg_pour_29 (v := 1) (by decide) ?_
    refine r_callV (pc := 30) (k := a) (As := [.int 1]) (rest := []) (mc' := 0) (ms' := 0) lk_Mg_114 in_Mg_refuse se_Mg_refuse sa rfl d_Mg_pour_30 k_Mg_refuse rfl rfl (Nat.le_of_ble_eq_true rfl) (by decide) (by decide) (Sp.mono h ?_)
    rintro rS4 shS4 S4 ⟨qS4, x5, uS4, h⟩
    subst uS4
    rw [qS4]
    obtain ⟨g6, h⟩ := h
    exact r_zreturn (pc := 33) d_Mg_pour_33 rfl (aw_nb g6) rfl (Nat.le_refl _) ⟨rfl, _, rfl, h⟩
  · replace h := h.2 c3
    refine r_iload_n (pc := 7) d_Mg_pour_7 (x := p2) rfl ?_
    refine r_callS (pc := 8) (k := 0) (As := [.int p2]) (rest := []) (mc' := 0) (ms' := 0) lk_Mg_106 st_Mg_isTray d_Mg_pour_8 k_Mg_isTray rfl rfl (Nat.le_of_ble_eq_true rfl) (by decide) (by decide) (Sp.mono h ?_)
    rintro rS7 shS7 S7 ⟨qS7, x8, uS7, h⟩
    subst uS7
    rw [qS7]
    refine r_if_eq (pc := 11) d_Mg_pour_11 (tgt := 28) (by decide) (fun c9 => ?_) (fun c9 => ?_)
    · replace h := h.1 c9
      refine r_aload_n (pc := 28) d_Mg_pour_28 (x := a) rfl ?_
      refine r_iconst (pc := 29) d_Mg_pour_29 (v := 1) (by decide) ?_
      refine r_callV (pc := 30) (k := a) (As := [.int 1]) (rest := []) (mc' := 0) (ms' := 0) lk_Mg_114 in_Mg_refuse se_Mg_refuse sa rfl d_Mg_pour_30 k_Mg_refuse rfl rfl (Nat.le_of_ble_eq_true rfl) (by decide) (by decide) (Sp.mono h ?_)
      rintro rS10 shS10 S10 ⟨qS10, x11, uS10, h⟩
      subst uS10
      rw [qS10]
      obtain ⟨g12, h⟩ := h
      exact r_zreturn (pc := 33) d_Mg_pour_33 rfl (aw_nb g12) rfl (Nat.le_refl _) ⟨rfl, _, rfl, h⟩
    · replace h := h.2 c9
      refine r_iload_n (pc := 14) d_Mg_pour_14 (x := p1) rfl ?_
      refine r_if_lt (pc := 15) d_Mg_pour_15 (tgt := 28) (by decide) (fun c13 => ?_) (fun c13 => ?_)
      · replace h := h.1 c13
        refine r_aload_n (pc := 28) d_Mg_pour_28 (x := a) rfl ?_
        refine r_iconst (pc := 29) d_Mg_pour_29 (v := 1) (by decide) ?_
        refine r_callV (pc := 30) (k := a) (As := [.int 1]) (rest := []) (mc' := 0) (ms' := 0) lk_Mg_114 in_Mg_refuse se_Mg_refuse sa rfl d_Mg_pour_30 k_Mg_refuse rfl rfl (Nat.le_of_ble_eq_true rfl) (by decide) (by decide) (Sp.mono h ?_)
        rintro rS14 shS14 S14 ⟨qS14, x15, uS14, h⟩
        subst uS14
        rw [qS14]
        obtain ⟨g16, h⟩ := h
        exact r_zreturn (pc := 33) d_Mg_pour_33 rfl (aw_nb g16) rfl (Nat.le_refl _) ⟨rfl, _, rfl, h⟩
      · replace h := h.2 c13
        refine r_iload (pc := 18) d_Mg_pour_18 (x := p3) rfl ?_
        refine r_if_lt (pc := 20) d_Mg_pour_20 (tgt := 28) (by decide) (fun c17 => ?_) (fun c17 => ?_)
        · replace h := h.1 c17
          refine r_aload_n (pc := 28) d_Mg_pour_28 (x := a) rfl ?_
          refine r_iconst (pc := 29) d_Mg_pour_29 (v := 1) (by decide) ?_
          refine r_callV (pc := 30) (k := a) (As := [.int 1]) (rest := []) (mc' := 0) (ms' := 0) lk_Mg_114 in_Mg_refuse se_Mg_refuse sa rfl d_Mg_pour_30 k_Mg_refuse rfl rfl (Nat.le_of_ble_eq_true rfl) (by decide) (by decide) (Sp.mono h ?_)
          rintro rS18 shS18 S18 ⟨qS18, x19, uS18, h⟩
          subst uS18
          rw [qS18]
          obtain ⟨g20, h⟩ := h
          exact r_zreturn (pc := 33) d_Mg_pour_33 rfl (aw_nb g20) rfl (Nat.le_refl _) ⟨rfl, _, rfl, h⟩
        · replace h := h.2 c17
          refine r_iload (pc := 23) d_Mg_pour_23 (x := p4) rfl ?_
          refine r_if_ge (pc := 25) d_Mg_pour_25 (tgt := 34) (by decide) (fun c21 => ?_) (fun c21 => ?_)
          · replace h := h.1 c21
            refine r_aload_n (pc := 34) d_Mg_pour_34 (x := a) rfl ?_
            obtain ⟨r22, er22, h⟩ := h
            refine r_getR (pc := 35) d_Mg_pour_35 f_Mg_11 sa (Or.inr ⟨_, rfl⟩) (r := r22) er22 ?_
            refine r_iload_n (pc := 38) d_Mg_pour_38 (x := p0) rfl ?_
            obtain ⟨n24, s23, h⟩ := h
            obtain ⟨g25, h⟩ := h
            obtain ⟨r26, er26, h⟩ := h
            refine r_aald5 (pc := 39) d_Mg_pour_39 s23 g25 (r := r26) er26 ?_
            refine r_astore (pc := 40) (hd := d_Mg_pour_40) (hi := by decide) (ls2 := [.ref a, .int p0, .int p1, .int p2, .int p3, .int p4, .ref r26, .null]) (h2 := rfl) ?_
            refine r_aload_n (pc := 42) d_Mg_pour_42 (x := a) rfl ?_
            refine r_getR (pc := 43) d_Mg_pour_43 f_Mg_11 sa (Or.inr ⟨_, rfl⟩) (r := r22) er22 ?_
            refine r_iload_n (pc := 46) d_Mg_pour_46 (x := p2) rfl ?_
            obtain ⟨g27, h⟩ := h
            obtain ⟨r28, er28, h⟩ := h
            refine r_aald5 (pc := 47) d_Mg_pour_47 s23 g27 (r := r28) er28 ?_
            refine r_astore (pc := 48) (hd := d_Mg_pour_48) (hi := by decide) (ls2 := [.ref a, .int p0, .int p1, .int p2, .int p3, .int p4, .ref r26, .ref r28]) (h2 := rfl) ?_
            refine r_aload (pc := 50) d_Mg_pour_50 (x := r26) rfl ?_
            obtain ⟨s29, h⟩ := h
            refine r_getI (pc := 52) d_Mg_pour_52 f_Mg_141 s29 rfl ?_
            refine r_if_eq (pc := 55) d_Mg_pour_55 (tgt := 66) (by decide) (fun c30 => ?_) (fun c30 => ?_)
            · replace h := h.1 c30
              refine r_aload_n (pc := 66) d_Mg_pour_66 (x := a) rfl ?_
              refine r_iconst (pc := 67) d_Mg_pour_67 (v := 2) (by decide) ?_
              refine r_callV (pc := 68) (k := a) (As := [.int 2]) (rest := []) (mc' := 0) (ms' := 0) lk_Mg_114 in_Mg_refuse se_Mg_refuse sa rfl d_Mg_pour_68 k_Mg_refuse rfl rfl (Nat.le_of_ble_eq_true rfl) (by decide) (by decide) (Sp.mono h ?_)
              rintro rS31 shS31 S31 ⟨qS31, x32, uS31, h⟩
              subst uS31
              rw [qS31]
              obtain ⟨g33, h⟩ := h
              exact r_zreturn (pc := 71) d_Mg_pour_71 rfl (aw_nb g33) rfl (Nat.le_refl _) ⟨rfl, _, rfl, h⟩
            · replace h := h.2 c30
              refine r_aload (pc := 58) d_Mg_pour_58 (x := r28) rfl ?_
              obtain ⟨s34, h⟩ := h
              refine r_getI (pc := 60) d_Mg_pour_60 f_Mg_141 s34 rfl ?_
              refine r_if_ne (pc := 63) d_Mg_pour_63 (tgt := 72) (by decide) (fun c35 => ?_) (fun c35 => ?_)
              · replace h := h.1 c35
                refine r_aload (pc := 72) d_Mg_pour_72 (x := r26) rfl ?_
                refine r_getI (pc := 74) d_Mg_pour_74 f_Mg_145 s29 rfl ?_
                refine r_aload (pc := 77) d_Mg_pour_77 (x := r28) rfl ?_
                refine r_getI (pc := 79) d_Mg_pour_79 f_Mg_145 s34 rfl ?_
                refine r_icmp_eq (pc := 82) d_Mg_pour_82 (tgt := 92) (by decide) (fun c36 => ?_) (fun c36 => ?_)
                · replace h := h.1 c36
                  refine r_aload (pc := 92) d_Mg_pour_92 (x := r26) rfl ?_
                  refine r_iload_n (pc := 94) d_Mg_pour_94 (x := p1) rfl ?_
                  refine r_iload (pc := 95) d_Mg_pour_95 (x := p4) rfl ?_
                  refine r_callV (pc := 97) (k := r26) (As := [.int p1, .int p4]) (rest := []) (mc' := 0) (ms' := 0) lk_Mg_148 in_Tr_hasRoom se_Tr_hasRoom s29 rfl d_Mg_pour_97 k_Tr_hasRoom rfl rfl (Nat.le_of_ble_eq_true rfl) (by decide) (by decide) (Sp.mono h ?_)
                  rintro rS37 shS37 S37 ⟨qS37, x38, uS37, h⟩
                  subst uS37
                  rw [qS37]
                  refine r_if_eq (pc := 100) d_Mg_pour_100 (tgt := 115) (by decide) (fun c39 => ?_) (fun c39 => ?_)
                  · replace h := h.1 c39
                    refine r_aload_n (pc := 115) d_Mg_pour_115 (x := a) rfl ?_
                    refine r_iconst (pc := 116) d_Mg_pour_116 (v := 3) (by decide) ?_
                    refine r_callV (pc := 117) (k := a) (As := [.int 3]) (rest := []) (mc' := 0) (ms' := 0) lk_Mg_114 in_Mg_refuse se_Mg_refuse sa rfl d_Mg_pour_117 k_Mg_refuse rfl rfl (Nat.le_of_ble_eq_true rfl) (by decide) (by decide) (Sp.mono h ?_)
                    rintro rS40 shS40 S40 ⟨qS40, x41, uS40, h⟩
                    subst uS40
                    rw [qS40]
                    obtain ⟨g42, h⟩ := h
                    exact r_zreturn (pc := 120) d_Mg_pour_120 rfl (aw_nb g42) rfl (Nat.le_refl _) ⟨rfl, _, rfl, h⟩
                  · replace h := h.2 c39
                    refine r_aload (pc := 103) d_Mg_pour_103 (x := r28) rfl ?_
                    refine r_iload (pc := 105) d_Mg_pour_105 (x := p3) rfl ?_
                    refine r_iload (pc := 107) d_Mg_pour_107 (x := p4) rfl ?_
                    refine r_callV (pc := 109) (k := r28) (As := [.int p3, .int p4]) (rest := []) (mc' := 0) (ms' := 0) lk_Mg_148 in_Tr_hasRoom se_Tr_hasRoom s34 rfl d_Mg_pour_109 k_Tr_hasRoom rfl rfl (Nat.le_of_ble_eq_true rfl) (by decide) (by decide) (Sp.mono h ?_)
                    rintro rS43 shS43 S43 ⟨qS43, x44, uS43, h⟩
                    subst uS43
                    rw [qS43]
                    refine r_if_ne (pc := 112) d_Mg_pour_112 (tgt := 121) (by decide) (fun c45 => ?_) (fun c45 => ?_)
                    · replace h := h.1 c45
                      refine r_aload (pc := 121) d_Mg_pour_121 (x := r26) rfl ?_
                      obtain ⟨r46, er46, h⟩ := h
                      refine r_getR (pc := 123) d_Mg_pour_123 f_Mg_137 s29 (Or.inr ⟨_, rfl⟩) (r := r46) er46 ?_
                      refine r_iload_n (pc := 126) d_Mg_pour_126 (x := p1) rfl ?_
                      refine r_aload (pc := 127) d_Mg_pour_127 (x := r28) rfl ?_
                      obtain ⟨r47, er47, h⟩ := h
                      refine r_getR (pc := 129) d_Mg_pour_129 f_Mg_137 s34 (Or.inr ⟨_, rfl⟩) (r := r47) er47 ?_
                      refine r_iload (pc := 132) d_Mg_pour_132 (x := p3) rfl ?_
                      refine r_iload (pc := 134) d_Mg_pour_134 (x := p4) rfl ?_
                      obtain ⟨n49, s48, h⟩ := h
                      obtain ⟨n51, s50, h⟩ := h
                      obtain ⟨g52, g53, g54, g55, g56, h⟩ := h
                      refine r_copyl (pc := 136) d_Mg_pour_136 ck_Mg_152 s48 s50 g52 g53 g54 g55 g56 (Nat.le_of_ble_eq_true rfl) ?_
                      refine r_aload_n (pc := 139) d_Mg_pour_139 (x := a) rfl ?_
                      refine r_callV (pc := 140) (k := a) (As := []) (rest := []) (mc' := 0) (ms' := 0) lk_Mg_121 in_Mg_grant se_Mg_grant sa rfl d_Mg_pour_140 k_Mg_grant rfl rfl (Nat.le_of_ble_eq_true rfl) (by decide) (by decide) (Sp.mono h ?_)
                      rintro rS57 shS57 S57 ⟨qS57, x58, uS57, h⟩
                      subst uS57
                      rw [qS57]
                      obtain ⟨g59, h⟩ := h
                      exact r_zreturn (pc := 143) d_Mg_pour_143 rfl (aw_nb g59) rfl (Nat.le_refl _) ⟨rfl, _, rfl, h⟩
                    · replace h := h.2 c45
                      refine r_aload_n (pc := 115) d_Mg_pour_115 (x := a) rfl ?_
                      refine r_iconst (pc := 116) d_Mg_pour_116 (v := 3) (by decide) ?_
                      refine r_callV (pc := 117) (k := a) (As := [.int 3]) (rest := []) (mc' := 0) (ms' := 0) lk_Mg_114 in_Mg_refuse se_Mg_refuse sa rfl d_Mg_pour_117 k_Mg_refuse rfl rfl (Nat.le_of_ble_eq_true rfl) (by decide) (by decide) (Sp.mono h ?_)
                      rintro rS60 shS60 S60 ⟨qS60, x61, uS60, h⟩
                      subst uS60
                      rw [qS60]
                      obtain ⟨g62, h⟩ := h
                      exact r_zreturn (pc := 120) d_Mg_pour_120 rfl (aw_nb g62) rfl (Nat.le_refl _) ⟨rfl, _, rfl, h⟩
                · replace h := h.2 c36
                  refine r_aload_n (pc := 85) d_Mg_pour_85 (x := a) rfl ?_
                  refine r_bipush (pc := 86) d_Mg_pour_86 (v := 8) (by decide) ?_
                  refine r_callV (pc := 88) (k := a) (As := [.int 8]) (rest := []) (mc' := 0) (ms' := 0) lk_Mg_114 in_Mg_refuse se_Mg_refuse sa rfl d_Mg_pour_88 k_Mg_refuse rfl rfl (Nat.le_of_ble_eq_true rfl) (by decide) (by decide) (Sp.mono h ?_)
                  rintro rS63 shS63 S63 ⟨qS63, x64, uS63, h⟩
                  subst uS63
                  rw [qS63]
                  obtain ⟨g65, h⟩ := h
                  exact r_zreturn (pc := 91) d_Mg_pour_91 rfl (aw_nb g65) rfl (Nat.le_refl _) ⟨rfl, _, rfl, h⟩
              · replace h := h.2 c35
                refine r_aload_n (pc := 66) d_Mg_pour_66 (x := a) rfl ?_
                refine r_iconst (pc := 67) d_Mg_pour_67 (v := 2) (by decide) ?_
                refine r_callV (pc := 68) (k := a) (As := [.int 2]) (rest := []) (mc' := 0) (ms' := 0) lk_Mg_114 in_Mg_refuse se_Mg_refuse sa rfl d_Mg_pour_68 k_Mg_refuse rfl rfl (Nat.le_of_ble_eq_true rfl) (by decide) (by decide) (Sp.mono h ?_)
                rintro rS66 shS66 S66 ⟨qS66, x67, uS66, h⟩
                subst uS66
                rw [qS66]
                obtain ⟨g68, h⟩ := h
                exact r_zreturn (pc := 71) d_Mg_pour_71 rfl (aw_nb g68) rfl (Nat.le_refl _) ⟨rfl, _, rfl, h⟩
          · replace h := h.2 c21
            refine r_aload_n (pc := 28) d_Mg_pour_28 (x := a) rfl ?_
            refine r_iconst (pc := 29) d_Mg_pour_29 (v := 1) (by decide) ?_
            refine r_callV (pc := 30) (k := a) (As := [.int 1]) (rest := []) (mc' := 0) (ms' := 0) lk_Mg_114 in_Mg_refuse se_Mg_refuse sa rfl d_Mg_pour_30 k_Mg_refuse rfl rfl (Nat.le_of_ble_eq_true rfl) (by decide) (by decide) (Sp.mono h ?_)
            rintro rS69 shS69 S69 ⟨qS69, x70, uS69, h⟩
            subst uS69
            rw [qS69]
            obtain ⟨g71, h⟩ := h
            exact r_zreturn (pc := 33) d_Mg_pour_33 rfl (aw_nb g71) rfl (Nat.le_refl _) ⟨rfl, _, rfl, h⟩
set_option maxRecDepth 4000 in
theorem e_Mg_feed {l : Launch} {d : Nat} {sh : aw_SH} {S : aw_S} {P : Int32 → aw_S → Prop} {a : Nat} {p0 : Int32} {p1 : Int32} {p2 : Int32} {p3 : Int32} {p4 : Int32} (sa : sh[a]? = some (0, 0)) (h : ((((S.1 a 2) + (20 : Int32)) ≤ 900 → Sp l m_Mg_tapeInt d 0 0 [.ref a, .int p0] sh S (gV sh (fun S2 => Sp l m_Mg_tapeInt d 0 0 [.ref a, .int p1] sh S2 (gV sh (fun S3 => Sp l m_Mg_tapeInt d 0 0 [.ref a, .int p2] sh S3 (gV sh (fun S4 => Sp l m_Mg_tapeInt d 0 0 [.ref a, .int p3] sh S4 (gV sh (fun S5 => Sp l m_Mg_tapeInt d 0 0 [.ref a, .int p4] sh S5 (gV sh (fun S6 => P (S6.1 a 2) S6))))))))))) ∧ (¬ ((S.1 a 2) + (20 : Int32)) ≤ 900 → P (-1) S))) : Sp l m_Mg_feed (d + 1) 0 0 [.ref a, .int p0, .int p1, .int p2, .int p3, .int p4] sh S (gI sh P) := by
  refine Sp.of k_Mg_feed (ls := [.ref a, .int p0, .int p1, .int p2, .int p3, .int p4]) rfl (Nat.le_of_ble_eq_true rfl) ?_
  refine r_aload_n (pc := 0) d_Mg_feed_0 (x := a) rfl ?_
  refine r_getI (pc := 1) d_Mg_feed_1 f_Mg_158 sa rfl ?_
  refine r_bipush (pc := 4) d_Mg_feed_4 (v := 20) (by decide) ?_
  refine r_iadd (pc := 6) d_Mg_feed_6 ?_
  refine r_sipush (pc := 7) d_Mg_feed_7 (v := 900) (by decide) ?_
  refine r_icmp_le (pc := 10) d_Mg_feed_10 (tgt := 15) (by decide) (fun c1 => ?_) (fun c1 => ?_)
  · replace h := h.1 c1
    refine r_aload_n (pc := 15) d_Mg_feed_15 (x := a) rfl ?_
    refine r_iload_n (pc := 16) d_Mg_feed_16 (x := p0) rfl ?_
    refine r_callV (pc := 17) (k := a) (As := [.int p0]) (rest := []) (mc' := 0) (ms' := 0) lk_Mg_161 in_Mg_tapeInt se_Mg_tapeInt sa rfl d_Mg_feed_17 k_Mg_tapeInt rfl rfl (Nat.le_of_ble_eq_true rfl) (by decide) (by decide) (Sp.mono h ?_)
    rintro rS2 shS2 S2 ⟨qS2, uS2, h⟩
    subst uS2
    rw [qS2]
    refine r_aload_n (pc := 20) d_Mg_feed_20 (x := a) rfl ?_
    refine r_iload_n (pc := 21) d_Mg_feed_21 (x := p1) rfl ?_
    refine r_callV (pc := 22) (k := a) (As := [.int p1]) (rest := []) (mc' := 0) (ms' := 0) lk_Mg_161 in_Mg_tapeInt se_Mg_tapeInt sa rfl d_Mg_feed_22 k_Mg_tapeInt rfl rfl (Nat.le_of_ble_eq_true rfl) (by decide) (by decide) (Sp.mono h ?_)
    rintro rS3 shS3 S3 ⟨qS3, uS3, h⟩
    subst uS3
    rw [qS3]
    refine r_aload_n (pc := 25) d_Mg_feed_25 (x := a) rfl ?_
    refine r_iload_n (pc := 26) d_Mg_feed_26 (x := p2) rfl ?_
    refine r_callV (pc := 27) (k := a) (As := [.int p2]) (rest := []) (mc' := 0) (ms' := 0) lk_Mg_161 in_Mg_tapeInt se_Mg_tapeInt sa rfl d_Mg_feed_27 k_Mg_tapeInt rfl rfl (Nat.le_of_ble_eq_true rfl) (by decide) (by decide) (Sp.mono h ?_)
    rintro rS4 shS4 S4 ⟨qS4, uS4, h⟩
    subst uS4
    rw [qS4]
    refine r_aload_n (pc := 30) d_Mg_feed_30 (x := a) rfl ?_
    refine r_iload (pc := 31) d_Mg_feed_31 (x := p3) rfl ?_
    refine r_callV (pc := 33) (k := a) (As := [.int p3]) (rest := []) (mc' := 0) (ms' := 0) lk_Mg_161 in_Mg_tapeInt se_Mg_tapeInt sa rfl d_Mg_feed_33 k_Mg_tapeInt rfl rfl (Nat.le_of_ble_eq_true rfl) (by decide) (by decide) (Sp.mono h ?_)
    rintro rS5 shS5 S5 ⟨qS5, uS5, h⟩
    subst uS5
    rw [qS5]
    refine r_aload_n (pc := 36) d_Mg_feed_36 (x := a) rfl ?_
    refine r_iload (pc := 37) d_Mg_feed_37 (x := p4) rfl ?_
    refine r_callV (pc := 39) (k := a) (As := [.int p4]) (rest := []) (mc' := 0) (ms' := 0) lk_Mg_161 in_Mg_tapeInt se_Mg_tapeInt sa rfl d_Mg_feed_39 k_Mg_tapeInt rfl rfl (Nat.le_of_ble_eq_true rfl) (by decide) (by decide) (Sp.mono h ?_)
    rintro rS6 shS6 S6 ⟨qS6, uS6, h⟩
    subst uS6
    rw [qS6]
    refine r_aload_n (pc := 42) d_Mg_feed_42 (x := a) rfl ?_
    refine r_getI (pc := 43) d_Mg_feed_43 f_Mg_158 sa rfl ?_
    exact r_ireturn (pc := 46) d_Mg_feed_46 rfl rfl (Nat.le_refl _) ⟨rfl, _, rfl, h⟩
  · replace h := h.2 c1
    refine r_iconst (pc := 13) d_Mg_feed_13 (v := (-1)) (by decide) ?_
    exact r_ireturn (pc := 14) d_Mg_feed_14 rfl rfl (Nat.le_refl _) ⟨rfl, _, rfl, h⟩
set_option maxRecDepth 4000 in
theorem e_Mg_tapeInt {l : Launch} {d : Nat} {sh : aw_SH} {S : aw_S} {P : aw_S → Prop} {a : Nat} {p0 : Int32} (sa : sh[a]? = some (0, 0)) (h : AW l m_Mg_tapeInt (d + 1) 0 0 (gV sh P) 0 0 3 [.ref a, .int p0, .int 24] [] sh S) : Sp l m_Mg_tapeInt (d + 1) 0 0 [.ref a, .int p0] sh S (gV sh P) := by
  refine Sp.of k_Mg_tapeInt (ls := [.ref a, .int p0, .null]) rfl (Nat.le_of_ble_eq_true rfl) ?_
  refine r_bipush (pc := 0) d_Mg_tapeInt_0 (v := 24) (by decide) ?_
  refine r_istore_n (pc := 2) (hk := rfl) (hd := d_Mg_tapeInt_2) (hi := by decide) (ls2 := [.ref a, .int p0, .int 24]) (h2 := rfl) ?_
  exact h
set_option maxRecDepth 4000 in
theorem s_Mg_tapeInt_3 {l : Launch} {d : Nat} {sh : aw_SH} {S : aw_S} {P : aw_S → Prop} {a : Nat} {i1 : Int32} {i2 : Int32} (sa : sh[a]? = some (0, 0)) (h : ((i2 < 0 → P S) ∧ (¬ i2 < 0 → ((900 ≤ (S.1 a 2) → AW l m_Mg_tapeInt (d + 1) 0 0 (gV sh P) 0 0 3 [.ref a, .int i1, .int (i2 + (-8))] [] sh S) ∧ (¬ 900 ≤ (S.1 a 2) → ∃ r3, S.2.2 a 1 = some r3 ∧ ∃ n5, sh[r3]? = some (1, n5) ∧ vp_in (S.1 a 2) n5 ∧ AW l m_Mg_tapeInt (d + 1) 0 0 (gV sh P) 0 0 3 [.ref a, .int i1, .int (i2 + (-8))] [] sh (aw_uI (aw_uI S r3 ((S.1 a 2 : Int32).toNatClampNeg) (vp_nar .byte ((i1 >>> (i2 &&& 31)).toInt8.toInt32))) a 2 (((aw_uI S r3 ((S.1 a 2 : Int32).toNatClampNeg) (vp_nar .byte ((i1 >>> (i2 &&& 31)).toInt8.toInt32))).1 a 2) + (1 : Int32)))))))) : AW l m_Mg_tapeInt (d + 1) 0 0 (gV sh P) 0 0 3 [.ref a, .int i1, .int i2] [] sh S := by
  refine r_iload_n (pc := 3) d_Mg_tapeInt_3 (x := i2) rfl ?_
  refine r_if_lt (pc := 4) d_Mg_tapeInt_4 (tgt := 46) (by decide) (fun c1 => ?_) (fun c1 => ?_)
  · replace h := h.1 c1
    exact r_return (pc := 46) d_Mg_tapeInt_46 rfl rfl (Nat.le_refl _) ⟨rfl, rfl, h⟩
  · replace h := h.2 c1
    refine r_aload_n (pc := 7) d_Mg_tapeInt_7 (x := a) rfl ?_
    refine r_getI (pc := 8) d_Mg_tapeInt_8 f_Mg_158 sa rfl ?_
    refine r_sipush (pc := 11) d_Mg_tapeInt_11 (v := 900) (by decide) ?_
    refine r_icmp_ge (pc := 14) d_Mg_tapeInt_14 (tgt := 40) (by decide) (fun c2 => ?_) (fun c2 => ?_)
    · replace h := h.1 c2
      refine r_iinc (pc := 40) d_Mg_tapeInt_40 (hi := by decide) (x := i2) rfl (v := i2 + (-8)) rfl (ls2 := [.ref a, .int i1, .int (i2 + (-8))]) rfl ?_
      refine r_goto (pc := 43) d_Mg_tapeInt_43 (tgt := 3) (by decide) ?_
      exact h
    · replace h := h.2 c2
      refine r_aload_n (pc := 17) d_Mg_tapeInt_17 (x := a) rfl ?_
      obtain ⟨r3, er3, h⟩ := h
      refine r_getR (pc := 18) d_Mg_tapeInt_18 f_Mg_16 sa (Or.inr ⟨_, rfl⟩) (r := r3) er3 ?_
      refine r_aload_n (pc := 21) d_Mg_tapeInt_21 (x := a) rfl ?_
      refine r_getI (pc := 22) d_Mg_tapeInt_22 f_Mg_158 sa rfl ?_
      refine r_iload_n (pc := 25) d_Mg_tapeInt_25 (x := i1) rfl ?_
      refine r_iload_n (pc := 26) d_Mg_tapeInt_26 (x := i2) rfl ?_
      refine r_ishr (pc := 27) d_Mg_tapeInt_27 ?_
      refine r_i2b (pc := 28) d_Mg_tapeInt_28 ?_
      obtain ⟨n5, s4, h⟩ := h
      obtain ⟨g6, h⟩ := h
      refine r_bast (pc := 29) d_Mg_tapeInt_29 s4 g6 ?_
      refine r_aload_n (pc := 30) d_Mg_tapeInt_30 (x := a) rfl ?_
      refine r_dup (pc := 31) d_Mg_tapeInt_31 rfl ?_
      refine r_getI (pc := 32) d_Mg_tapeInt_32 f_Mg_158 sa rfl ?_
      refine r_iconst (pc := 35) d_Mg_tapeInt_35 (v := 1) (by decide) ?_
      refine r_iadd (pc := 36) d_Mg_tapeInt_36 ?_
      refine r_putI (pc := 37) d_Mg_tapeInt_37 f_Mg_158 sa rfl ?_
      refine r_iinc (pc := 40) d_Mg_tapeInt_40 (hi := by decide) (x := i2) rfl (v := i2 + (-8)) rfl (ls2 := [.ref a, .int i1, .int (i2 + (-8))]) rfl ?_
      refine r_goto (pc := 43) d_Mg_tapeInt_43 (tgt := 3) (by decide) ?_
      exact h
set_option maxRecDepth 4000 in
theorem e_Mg_green {l : Launch} {d : Nat} {sh : aw_SH} {S : aw_S} {P : Int32 → aw_S → Prop} {a : Nat} {p0 : Int32} (sa : sh[a]? = some (0, 0)) (h : Sp l m_Mg_isWithin d 0 0 [.int p0, .int 0, .int (S.1 a 2)] sh S (gI sh (fun x2 S1 => ((¬ x2 = 0 → ∃ r4, S1.2.2 a 11 = some r4 ∧ ∃ r5, S1.2.2 a 1 = some r5 ∧ ∃ r6, S1.2.2 a 7 = some r6 ∧ sh[r4]? = some (0, 5) ∧ Sp l m_Re_readGreen d 0 0 [.ref r4, .ref r5, .int p0, .ref r6] sh S1 (gV sh (fun S8 => Sp l m_Mg_closeText d 0 0 [.ref a] sh S8 (gI sh (fun x10 S9 => ((¬ x10 = 0 → ∃ r12, S9.2.2 a 6 = some r12 ∧ ∃ r13, S9.2.2 a 7 = some r13 ∧ ∃ r14, (aw_uR (aw_uR S9 a 6 (some r13)) a 7 (some r12)).2.2 a 6 = some r14 ∧ sh[r14]? = some (0, 2) ∧ Sp l m_Mg_give d 0 0 [.ref a, .int ((aw_uR (aw_uR S9 a 6 (some r13)) a 7 (some r12)).1 r14 0)] sh (aw_uR (aw_uR S9 a 6 (some r13)) a 7 (some r12)) (gI sh (fun x17 S16 => P x17 S16))) ∧ (x10 = 0 → Sp l m_Mg_fail d 0 0 [.ref a, .int 9] sh S9 (gI sh (fun x19 S18 => P x19 S18))))))))) ∧ (x2 = 0 → Sp l m_Mg_fail d 0 0 [.ref a, .int 1] sh S1 (gI sh (fun x21 S20 => P x21 S20))))))) : Sp l m_Mg_green (d + 1) 0 0 [.ref a, .int p0] sh S (gI sh P) := by
  refine Sp.of k_Mg_green (ls := [.ref a, .int p0, .null]) rfl (Nat.le_of_ble_eq_true rfl) ?_
  refine r_iload_n (pc := 0) d_Mg_green_0 (x := p0) rfl ?_
  refine r_iconst (pc := 1) d_Mg_green_1 (v := 0) (by decide) ?_
  refine r_aload_n (pc := 2) d_Mg_green_2 (x := a) rfl ?_
  refine r_getI (pc := 3) d_Mg_green_3 f_Mg_158 sa rfl ?_
  refine r_callS (pc := 6) (k := 0) (As := [.int p0, .int 0, .int (S.1 a 2)]) (rest := []) (mc' := 0) (ms' := 0) lk_Mg_110 st_Mg_isWithin d_Mg_green_6 k_Mg_isWithin rfl rfl (Nat.le_of_ble_eq_true rfl) (by decide) (by decide) (Sp.mono h ?_)
  rintro rS1 shS1 S1 ⟨qS1, x2, uS1, h⟩
  subst uS1
  rw [qS1]
  refine r_if_ne (pc := 9) d_Mg_green_9 (tgt := 18) (by decide) (fun c3 => ?_) (fun c3 => ?_)
  · replace h := h.1 c3
    refine r_aload_n (pc := 18) d_Mg_green_18 (x := a) rfl ?_
    obtain ⟨r4, er4, h⟩ := h
    refine r_getR (pc := 19) d_Mg_green_19 f_Mg_51 sa (Or.inl ⟨_, rfl⟩) (r := r4) er4 ?_
    refine r_aload_n (pc := 22) d_Mg_green_22 (x := a) rfl ?_
    obtain ⟨r5, er5, h⟩ := h
    refine r_getR (pc := 23) d_Mg_green_23 f_Mg_16 sa (Or.inr ⟨_, rfl⟩) (r := r5) er5 ?_
    refine r_iload_n (pc := 26) d_Mg_green_26 (x := p0) rfl ?_
    refine r_aload_n (pc := 27) d_Mg_green_27 (x := a) rfl ?_
    obtain ⟨r6, er6, h⟩ := h
    refine r_getR (pc := 28) d_Mg_green_28 f_Mg_34 sa (Or.inl ⟨_, rfl⟩) (r := r6) er6 ?_
    obtain ⟨s7, h⟩ := h
    refine r_callV (pc := 31) (k := r4) (As := [.ref r5, .int p0, .ref r6]) (rest := []) (mc' := 0) (ms' := 0) lk_Mg_164 in_Re_readGreen se_Re_readGreen s7 rfl d_Mg_green_31 k_Re_readGreen rfl rfl (Nat.le_of_ble_eq_true rfl) (by decide) (by decide) (Sp.mono h ?_)
    rintro rS8 shS8 S8 ⟨qS8, uS8, h⟩
    subst uS8
    rw [qS8]
    refine r_aload_n (pc := 34) d_Mg_green_34 (x := a) rfl ?_
    refine r_callV (pc := 35) (k := a) (As := []) (rest := []) (mc' := 0) (ms' := 0) lk_Mg_168 in_Mg_closeText se_Mg_closeText sa rfl d_Mg_green_35 k_Mg_closeText rfl rfl (Nat.le_of_ble_eq_true rfl) (by decide) (by decide) (Sp.mono h ?_)
    rintro rS9 shS9 S9 ⟨qS9, x10, uS9, h⟩
    subst uS9
    rw [qS9]
    refine r_if_ne (pc := 38) d_Mg_green_38 (tgt := 48) (by decide) (fun c11 => ?_) (fun c11 => ?_)
    · replace h := h.1 c11
      refine r_aload_n (pc := 48) d_Mg_green_48 (x := a) rfl ?_
      obtain ⟨r12, er12, h⟩ := h
      refine r_getR (pc := 49) d_Mg_green_49 f_Mg_30 sa (Or.inl ⟨_, rfl⟩) (r := r12) er12 ?_
      refine r_astore_n (pc := 52) (hk := rfl) (hd := d_Mg_green_52) (hi := by decide) (ls2 := [.ref a, .int p0, .ref r12]) (h2 := rfl) ?_
      refine r_aload_n (pc := 53) d_Mg_green_53 (x := a) rfl ?_
      refine r_aload_n (pc := 54) d_Mg_green_54 (x := a) rfl ?_
      obtain ⟨r13, er13, h⟩ := h
      refine r_getR (pc := 55) d_Mg_green_55 f_Mg_34 sa (Or.inl ⟨_, rfl⟩) (r := r13) er13 ?_
      refine r_putR (pc := 58) d_Mg_green_58 f_Mg_30 sa (Or.inl ⟨_, rfl⟩) ?_
      refine r_aload_n (pc := 61) d_Mg_green_61 (x := a) rfl ?_
      refine r_aload_n (pc := 62) d_Mg_green_62 (x := r12) rfl ?_
      refine r_putR (pc := 63) d_Mg_green_63 f_Mg_34 sa (Or.inl ⟨_, rfl⟩) ?_
      refine r_aload_n (pc := 66) d_Mg_green_66 (x := a) rfl ?_
      refine r_aload_n (pc := 67) d_Mg_green_67 (x := a) rfl ?_
      obtain ⟨r14, er14, h⟩ := h
      refine r_getR (pc := 68) d_Mg_green_68 f_Mg_30 sa (Or.inl ⟨_, rfl⟩) (r := r14) er14 ?_
      obtain ⟨s15, h⟩ := h
      refine r_getI (pc := 71) d_Mg_green_71 f_Mg_171 s15 rfl ?_
      refine r_callV (pc := 74) (k := a) (As := [.int ((aw_uR (aw_uR S9 a 6 (some r13)) a 7 (some r12)).1 r14 0)]) (rest := []) (mc' := 0) (ms' := 0) lk_Mg_174 in_Mg_give se_Mg_give sa rfl d_Mg_green_74 k_Mg_give rfl rfl (Nat.le_of_ble_eq_true rfl) (by decide) (by decide) (Sp.mono h ?_)
      rintro rS16 shS16 S16 ⟨qS16, x17, uS16, h⟩
      subst uS16
      rw [qS16]
      exact r_ireturn (pc := 77) d_Mg_green_77 rfl rfl (Nat.le_refl _) ⟨rfl, _, rfl, h⟩
    · replace h := h.2 c11
      refine r_aload_n (pc := 41) d_Mg_green_41 (x := a) rfl ?_
      refine r_bipush (pc := 42) d_Mg_green_42 (v := 9) (by decide) ?_
      refine r_callV (pc := 44) (k := a) (As := [.int 9]) (rest := []) (mc' := 0) (ms' := 0) lk_Mg_133 in_Mg_fail se_Mg_fail sa rfl d_Mg_green_44 k_Mg_fail rfl rfl (Nat.le_of_ble_eq_true rfl) (by decide) (by decide) (Sp.mono h ?_)
      rintro rS18 shS18 S18 ⟨qS18, x19, uS18, h⟩
      subst uS18
      rw [qS18]
      exact r_ireturn (pc := 47) d_Mg_green_47 rfl rfl (Nat.le_refl _) ⟨rfl, _, rfl, h⟩
  · replace h := h.2 c3
    refine r_aload_n (pc := 12) d_Mg_green_12 (x := a) rfl ?_
    refine r_iconst (pc := 13) d_Mg_green_13 (v := 1) (by decide) ?_
    refine r_callV (pc := 14) (k := a) (As := [.int 1]) (rest := []) (mc' := 0) (ms' := 0) lk_Mg_133 in_Mg_fail se_Mg_fail sa rfl d_Mg_green_14 k_Mg_fail rfl rfl (Nat.le_of_ble_eq_true rfl) (by decide) (by decide) (Sp.mono h ?_)
    rintro rS20 shS20 S20 ⟨qS20, x21, uS20, h⟩
    subst uS20
    rw [qS20]
    exact r_ireturn (pc := 17) d_Mg_green_17 rfl rfl (Nat.le_refl _) ⟨rfl, _, rfl, h⟩
set_option maxRecDepth 4000 in
theorem e_Mg_closeText {l : Launch} {d : Nat} {sh : aw_SH} {S : aw_S} {P : Int32 → aw_S → Prop} {a : Nat} (sa : sh[a]? = some (0, 0)) (h : ∃ r1, (aw_uI S a 2 0).2.2 a 11 = some r1 ∧ sh[r1]? = some (0, 5) ∧ ((¬ ((aw_uI (aw_uI (aw_uI S a 2 0) a 4 ((aw_uI S a 2 0).1 r1 0)) a 5 ((aw_uI (aw_uI S a 2 0) a 4 ((aw_uI S a 2 0).1 r1 0)).1 r1 1)).1 a 4) = 0 → P 0 (aw_uI (aw_uI (aw_uI S a 2 0) a 4 ((aw_uI S a 2 0).1 r1 0)) a 5 ((aw_uI (aw_uI S a 2 0) a 4 ((aw_uI S a 2 0).1 r1 0)).1 r1 1))) ∧ (((aw_uI (aw_uI (aw_uI S a 2 0) a 4 ((aw_uI S a 2 0).1 r1 0)) a 5 ((aw_uI (aw_uI S a 2 0) a 4 ((aw_uI S a 2 0).1 r1 0)).1 r1 1)).1 a 4) = 0 → P 1 (aw_uI (aw_uI (aw_uI S a 2 0) a 4 ((aw_uI S a 2 0).1 r1 0)) a 5 ((aw_uI (aw_uI S a 2 0) a 4 ((aw_uI S a 2 0).1 r1 0)).1 r1 1))))) : Sp l m_Mg_closeText (d + 1) 0 0 [.ref a] sh S (gI sh P) := by
  refine Sp.of k_Mg_closeText (ls := [.ref a]) rfl (Nat.le_of_ble_eq_true rfl) ?_
  refine r_aload_n (pc := 0) d_Mg_closeText_0 (x := a) rfl ?_
  refine r_iconst (pc := 1) d_Mg_closeText_1 (v := 0) (by decide) ?_
  refine r_putI (pc := 2) d_Mg_closeText_2 f_Mg_158 sa rfl ?_
  refine r_aload_n (pc := 5) d_Mg_closeText_5 (x := a) rfl ?_
  refine r_aload_n (pc := 6) d_Mg_closeText_6 (x := a) rfl ?_
  obtain ⟨r1, er1, h⟩ := h
  refine r_getR (pc := 7) d_Mg_closeText_7 f_Mg_51 sa (Or.inl ⟨_, rfl⟩) (r := r1) er1 ?_
  obtain ⟨s2, h⟩ := h
  refine r_getI (pc := 10) d_Mg_closeText_10 f_Mg_394 s2 rfl ?_
  refine r_putI (pc := 13) d_Mg_closeText_13 f_Mg_20 sa rfl ?_
  refine r_aload_n (pc := 16) d_Mg_closeText_16 (x := a) rfl ?_
  refine r_aload_n (pc := 17) d_Mg_closeText_17 (x := a) rfl ?_
  refine r_getR (pc := 18) d_Mg_closeText_18 f_Mg_51 sa (Or.inl ⟨_, rfl⟩) (r := r1) er1 ?_
  refine r_getI (pc := 21) d_Mg_closeText_21 f_Mg_395 s2 rfl ?_
  refine r_putI (pc := 24) d_Mg_closeText_24 f_Mg_24 sa rfl ?_
  refine r_aload_n (pc := 27) d_Mg_closeText_27 (x := a) rfl ?_
  refine r_getI (pc := 28) d_Mg_closeText_28 f_Mg_20 sa rfl ?_
  refine r_if_ne (pc := 31) d_Mg_closeText_31 (tgt := 38) (by decide) (fun c3 => ?_) (fun c3 => ?_)
  · replace h := h.1 c3
    refine r_iconst (pc := 38) d_Mg_closeText_38 (v := 0) (by decide) ?_
    exact r_zreturn (pc := 39) d_Mg_closeText_39 (v := 0) rfl (by decide) rfl (Nat.le_refl _) ⟨rfl, _, rfl, h⟩
  · replace h := h.2 c3
    refine r_iconst (pc := 34) d_Mg_closeText_34 (v := 1) (by decide) ?_
    refine r_goto (pc := 35) d_Mg_closeText_35 (tgt := 39) (by decide) ?_
    exact r_zreturn (pc := 39) d_Mg_closeText_39 (v := 1) rfl (by decide) rfl (Nat.le_refl _) ⟨rfl, _, rfl, h⟩
set_option maxRecDepth 4000 in
theorem e_Mg_give {l : Launch} {d : Nat} {sh : aw_SH} {S : aw_S} {P : Int32 → aw_S → Prop} {a : Nat} {p0 : Int32} (sa : sh[a]? = some (0, 0)) (h : P p0 (aw_uI S a 3 0)) : Sp l m_Mg_give (d + 1) 0 0 [.ref a, .int p0] sh S (gI sh P) := by
  refine Sp.of k_Mg_give (ls := [.ref a, .int p0]) rfl (Nat.le_of_ble_eq_true rfl) ?_
  refine r_aload_n (pc := 0) d_Mg_give_0 (x := a) rfl ?_
  refine r_iconst (pc := 1) d_Mg_give_1 (v := 0) (by decide) ?_
  refine r_putI (pc := 2) d_Mg_give_2 f_Mg_96 sa rfl ?_
  refine r_iload_n (pc := 5) d_Mg_give_5 (x := p0) rfl ?_
  exact r_ireturn (pc := 6) d_Mg_give_6 rfl rfl (Nat.le_refl _) ⟨rfl, _, rfl, h⟩
set_option maxRecDepth 4000 in
theorem e_Mg_feasts {l : Launch} {d : Nat} {sh : aw_SH} {S : aw_S} {P : Int32 → aw_S → Prop} {a : Nat} {p0 : Int32} (sa : sh[a]? = some (0, 0)) (h : Sp l m_Mg_isWithin d 0 0 [.int p0, .int 0, .int (S.1 a 2)] sh S (gI sh (fun x2 S1 => ((x2 = 0 → Sp l m_Mg_fail d 0 0 [.ref a, .int 1] sh S1 (gI sh (fun x5 S4 => P x5 S4))) ∧ (¬ x2 = 0 → ((p0 ≤ 300 → ∃ r7, S1.2.2 a 11 = some r7 ∧ ∃ r8, S1.2.2 a 1 = some r8 ∧ ∃ r9, S1.2.2 a 6 = some r9 ∧ ∃ r10, S1.2.2 a 10 = some r10 ∧ sh[r7]? = some (0, 5) ∧ Sp l m_Re_readFeasts d 0 0 [.ref r7, .ref r8, .int p0, .ref r9, .ref r10] sh S1 (gV sh (fun S12 => Sp l m_Mg_closeText d 0 0 [.ref a] sh S12 (gI sh (fun x14 S13 => ((¬ x14 = 0 → ∃ r16, S13.2.2 a 6 = some r16 ∧ sh[r16]? = some (0, 2) ∧ ∃ r18, S13.2.2 r16 11 = some r18 ∧ ∃ r19, S13.2.2 a 10 = some r19 ∧ sh[r18]? = some (0, 4) ∧ Sp l m_Fe_copyFrom d 0 0 [.ref r18, .ref r19] sh S13 (gV sh (fun S21 => ∃ r22, S21.2.2 a 6 = some r22 ∧ sh[r22]? = some (0, 2) ∧ ∃ r24, S21.2.2 r22 11 = some r24 ∧ sh[r24]? = some (0, 4) ∧ Sp l m_Mg_give d 0 0 [.ref a, .int (S21.1 r24 1)] sh S21 (gI sh (fun x27 S26 => P x27 S26))))) ∧ (x14 = 0 → Sp l m_Mg_fail d 0 0 [.ref a, .int 9] sh S13 (gI sh (fun x29 S28 => P x29 S28))))))))) ∧ (¬ p0 ≤ 300 → Sp l m_Mg_fail d 0 0 [.ref a, .int 1] sh S1 (gI sh (fun x31 S30 => P x31 S30))))))))) : Sp l m_Mg_feasts (d + 1) 0 0 [.ref a, .int p0] sh S (gI sh P) := by
  refine Sp.of k_Mg_feasts (ls := [.ref a, .int p0]) rfl (Nat.le_of_ble_eq_true rfl) ?_
  refine r_iload_n (pc := 0) d_Mg_feasts_0 (x := p0) rfl ?_
  refine r_iconst (pc := 1) d_Mg_feasts_1 (v := 0) (by decide) ?_
  refine r_aload_n (pc := 2) d_Mg_feasts_2 (x := a) rfl ?_
  refine r_getI (pc := 3) d_Mg_feasts_3 f_Mg_158 sa rfl ?_
  refine r_callS (pc := 6) (k := 0) (As := [.int p0, .int 0, .int (S.1 a 2)]) (rest := []) (mc' := 0) (ms' := 0) lk_Mg_110 st_Mg_isWithin d_Mg_feasts_6 k_Mg_isWithin rfl rfl (Nat.le_of_ble_eq_true rfl) (by decide) (by decide) (Sp.mono h ?_)
  rintro rS1 shS1 S1 ⟨qS1, x2, uS1, h⟩
  subst uS1
  rw [qS1]
  refine r_if_eq (pc := 9) d_Mg_feasts_9 (tgt := 19) (by decide) (fun c3 => ?_) (fun c3 => ?_)
  · replace h := h.1 c3
    refine r_aload_n (pc := 19) d_Mg_feasts_19 (x := a) rfl ?_
    refine r_iconst (pc := 20) d_Mg_feasts_20 (v := 1) (by decide) ?_
    refine r_callV (pc := 21) (k := a) (As := [.int 1]) (rest := []) (mc' := 0) (ms' := 0) lk_Mg_133 in_Mg_fail se_Mg_fail sa rfl d_Mg_feasts_21 k_Mg_fail rfl rfl (Nat.le_of_ble_eq_true rfl) (by decide) (by decide) (Sp.mono h ?_)
    rintro rS4 shS4 S4 ⟨qS4, x5, uS4, h⟩
    subst uS4
    rw [qS4]
    exact r_ireturn (pc := 24) d_Mg_feasts_24 rfl rfl (Nat.le_refl _) ⟨rfl, _, rfl, h⟩
  · replace h := h.2 c3
    refine r_iload_n (pc := 12) d_Mg_feasts_12 (x := p0) rfl ?_
    refine r_sipush (pc := 13) d_Mg_feasts_13 (v := 300) (by decide) ?_
    refine r_icmp_le (pc := 16) d_Mg_feasts_16 (tgt := 25) (by decide) (fun c6 => ?_) (fun c6 => ?_)
    · replace h := h.1 c6
      refine r_aload_n (pc := 25) d_Mg_feasts_25 (x := a) rfl ?_
      obtain ⟨r7, er7, h⟩ := h
      refine r_getR (pc := 26) d_Mg_feasts_26 f_Mg_51 sa (Or.inl ⟨_, rfl⟩) (r := r7) er7 ?_
      refine r_aload_n (pc := 29) d_Mg_feasts_29 (x := a) rfl ?_
      obtain ⟨r8, er8, h⟩ := h
      refine r_getR (pc := 30) d_Mg_feasts_30 f_Mg_16 sa (Or.inr ⟨_, rfl⟩) (r := r8) er8 ?_
      refine r_iload_n (pc := 33) d_Mg_feasts_33 (x := p0) rfl ?_
      refine r_aload_n (pc := 34) d_Mg_feasts_34 (x := a) rfl ?_
      obtain ⟨r9, er9, h⟩ := h
      refine r_getR (pc := 35) d_Mg_feasts_35 f_Mg_30 sa (Or.inl ⟨_, rfl⟩) (r := r9) er9 ?_
      refine r_aload_n (pc := 38) d_Mg_feasts_38 (x := a) rfl ?_
      obtain ⟨r10, er10, h⟩ := h
      refine r_getR (pc := 39) d_Mg_feasts_39 f_Mg_44 sa (Or.inl ⟨_, rfl⟩) (r := r10) er10 ?_
      obtain ⟨s11, h⟩ := h
      refine r_callV (pc := 42) (k := r7) (As := [.ref r8, .int p0, .ref r9, .ref r10]) (rest := []) (mc' := 0) (ms' := 0) lk_Mg_177 in_Re_readFeasts se_Re_readFeasts s11 rfl d_Mg_feasts_42 k_Re_readFeasts rfl rfl (Nat.le_of_ble_eq_true rfl) (by decide) (by decide) (Sp.mono h ?_)
      rintro rS12 shS12 S12 ⟨qS12, uS12, h⟩
      subst uS12
      rw [qS12]
      refine r_aload_n (pc := 45) d_Mg_feasts_45 (x := a) rfl ?_
      refine r_callV (pc := 46) (k := a) (As := []) (rest := []) (mc' := 0) (ms' := 0) lk_Mg_168 in_Mg_closeText se_Mg_closeText sa rfl d_Mg_feasts_46 k_Mg_closeText rfl rfl (Nat.le_of_ble_eq_true rfl) (by decide) (by decide) (Sp.mono h ?_)
      rintro rS13 shS13 S13 ⟨qS13, x14, uS13, h⟩
      subst uS13
      rw [qS13]
      refine r_if_ne (pc := 49) d_Mg_feasts_49 (tgt := 59) (by decide) (fun c15 => ?_) (fun c15 => ?_)
      · replace h := h.1 c15
        refine r_aload_n (pc := 59) d_Mg_feasts_59 (x := a) rfl ?_
        obtain ⟨r16, er16, h⟩ := h
        refine r_getR (pc := 60) d_Mg_feasts_60 f_Mg_30 sa (Or.inl ⟨_, rfl⟩) (r := r16) er16 ?_
        obtain ⟨s17, h⟩ := h
        obtain ⟨r18, er18, h⟩ := h
        refine r_getR (pc := 63) d_Mg_feasts_63 f_Mg_181 s17 (Or.inl ⟨_, rfl⟩) (r := r18) er18 ?_
        refine r_aload_n (pc := 66) d_Mg_feasts_66 (x := a) rfl ?_
        obtain ⟨r19, er19, h⟩ := h
        refine r_getR (pc := 67) d_Mg_feasts_67 f_Mg_44 sa (Or.inl ⟨_, rfl⟩) (r := r19) er19 ?_
        obtain ⟨s20, h⟩ := h
        refine r_callV (pc := 70) (k := r18) (As := [.ref r19]) (rest := []) (mc' := 0) (ms' := 0) lk_Mg_184 in_Fe_copyFrom se_Fe_copyFrom s20 rfl d_Mg_feasts_70 k_Fe_copyFrom rfl rfl (Nat.le_of_ble_eq_true rfl) (by decide) (by decide) (Sp.mono h ?_)
        rintro rS21 shS21 S21 ⟨qS21, uS21, h⟩
        subst uS21
        rw [qS21]
        refine r_aload_n (pc := 73) d_Mg_feasts_73 (x := a) rfl ?_
        refine r_aload_n (pc := 74) d_Mg_feasts_74 (x := a) rfl ?_
        obtain ⟨r22, er22, h⟩ := h
        refine r_getR (pc := 75) d_Mg_feasts_75 f_Mg_30 sa (Or.inl ⟨_, rfl⟩) (r := r22) er22 ?_
        obtain ⟨s23, h⟩ := h
        obtain ⟨r24, er24, h⟩ := h
        refine r_getR (pc := 78) d_Mg_feasts_78 f_Mg_181 s23 (Or.inl ⟨_, rfl⟩) (r := r24) er24 ?_
        obtain ⟨s25, h⟩ := h
        refine r_getI (pc := 81) d_Mg_feasts_81 f_Mg_188 s25 rfl ?_
        refine r_callV (pc := 84) (k := a) (As := [.int (S21.1 r24 1)]) (rest := []) (mc' := 0) (ms' := 0) lk_Mg_174 in_Mg_give se_Mg_give sa rfl d_Mg_feasts_84 k_Mg_give rfl rfl (Nat.le_of_ble_eq_true rfl) (by decide) (by decide) (Sp.mono h ?_)
        rintro rS26 shS26 S26 ⟨qS26, x27, uS26, h⟩
        subst uS26
        rw [qS26]
        exact r_ireturn (pc := 87) d_Mg_feasts_87 rfl rfl (Nat.le_refl _) ⟨rfl, _, rfl, h⟩
      · replace h := h.2 c15
        refine r_aload_n (pc := 52) d_Mg_feasts_52 (x := a) rfl ?_
        refine r_bipush (pc := 53) d_Mg_feasts_53 (v := 9) (by decide) ?_
        refine r_callV (pc := 55) (k := a) (As := [.int 9]) (rest := []) (mc' := 0) (ms' := 0) lk_Mg_133 in_Mg_fail se_Mg_fail sa rfl d_Mg_feasts_55 k_Mg_fail rfl rfl (Nat.le_of_ble_eq_true rfl) (by decide) (by decide) (Sp.mono h ?_)
        rintro rS28 shS28 S28 ⟨qS28, x29, uS28, h⟩
        subst uS28
        rw [qS28]
        exact r_ireturn (pc := 58) d_Mg_feasts_58 rfl rfl (Nat.le_refl _) ⟨rfl, _, rfl, h⟩
    · replace h := h.2 c6
      refine r_aload_n (pc := 19) d_Mg_feasts_19 (x := a) rfl ?_
      refine r_iconst (pc := 20) d_Mg_feasts_20 (v := 1) (by decide) ?_
      refine r_callV (pc := 21) (k := a) (As := [.int 1]) (rest := []) (mc' := 0) (ms' := 0) lk_Mg_133 in_Mg_fail se_Mg_fail sa rfl d_Mg_feasts_21 k_Mg_fail rfl rfl (Nat.le_of_ble_eq_true rfl) (by decide) (by decide) (Sp.mono h ?_)
      rintro rS30 shS30 S30 ⟨qS30, x31, uS30, h⟩
      subst uS30
      rw [qS30]
      exact r_ireturn (pc := 24) d_Mg_feasts_24 rfl rfl (Nat.le_refl _) ⟨rfl, _, rfl, h⟩
set_option maxRecDepth 4000 in
theorem e_Mg_fault {l : Launch} {d : Nat} {sh : aw_SH} {S : aw_S} {P : Int32 → aw_S → Prop} {a : Nat} {p0 : Int32} (sa : sh[a]? = some (0, 0)) (h : ((¬ p0 = 0 → ((¬ p0 = 1 → P (-1) S) ∧ (p0 = 1 → P (S.1 a 5) S))) ∧ (p0 = 0 → P (S.1 a 4) S))) : Sp l m_Mg_fault (d + 1) 0 0 [.ref a, .int p0] sh S (gI sh P) := by
  refine Sp.of k_Mg_fault (ls := [.ref a, .int p0]) rfl (Nat.le_of_ble_eq_true rfl) ?_
  refine r_iload_n (pc := 0) d_Mg_fault_0 (x := p0) rfl ?_
  refine r_if_ne (pc := 1) d_Mg_fault_1 (tgt := 9) (by decide) (fun c1 => ?_) (fun c1 => ?_)
  · replace h := h.1 c1
    refine r_iload_n (pc := 9) d_Mg_fault_9 (x := p0) rfl ?_
    refine r_iconst (pc := 10) d_Mg_fault_10 (v := 1) (by decide) ?_
    refine r_icmp_ne (pc := 11) d_Mg_fault_11 (tgt := 21) (by decide) (fun c2 => ?_) (fun c2 => ?_)
    · replace h := h.1 c2
      refine r_iconst (pc := 21) d_Mg_fault_21 (v := (-1)) (by decide) ?_
      exact r_ireturn (pc := 22) d_Mg_fault_22 rfl rfl (Nat.le_refl _) ⟨rfl, _, rfl, h⟩
    · replace h := h.2 c2
      refine r_aload_n (pc := 14) d_Mg_fault_14 (x := a) rfl ?_
      refine r_getI (pc := 15) d_Mg_fault_15 f_Mg_24 sa rfl ?_
      refine r_goto (pc := 18) d_Mg_fault_18 (tgt := 22) (by decide) ?_
      exact r_ireturn (pc := 22) d_Mg_fault_22 rfl rfl (Nat.le_refl _) ⟨rfl, _, rfl, h⟩
  · replace h := h.2 c1
    refine r_aload_n (pc := 4) d_Mg_fault_4 (x := a) rfl ?_
    refine r_getI (pc := 5) d_Mg_fault_5 f_Mg_20 sa rfl ?_
    exact r_ireturn (pc := 8) d_Mg_fault_8 rfl rfl (Nat.le_refl _) ⟨rfl, _, rfl, h⟩
set_option maxRecDepth 4000 in
theorem e_Mg_told {l : Launch} {d : Nat} {sh : aw_SH} {S : aw_S} {P : Int32 → aw_S → Prop} {a : Nat} {p0 : Int32} (sa : sh[a]? = some (0, 0)) (h : ((((p0 : Int32).toInt < 0 ∨ 9 < (p0 : Int32).toInt) → Sp l m_Mg_fail d 0 0 [.ref a, .int 1] sh S (gI sh (fun x2 S1 => P x2 S1))) ∧ (p0 = 0 → ∃ r3, S.2.2 a 6 = some r3 ∧ sh[r3]? = some (0, 2) ∧ Sp l m_Mg_give d 0 0 [.ref a, .int (S.1 r3 0)] sh S (gI sh (fun x6 S5 => P x6 S5))) ∧ (p0 = 1 → ∃ r7, S.2.2 a 6 = some r7 ∧ sh[r7]? = some (0, 2) ∧ Sp l m_Gr_gaps d 0 0 [.ref r7] sh S (gI sh (fun x10 S9 => Sp l m_Mg_give d 0 0 [.ref a, .int x10] sh S9 (gI sh (fun x12 S11 => P x12 S11))))) ∧ (p0 = 2 → ∃ r13, S.2.2 a 6 = some r13 ∧ sh[r13]? = some (0, 2) ∧ ∃ r15, S.2.2 r13 10 = some r15 ∧ sh[r15]? = some (0, 3) ∧ Sp l m_Mg_give d 0 0 [.ref a, .int (S.1 r15 1)] sh S (gI sh (fun x18 S17 => P x18 S17))) ∧ (p0 = 3 → ∃ r19, S.2.2 a 6 = some r19 ∧ sh[r19]? = some (0, 2) ∧ Sp l m_Mg_give d 0 0 [.ref a, .int (S.1 r19 1)] sh S (gI sh (fun x22 S21 => P x22 S21))) ∧ (p0 = 4 → ∃ r23, S.2.2 a 6 = some r23 ∧ sh[r23]? = some (0, 2) ∧ Sp l m_Mg_give d 0 0 [.ref a, .int (S.1 r23 2)] sh S (gI sh (fun x26 S25 => P x26 S25))) ∧ (p0 = 5 → ∃ r27, S.2.2 a 6 = some r27 ∧ sh[r27]? = some (0, 2) ∧ Sp l m_Gr_greatestRow d 0 0 [.ref r27] sh S (gI sh (fun x30 S29 => Sp l m_Mg_give d 0 0 [.ref a, .int x30] sh S29 (gI sh (fun x32 S31 => P x32 S31))))) ∧ (p0 = 6 → ∃ r33, S.2.2 a 6 = some r33 ∧ sh[r33]? = some (0, 2) ∧ Sp l m_Mg_give d 0 0 [.ref a, .int ((S.1 r33 3) + (S.1 r33 4))] sh S (gI sh (fun x36 S35 => P x36 S35))) ∧ (p0 = 7 → ∃ r37, S.2.2 a 6 = some r37 ∧ sh[r37]? = some (0, 2) ∧ Sp l m_Gr_atHome d 0 0 [.ref r37] sh S (gI sh (fun x40 S39 => Sp l m_Mg_give d 0 0 [.ref a, .int x40] sh S39 (gI sh (fun x42 S41 => P x42 S41))))) ∧ (p0 = 8 → ∃ r43, S.2.2 a 6 = some r43 ∧ sh[r43]? = some (0, 2) ∧ Sp l m_Gr_freeGaps d 0 0 [.ref r43] sh S (gI sh (fun x46 S45 => Sp l m_Mg_give d 0 0 [.ref a, .int x46] sh S45 (gI sh (fun x48 S47 => P x48 S47))))) ∧ (p0 = 9 → ∃ r49, S.2.2 a 6 = some r49 ∧ sh[r49]? = some (0, 2) ∧ Sp l m_Gr_coloursShown d 0 0 [.ref r49] sh S (gI sh (fun x52 S51 => Sp l m_Mg_give d 0 0 [.ref a, .int x52] sh S51 (gI sh (fun x54 S53 => P x54 S53))))))) : Sp l m_Mg_told (d + 1) 0 0 [.ref a, .int p0] sh S (gI sh P) := by
  refine Sp.of k_Mg_told (ls := [.ref a, .int p0]) rfl (Nat.le_of_ble_eq_true rfl) ?_
  refine r_iload_n (pc := 0) d_Mg_told_0 (x := p0) rfl ?_
  rcases aw_sw (p0) 0 9 with q55 | ⟨kq55, q55, wq55⟩
  · refine r_tabOut (pc := 1) d_Mg_told_1 q55 (tgt := 187) (by decide) ?_
    replace h := h.1 q55
    refine r_aload_n (pc := 187) d_Mg_told_187 (x := a) rfl ?_
    refine r_iconst (pc := 188) d_Mg_told_188 (v := 1) (by decide) ?_
    refine r_callV (pc := 189) (k := a) (As := [.int 1]) (rest := []) (mc' := 0) (ms' := 0) lk_Mg_133 in_Mg_fail se_Mg_fail sa rfl d_Mg_told_189 k_Mg_fail rfl rfl (Nat.le_of_ble_eq_true rfl) (by decide) (by decide) (Sp.mono h ?_)
    rintro rS1 shS1 S1 ⟨qS1, x2, uS1, h⟩
    subst uS1
    rw [qS1]
    exact r_ireturn (pc := 192) d_Mg_told_192 rfl rfl (Nat.le_refl _) ⟨rfl, _, rfl, h⟩
  · rcases (show kq55 = 0 ∨ kq55 = 1 ∨ kq55 = 2 ∨ kq55 = 3 ∨ kq55 = 4 ∨ kq55 = 5 ∨ kq55 = 6 ∨ kq55 = 7 ∨ kq55 = 8 ∨ kq55 = 9 by omega) with rfl | rfl | rfl | rfl | rfl | rfl | rfl | rfl | rfl | rfl
    · refine r_tabIn (pc := 1) d_Mg_told_1 (off := 55) (by omega) (by omega) (by rw [q55]; rfl) (tgt := 56) (by decide) ?_
      replace h := h.2.1 (aw_ix (y := 0) q55 (by decide))
      refine r_aload_n (pc := 56) d_Mg_told_56 (x := a) rfl ?_
      refine r_aload_n (pc := 57) d_Mg_told_57 (x := a) rfl ?_
      obtain ⟨r3, er3, h⟩ := h
      refine r_getR (pc := 58) d_Mg_told_58 f_Mg_30 sa (Or.inl ⟨_, rfl⟩) (r := r3) er3 ?_
      obtain ⟨s4, h⟩ := h
      refine r_getI (pc := 61) d_Mg_told_61 f_Mg_171 s4 rfl ?_
      refine r_callV (pc := 64) (k := a) (As := [.int (S.1 r3 0)]) (rest := []) (mc' := 0) (ms' := 0) lk_Mg_174 in_Mg_give se_Mg_give sa rfl d_Mg_told_64 k_Mg_give rfl rfl (Nat.le_of_ble_eq_true rfl) (by decide) (by decide) (Sp.mono h ?_)
      rintro rS5 shS5 S5 ⟨qS5, x6, uS5, h⟩
      subst uS5
      rw [qS5]
      exact r_ireturn (pc := 67) d_Mg_told_67 rfl rfl (Nat.le_refl _) ⟨rfl, _, rfl, h⟩
    · refine r_tabIn (pc := 1) d_Mg_told_1 (off := 67) (by omega) (by omega) (by rw [q55]; rfl) (tgt := 68) (by decide) ?_
      replace h := h.2.2.1 (aw_ix (y := 1) q55 (by decide))
      refine r_aload_n (pc := 68) d_Mg_told_68 (x := a) rfl ?_
      refine r_aload_n (pc := 69) d_Mg_told_69 (x := a) rfl ?_
      obtain ⟨r7, er7, h⟩ := h
      refine r_getR (pc := 70) d_Mg_told_70 f_Mg_30 sa (Or.inl ⟨_, rfl⟩) (r := r7) er7 ?_
      obtain ⟨s8, h⟩ := h
      refine r_callV (pc := 73) (k := r7) (As := []) (rest := [.ref a]) (mc' := 0) (ms' := 0) lk_Mg_191 in_Gr_gaps se_Gr_gaps s8 rfl d_Mg_told_73 k_Gr_gaps rfl rfl (Nat.le_of_ble_eq_true rfl) (by decide) (by decide) (Sp.mono h ?_)
      rintro rS9 shS9 S9 ⟨qS9, x10, uS9, h⟩
      subst uS9
      rw [qS9]
      refine r_callV (pc := 76) (k := a) (As := [.int x10]) (rest := []) (mc' := 0) (ms' := 0) lk_Mg_174 in_Mg_give se_Mg_give sa rfl d_Mg_told_76 k_Mg_give rfl rfl (Nat.le_of_ble_eq_true rfl) (by decide) (by decide) (Sp.mono h ?_)
      rintro rS11 shS11 S11 ⟨qS11, x12, uS11, h⟩
      subst uS11
      rw [qS11]
      exact r_ireturn (pc := 79) d_Mg_told_79 rfl rfl (Nat.le_refl _) ⟨rfl, _, rfl, h⟩
    · refine r_tabIn (pc := 1) d_Mg_told_1 (off := 79) (by omega) (by omega) (by rw [q55]; rfl) (tgt := 80) (by decide) ?_
      replace h := h.2.2.2.1 (aw_ix (y := 2) q55 (by decide))
      refine r_aload_n (pc := 80) d_Mg_told_80 (x := a) rfl ?_
      refine r_aload_n (pc := 81) d_Mg_told_81 (x := a) rfl ?_
      obtain ⟨r13, er13, h⟩ := h
      refine r_getR (pc := 82) d_Mg_told_82 f_Mg_30 sa (Or.inl ⟨_, rfl⟩) (r := r13) er13 ?_
      obtain ⟨s14, h⟩ := h
      obtain ⟨r15, er15, h⟩ := h
      refine r_getR (pc := 85) d_Mg_told_85 f_Mg_195 s14 (Or.inl ⟨_, rfl⟩) (r := r15) er15 ?_
      obtain ⟨s16, h⟩ := h
      refine r_getI (pc := 88) d_Mg_told_88 f_Mg_198 s16 rfl ?_
      refine r_callV (pc := 91) (k := a) (As := [.int (S.1 r15 1)]) (rest := []) (mc' := 0) (ms' := 0) lk_Mg_174 in_Mg_give se_Mg_give sa rfl d_Mg_told_91 k_Mg_give rfl rfl (Nat.le_of_ble_eq_true rfl) (by decide) (by decide) (Sp.mono h ?_)
      rintro rS17 shS17 S17 ⟨qS17, x18, uS17, h⟩
      subst uS17
      rw [qS17]
      exact r_ireturn (pc := 94) d_Mg_told_94 rfl rfl (Nat.le_refl _) ⟨rfl, _, rfl, h⟩
    · refine r_tabIn (pc := 1) d_Mg_told_1 (off := 94) (by omega) (by omega) (by rw [q55]; rfl) (tgt := 95) (by decide) ?_
      replace h := h.2.2.2.2.1 (aw_ix (y := 3) q55 (by decide))
      refine r_aload_n (pc := 95) d_Mg_told_95 (x := a) rfl ?_
      refine r_aload_n (pc := 96) d_Mg_told_96 (x := a) rfl ?_
      obtain ⟨r19, er19, h⟩ := h
      refine r_getR (pc := 97) d_Mg_told_97 f_Mg_30 sa (Or.inl ⟨_, rfl⟩) (r := r19) er19 ?_
      obtain ⟨s20, h⟩ := h
      refine r_getI (pc := 100) d_Mg_told_100 f_Mg_201 s20 rfl ?_
      refine r_callV (pc := 103) (k := a) (As := [.int (S.1 r19 1)]) (rest := []) (mc' := 0) (ms' := 0) lk_Mg_174 in_Mg_give se_Mg_give sa rfl d_Mg_told_103 k_Mg_give rfl rfl (Nat.le_of_ble_eq_true rfl) (by decide) (by decide) (Sp.mono h ?_)
      rintro rS21 shS21 S21 ⟨qS21, x22, uS21, h⟩
      subst uS21
      rw [qS21]
      exact r_ireturn (pc := 106) d_Mg_told_106 rfl rfl (Nat.le_refl _) ⟨rfl, _, rfl, h⟩
    · refine r_tabIn (pc := 1) d_Mg_told_1 (off := 106) (by omega) (by omega) (by rw [q55]; rfl) (tgt := 107) (by decide) ?_
      replace h := h.2.2.2.2.2.1 (aw_ix (y := 4) q55 (by decide))
      refine r_aload_n (pc := 107) d_Mg_told_107 (x := a) rfl ?_
      refine r_aload_n (pc := 108) d_Mg_told_108 (x := a) rfl ?_
      obtain ⟨r23, er23, h⟩ := h
      refine r_getR (pc := 109) d_Mg_told_109 f_Mg_30 sa (Or.inl ⟨_, rfl⟩) (r := r23) er23 ?_
      obtain ⟨s24, h⟩ := h
      refine r_getI (pc := 112) d_Mg_told_112 f_Mg_204 s24 rfl ?_
      refine r_callV (pc := 115) (k := a) (As := [.int (S.1 r23 2)]) (rest := []) (mc' := 0) (ms' := 0) lk_Mg_174 in_Mg_give se_Mg_give sa rfl d_Mg_told_115 k_Mg_give rfl rfl (Nat.le_of_ble_eq_true rfl) (by decide) (by decide) (Sp.mono h ?_)
      rintro rS25 shS25 S25 ⟨qS25, x26, uS25, h⟩
      subst uS25
      rw [qS25]
      exact r_ireturn (pc := 118) d_Mg_told_118 rfl rfl (Nat.le_refl _) ⟨rfl, _, rfl, h⟩
    · refine r_tabIn (pc := 1) d_Mg_told_1 (off := 118) (by omega) (by omega) (by rw [q55]; rfl) (tgt := 119) (by decide) ?_
      replace h := h.2.2.2.2.2.2.1 (aw_ix (y := 5) q55 (by decide))
      refine r_aload_n (pc := 119) d_Mg_told_119 (x := a) rfl ?_
      refine r_aload_n (pc := 120) d_Mg_told_120 (x := a) rfl ?_
      obtain ⟨r27, er27, h⟩ := h
      refine r_getR (pc := 121) d_Mg_told_121 f_Mg_30 sa (Or.inl ⟨_, rfl⟩) (r := r27) er27 ?_
      obtain ⟨s28, h⟩ := h
      refine r_callV (pc := 124) (k := r27) (As := []) (rest := [.ref a]) (mc' := 0) (ms' := 0) lk_Mg_207 in_Gr_greatestRow se_Gr_greatestRow s28 rfl d_Mg_told_124 k_Gr_greatestRow rfl rfl (Nat.le_of_ble_eq_true rfl) (by decide) (by decide) (Sp.mono h ?_)
      rintro rS29 shS29 S29 ⟨qS29, x30, uS29, h⟩
      subst uS29
      rw [qS29]
      refine r_callV (pc := 127) (k := a) (As := [.int x30]) (rest := []) (mc' := 0) (ms' := 0) lk_Mg_174 in_Mg_give se_Mg_give sa rfl d_Mg_told_127 k_Mg_give rfl rfl (Nat.le_of_ble_eq_true rfl) (by decide) (by decide) (Sp.mono h ?_)
      rintro rS31 shS31 S31 ⟨qS31, x32, uS31, h⟩
      subst uS31
      rw [qS31]
      exact r_ireturn (pc := 130) d_Mg_told_130 rfl rfl (Nat.le_refl _) ⟨rfl, _, rfl, h⟩
    · refine r_tabIn (pc := 1) d_Mg_told_1 (off := 130) (by omega) (by omega) (by rw [q55]; rfl) (tgt := 131) (by decide) ?_
      replace h := h.2.2.2.2.2.2.2.1 (aw_ix (y := 6) q55 (by decide))
      refine r_aload_n (pc := 131) d_Mg_told_131 (x := a) rfl ?_
      refine r_aload_n (pc := 132) d_Mg_told_132 (x := a) rfl ?_
      obtain ⟨r33, er33, h⟩ := h
      refine r_getR (pc := 133) d_Mg_told_133 f_Mg_30 sa (Or.inl ⟨_, rfl⟩) (r := r33) er33 ?_
      obtain ⟨s34, h⟩ := h
      refine r_getI (pc := 136) d_Mg_told_136 f_Mg_210 s34 rfl ?_
      refine r_aload_n (pc := 139) d_Mg_told_139 (x := a) rfl ?_
      refine r_getR (pc := 140) d_Mg_told_140 f_Mg_30 sa (Or.inl ⟨_, rfl⟩) (r := r33) er33 ?_
      refine r_getI (pc := 143) d_Mg_told_143 f_Mg_213 s34 rfl ?_
      refine r_iadd (pc := 146) d_Mg_told_146 ?_
      refine r_callV (pc := 147) (k := a) (As := [.int ((S.1 r33 3) + (S.1 r33 4))]) (rest := []) (mc' := 0) (ms' := 0) lk_Mg_174 in_Mg_give se_Mg_give sa rfl d_Mg_told_147 k_Mg_give rfl rfl (Nat.le_of_ble_eq_true rfl) (by decide) (by decide) (Sp.mono h ?_)
      rintro rS35 shS35 S35 ⟨qS35, x36, uS35, h⟩
      subst uS35
      rw [qS35]
      exact r_ireturn (pc := 150) d_Mg_told_150 rfl rfl (Nat.le_refl _) ⟨rfl, _, rfl, h⟩
    · refine r_tabIn (pc := 1) d_Mg_told_1 (off := 150) (by omega) (by omega) (by rw [q55]; rfl) (tgt := 151) (by decide) ?_
      replace h := h.2.2.2.2.2.2.2.2.1 (aw_ix (y := 7) q55 (by decide))
      refine r_aload_n (pc := 151) d_Mg_told_151 (x := a) rfl ?_
      refine r_aload_n (pc := 152) d_Mg_told_152 (x := a) rfl ?_
      obtain ⟨r37, er37, h⟩ := h
      refine r_getR (pc := 153) d_Mg_told_153 f_Mg_30 sa (Or.inl ⟨_, rfl⟩) (r := r37) er37 ?_
      obtain ⟨s38, h⟩ := h
      refine r_callV (pc := 156) (k := r37) (As := []) (rest := [.ref a]) (mc' := 0) (ms' := 0) lk_Mg_216 in_Gr_atHome se_Gr_atHome s38 rfl d_Mg_told_156 k_Gr_atHome rfl rfl (Nat.le_of_ble_eq_true rfl) (by decide) (by decide) (Sp.mono h ?_)
      rintro rS39 shS39 S39 ⟨qS39, x40, uS39, h⟩
      subst uS39
      rw [qS39]
      refine r_callV (pc := 159) (k := a) (As := [.int x40]) (rest := []) (mc' := 0) (ms' := 0) lk_Mg_174 in_Mg_give se_Mg_give sa rfl d_Mg_told_159 k_Mg_give rfl rfl (Nat.le_of_ble_eq_true rfl) (by decide) (by decide) (Sp.mono h ?_)
      rintro rS41 shS41 S41 ⟨qS41, x42, uS41, h⟩
      subst uS41
      rw [qS41]
      exact r_ireturn (pc := 162) d_Mg_told_162 rfl rfl (Nat.le_refl _) ⟨rfl, _, rfl, h⟩
    · refine r_tabIn (pc := 1) d_Mg_told_1 (off := 162) (by omega) (by omega) (by rw [q55]; rfl) (tgt := 163) (by decide) ?_
      replace h := h.2.2.2.2.2.2.2.2.2.1 (aw_ix (y := 8) q55 (by decide))
      refine r_aload_n (pc := 163) d_Mg_told_163 (x := a) rfl ?_
      refine r_aload_n (pc := 164) d_Mg_told_164 (x := a) rfl ?_
      obtain ⟨r43, er43, h⟩ := h
      refine r_getR (pc := 165) d_Mg_told_165 f_Mg_30 sa (Or.inl ⟨_, rfl⟩) (r := r43) er43 ?_
      obtain ⟨s44, h⟩ := h
      refine r_callV (pc := 168) (k := r43) (As := []) (rest := [.ref a]) (mc' := 0) (ms' := 0) lk_Mg_219 in_Gr_freeGaps se_Gr_freeGaps s44 rfl d_Mg_told_168 k_Gr_freeGaps rfl rfl (Nat.le_of_ble_eq_true rfl) (by decide) (by decide) (Sp.mono h ?_)
      rintro rS45 shS45 S45 ⟨qS45, x46, uS45, h⟩
      subst uS45
      rw [qS45]
      refine r_callV (pc := 171) (k := a) (As := [.int x46]) (rest := []) (mc' := 0) (ms' := 0) lk_Mg_174 in_Mg_give se_Mg_give sa rfl d_Mg_told_171 k_Mg_give rfl rfl (Nat.le_of_ble_eq_true rfl) (by decide) (by decide) (Sp.mono h ?_)
      rintro rS47 shS47 S47 ⟨qS47, x48, uS47, h⟩
      subst uS47
      rw [qS47]
      exact r_ireturn (pc := 174) d_Mg_told_174 rfl rfl (Nat.le_refl _) ⟨rfl, _, rfl, h⟩
    · refine r_tabIn (pc := 1) d_Mg_told_1 (off := 174) (by omega) (by omega) (by rw [q55]; rfl) (tgt := 175) (by decide) ?_
      replace h := h.2.2.2.2.2.2.2.2.2.2 (aw_ix (y := 9) q55 (by decide))
      refine r_aload_n (pc := 175) d_Mg_told_175 (x := a) rfl ?_
      refine r_aload_n (pc := 176) d_Mg_told_176 (x := a) rfl ?_
      obtain ⟨r49, er49, h⟩ := h
      refine r_getR (pc := 177) d_Mg_told_177 f_Mg_30 sa (Or.inl ⟨_, rfl⟩) (r := r49) er49 ?_
      obtain ⟨s50, h⟩ := h
      refine r_callV (pc := 180) (k := r49) (As := []) (rest := [.ref a]) (mc' := 0) (ms' := 0) lk_Mg_222 in_Gr_coloursShown se_Gr_coloursShown s50 rfl d_Mg_told_180 k_Gr_coloursShown rfl rfl (Nat.le_of_ble_eq_true rfl) (by decide) (by decide) (Sp.mono h ?_)
      rintro rS51 shS51 S51 ⟨qS51, x52, uS51, h⟩
      subst uS51
      rw [qS51]
      refine r_callV (pc := 183) (k := a) (As := [.int x52]) (rest := []) (mc' := 0) (ms' := 0) lk_Mg_174 in_Mg_give se_Mg_give sa rfl d_Mg_told_183 k_Mg_give rfl rfl (Nat.le_of_ble_eq_true rfl) (by decide) (by decide) (Sp.mono h ?_)
      rintro rS53 shS53 S53 ⟨qS53, x54, uS53, h⟩
      subst uS53
      rw [qS53]
      exact r_ireturn (pc := 186) d_Mg_told_186 rfl rfl (Nat.le_refl _) ⟨rfl, _, rfl, h⟩
set_option maxRecDepth 4000 in
theorem e_Mg_dancer {l : Launch} {d : Nat} {sh : aw_SH} {S : aw_S} {P : Int32 → aw_S → Prop} {a : Nat} {p0 : Int32} {p1 : Int32} (sa : sh[a]? = some (0, 0)) (h : Sp l m_Mg_isDancer d 0 0 [.ref a, .int p0] sh S (gI sh (fun x2 S1 => ((¬ x2 = 0 → ((((p1 : Int32).toInt < 0 ∨ 4 < (p1 : Int32).toInt) → Sp l m_Mg_fail d 0 0 [.ref a, .int 1] sh S1 (gI sh (fun x5 S4 => P x5 S4))) ∧ (p1 = 0 → ∃ r6, S1.2.2 a 6 = some r6 ∧ sh[r6]? = some (0, 2) ∧ ∃ r8, S1.2.2 r6 7 = some r8 ∧ ∃ n10, sh[r8]? = some (3, n10) ∧ vp_in p0 n10 ∧ Sp l m_Mg_give d 0 0 [.ref a, .int (S1.1 r8 p0.toNatClampNeg)] sh S1 (gI sh (fun x13 S12 => P x13 S12))) ∧ (p1 = 1 → ∃ r14, S1.2.2 a 6 = some r14 ∧ sh[r14]? = some (0, 2) ∧ ∃ r16, S1.2.2 r14 6 = some r16 ∧ ∃ n18, sh[r16]? = some (3, n18) ∧ vp_in p0 n18 ∧ Sp l m_Mg_give d 0 0 [.ref a, .int (S1.1 r16 p0.toNatClampNeg)] sh S1 (gI sh (fun x21 S20 => P x21 S20))) ∧ (p1 = 2 → ∃ r22, S1.2.2 a 6 = some r22 ∧ sh[r22]? = some (0, 2) ∧ Sp l m_Gr_left d 0 0 [.ref r22, .int p0] sh S1 (gI sh (fun x25 S24 => Sp l m_Mg_give d 0 0 [.ref a, .int x25] sh S24 (gI sh (fun x27 S26 => P x27 S26))))) ∧ (p1 = 3 → ∃ r28, S1.2.2 a 6 = some r28 ∧ sh[r28]? = some (0, 2) ∧ ∃ r30, S1.2.2 r28 10 = some r30 ∧ sh[r30]? = some (0, 3) ∧ Sp l m_Pl_timesOver d 0 0 [.ref r30, .int p0] sh S1 (gI sh (fun x33 S32 => Sp l m_Mg_give d 0 0 [.ref a, .int x33] sh S32 (gI sh (fun x35 S34 => P x35 S34))))) ∧ (p1 = 4 → ∃ r36, S1.2.2 a 6 = some r36 ∧ sh[r36]? = some (0, 2) ∧ ∃ r38, S1.2.2 r36 8 = some r38 ∧ ∃ n40, sh[r38]? = some (3, n40) ∧ vp_in p0 n40 ∧ ∃ r42, S1.2.2 r36 10 = some r42 ∧ sh[r42]? = some (0, 3) ∧ Sp l m_Pl_timesOver d 0 0 [.ref r42, .int p0] sh S1 (gI sh (fun x45 S44 => Sp l m_Mg_give d 0 0 [.ref a, .int ((S1.1 r38 p0.toNatClampNeg) - x45)] sh S44 (gI sh (fun x47 S46 => P x47 S46))))))) ∧ (x2 = 0 → Sp l m_Mg_fail d 0 0 [.ref a, .int 1] sh S1 (gI sh (fun x50 S49 => P x50 S49))))))) : Sp l m_Mg_dancer (d + 1) 0 0 [.ref a, .int p0, .int p1] sh S (gI sh P) := by
  refine Sp.of k_Mg_dancer (ls := [.ref a, .int p0, .int p1]) rfl (Nat.le_of_ble_eq_true rfl) ?_
  refine r_aload_n (pc := 0) d_Mg_dancer_0 (x := a) rfl ?_
  refine r_iload_n (pc := 1) d_Mg_dancer_1 (x := p0) rfl ?_
  refine r_callV (pc := 2) (k := a) (As := [.int p0]) (rest := []) (mc' := 0) (ms' := 0) lk_Mg_225 in_Mg_isDancer se_Mg_isDancer sa rfl d_Mg_dancer_2 k_Mg_isDancer rfl rfl (Nat.le_of_ble_eq_true rfl) (by decide) (by decide) (Sp.mono h ?_)
  rintro rS1 shS1 S1 ⟨qS1, x2, uS1, h⟩
  subst uS1
  rw [qS1]
  refine r_if_ne (pc := 5) d_Mg_dancer_5 (tgt := 14) (by decide) (fun c3 => ?_) (fun c3 => ?_)
  · replace h := h.1 c3
    refine r_iload_n (pc := 14) d_Mg_dancer_14 (x := p1) rfl ?_
    rcases aw_sw (p1) 0 4 with q48 | ⟨kq48, q48, wq48⟩
    · refine r_tabOut (pc := 15) d_Mg_dancer_15 q48 (tgt := 131) (by decide) ?_
      replace h := h.1 q48
      refine r_aload_n (pc := 131) d_Mg_dancer_131 (x := a) rfl ?_
      refine r_iconst (pc := 132) d_Mg_dancer_132 (v := 1) (by decide) ?_
      refine r_callV (pc := 133) (k := a) (As := [.int 1]) (rest := []) (mc' := 0) (ms' := 0) lk_Mg_133 in_Mg_fail se_Mg_fail sa rfl d_Mg_dancer_133 k_Mg_fail rfl rfl (Nat.le_of_ble_eq_true rfl) (by decide) (by decide) (Sp.mono h ?_)
      rintro rS4 shS4 S4 ⟨qS4, x5, uS4, h⟩
      subst uS4
      rw [qS4]
      exact r_ireturn (pc := 136) d_Mg_dancer_136 rfl rfl (Nat.le_refl _) ⟨rfl, _, rfl, h⟩
    · rcases (show kq48 = 0 ∨ kq48 = 1 ∨ kq48 = 2 ∨ kq48 = 3 ∨ kq48 = 4 by omega) with rfl | rfl | rfl | rfl | rfl
      · refine r_tabIn (pc := 15) d_Mg_dancer_15 (off := 33) (by omega) (by omega) (by rw [q48]; rfl) (tgt := 48) (by decide) ?_
        replace h := h.2.1 (aw_ix (y := 0) q48 (by decide))
        refine r_aload_n (pc := 48) d_Mg_dancer_48 (x := a) rfl ?_
        refine r_aload_n (pc := 49) d_Mg_dancer_49 (x := a) rfl ?_
        obtain ⟨r6, er6, h⟩ := h
        refine r_getR (pc := 50) d_Mg_dancer_50 f_Mg_30 sa (Or.inl ⟨_, rfl⟩) (r := r6) er6 ?_
        obtain ⟨s7, h⟩ := h
        obtain ⟨r8, er8, h⟩ := h
        refine r_getR (pc := 53) d_Mg_dancer_53 f_Mg_228 s7 (Or.inr ⟨_, rfl⟩) (r := r8) er8 ?_
        refine r_iload_n (pc := 56) d_Mg_dancer_56 (x := p0) rfl ?_
        obtain ⟨n10, s9, h⟩ := h
        obtain ⟨g11, h⟩ := h
        refine r_iald (pc := 57) d_Mg_dancer_57 s9 g11 ?_
        refine r_callV (pc := 58) (k := a) (As := [.int (S1.1 r8 p0.toNatClampNeg)]) (rest := []) (mc' := 0) (ms' := 0) lk_Mg_174 in_Mg_give se_Mg_give sa rfl d_Mg_dancer_58 k_Mg_give rfl rfl (Nat.le_of_ble_eq_true rfl) (by decide) (by decide) (Sp.mono h ?_)
        rintro rS12 shS12 S12 ⟨qS12, x13, uS12, h⟩
        subst uS12
        rw [qS12]
        exact r_ireturn (pc := 61) d_Mg_dancer_61 rfl rfl (Nat.le_refl _) ⟨rfl, _, rfl, h⟩
      · refine r_tabIn (pc := 15) d_Mg_dancer_15 (off := 47) (by omega) (by omega) (by rw [q48]; rfl) (tgt := 62) (by decide) ?_
        replace h := h.2.2.1 (aw_ix (y := 1) q48 (by decide))
        refine r_aload_n (pc := 62) d_Mg_dancer_62 (x := a) rfl ?_
        refine r_aload_n (pc := 63) d_Mg_dancer_63 (x := a) rfl ?_
        obtain ⟨r14, er14, h⟩ := h
        refine r_getR (pc := 64) d_Mg_dancer_64 f_Mg_30 sa (Or.inl ⟨_, rfl⟩) (r := r14) er14 ?_
        obtain ⟨s15, h⟩ := h
        obtain ⟨r16, er16, h⟩ := h
        refine r_getR (pc := 67) d_Mg_dancer_67 f_Mg_231 s15 (Or.inr ⟨_, rfl⟩) (r := r16) er16 ?_
        refine r_iload_n (pc := 70) d_Mg_dancer_70 (x := p0) rfl ?_
        obtain ⟨n18, s17, h⟩ := h
        obtain ⟨g19, h⟩ := h
        refine r_iald (pc := 71) d_Mg_dancer_71 s17 g19 ?_
        refine r_callV (pc := 72) (k := a) (As := [.int (S1.1 r16 p0.toNatClampNeg)]) (rest := []) (mc' := 0) (ms' := 0) lk_Mg_174 in_Mg_give se_Mg_give sa rfl d_Mg_dancer_72 k_Mg_give rfl rfl (Nat.le_of_ble_eq_true rfl) (by decide) (by decide) (Sp.mono h ?_)
        rintro rS20 shS20 S20 ⟨qS20, x21, uS20, h⟩
        subst uS20
        rw [qS20]
        exact r_ireturn (pc := 75) d_Mg_dancer_75 rfl rfl (Nat.le_refl _) ⟨rfl, _, rfl, h⟩
      · refine r_tabIn (pc := 15) d_Mg_dancer_15 (off := 61) (by omega) (by omega) (by rw [q48]; rfl) (tgt := 76) (by decide) ?_
        replace h := h.2.2.2.1 (aw_ix (y := 2) q48 (by decide))
        refine r_aload_n (pc := 76) d_Mg_dancer_76 (x := a) rfl ?_
        refine r_aload_n (pc := 77) d_Mg_dancer_77 (x := a) rfl ?_
        obtain ⟨r22, er22, h⟩ := h
        refine r_getR (pc := 78) d_Mg_dancer_78 f_Mg_30 sa (Or.inl ⟨_, rfl⟩) (r := r22) er22 ?_
        refine r_iload_n (pc := 81) d_Mg_dancer_81 (x := p0) rfl ?_
        obtain ⟨s23, h⟩ := h
        refine r_callV (pc := 82) (k := r22) (As := [.int p0]) (rest := [.ref a]) (mc' := 0) (ms' := 0) lk_Mg_234 in_Gr_left se_Gr_left s23 rfl d_Mg_dancer_82 k_Gr_left rfl rfl (Nat.le_of_ble_eq_true rfl) (by decide) (by decide) (Sp.mono h ?_)
        rintro rS24 shS24 S24 ⟨qS24, x25, uS24, h⟩
        subst uS24
        rw [qS24]
        refine r_callV (pc := 85) (k := a) (As := [.int x25]) (rest := []) (mc' := 0) (ms' := 0) lk_Mg_174 in_Mg_give se_Mg_give sa rfl d_Mg_dancer_85 k_Mg_give rfl rfl (Nat.le_of_ble_eq_true rfl) (by decide) (by decide) (Sp.mono h ?_)
        rintro rS26 shS26 S26 ⟨qS26, x27, uS26, h⟩
        subst uS26
        rw [qS26]
        exact r_ireturn (pc := 88) d_Mg_dancer_88 rfl rfl (Nat.le_refl _) ⟨rfl, _, rfl, h⟩
      · refine r_tabIn (pc := 15) d_Mg_dancer_15 (off := 74) (by omega) (by omega) (by rw [q48]; rfl) (tgt := 89) (by decide) ?_
        replace h := h.2.2.2.2.1 (aw_ix (y := 3) q48 (by decide))
        refine r_aload_n (pc := 89) d_Mg_dancer_89 (x := a) rfl ?_
        refine r_aload_n (pc := 90) d_Mg_dancer_90 (x := a) rfl ?_
        obtain ⟨r28, er28, h⟩ := h
        refine r_getR (pc := 91) d_Mg_dancer_91 f_Mg_30 sa (Or.inl ⟨_, rfl⟩) (r := r28) er28 ?_
        obtain ⟨s29, h⟩ := h
        obtain ⟨r30, er30, h⟩ := h
        refine r_getR (pc := 94) d_Mg_dancer_94 f_Mg_195 s29 (Or.inl ⟨_, rfl⟩) (r := r30) er30 ?_
        refine r_iload_n (pc := 97) d_Mg_dancer_97 (x := p0) rfl ?_
        obtain ⟨s31, h⟩ := h
        refine r_callV (pc := 98) (k := r30) (As := [.int p0]) (rest := [.ref a]) (mc' := 0) (ms' := 0) lk_Mg_237 in_Pl_timesOver se_Pl_timesOver s31 rfl d_Mg_dancer_98 k_Pl_timesOver rfl rfl (Nat.le_of_ble_eq_true rfl) (by decide) (by decide) (Sp.mono h ?_)
        rintro rS32 shS32 S32 ⟨qS32, x33, uS32, h⟩
        subst uS32
        rw [qS32]
        refine r_callV (pc := 101) (k := a) (As := [.int x33]) (rest := []) (mc' := 0) (ms' := 0) lk_Mg_174 in_Mg_give se_Mg_give sa rfl d_Mg_dancer_101 k_Mg_give rfl rfl (Nat.le_of_ble_eq_true rfl) (by decide) (by decide) (Sp.mono h ?_)
        rintro rS34 shS34 S34 ⟨qS34, x35, uS34, h⟩
        subst uS34
        rw [qS34]
        exact r_ireturn (pc := 104) d_Mg_dancer_104 rfl rfl (Nat.le_refl _) ⟨rfl, _, rfl, h⟩
      · refine r_tabIn (pc := 15) d_Mg_dancer_15 (off := 90) (by omega) (by omega) (by rw [q48]; rfl) (tgt := 105) (by decide) ?_
        replace h := h.2.2.2.2.2 (aw_ix (y := 4) q48 (by decide))
        refine r_aload_n (pc := 105) d_Mg_dancer_105 (x := a) rfl ?_
        refine r_aload_n (pc := 106) d_Mg_dancer_106 (x := a) rfl ?_
        obtain ⟨r36, er36, h⟩ := h
        refine r_getR (pc := 107) d_Mg_dancer_107 f_Mg_30 sa (Or.inl ⟨_, rfl⟩) (r := r36) er36 ?_
        obtain ⟨s37, h⟩ := h
        obtain ⟨r38, er38, h⟩ := h
        refine r_getR (pc := 110) d_Mg_dancer_110 f_Mg_240 s37 (Or.inr ⟨_, rfl⟩) (r := r38) er38 ?_
        refine r_iload_n (pc := 113) d_Mg_dancer_113 (x := p0) rfl ?_
        obtain ⟨n40, s39, h⟩ := h
        obtain ⟨g41, h⟩ := h
        refine r_iald (pc := 114) d_Mg_dancer_114 s39 g41 ?_
        refine r_aload_n (pc := 115) d_Mg_dancer_115 (x := a) rfl ?_
        refine r_getR (pc := 116) d_Mg_dancer_116 f_Mg_30 sa (Or.inl ⟨_, rfl⟩) (r := r36) er36 ?_
        obtain ⟨r42, er42, h⟩ := h
        refine r_getR (pc := 119) d_Mg_dancer_119 f_Mg_195 s37 (Or.inl ⟨_, rfl⟩) (r := r42) er42 ?_
        refine r_iload_n (pc := 122) d_Mg_dancer_122 (x := p0) rfl ?_
        obtain ⟨s43, h⟩ := h
        refine r_callV (pc := 123) (k := r42) (As := [.int p0]) (rest := [.int (S1.1 r38 p0.toNatClampNeg), .ref a]) (mc' := 0) (ms' := 0) lk_Mg_237 in_Pl_timesOver se_Pl_timesOver s43 rfl d_Mg_dancer_123 k_Pl_timesOver rfl rfl (Nat.le_of_ble_eq_true rfl) (by decide) (by decide) (Sp.mono h ?_)
        rintro rS44 shS44 S44 ⟨qS44, x45, uS44, h⟩
        subst uS44
        rw [qS44]
        refine r_isub (pc := 126) d_Mg_dancer_126 ?_
        refine r_callV (pc := 127) (k := a) (As := [.int ((S1.1 r38 p0.toNatClampNeg) - x45)]) (rest := []) (mc' := 0) (ms' := 0) lk_Mg_174 in_Mg_give se_Mg_give sa rfl d_Mg_dancer_127 k_Mg_give rfl rfl (Nat.le_of_ble_eq_true rfl) (by decide) (by decide) (Sp.mono h ?_)
        rintro rS46 shS46 S46 ⟨qS46, x47, uS46, h⟩
        subst uS46
        rw [qS46]
        exact r_ireturn (pc := 130) d_Mg_dancer_130 rfl rfl (Nat.le_refl _) ⟨rfl, _, rfl, h⟩
  · replace h := h.2 c3
    refine r_aload_n (pc := 8) d_Mg_dancer_8 (x := a) rfl ?_
    refine r_iconst (pc := 9) d_Mg_dancer_9 (v := 1) (by decide) ?_
    refine r_callV (pc := 10) (k := a) (As := [.int 1]) (rest := []) (mc' := 0) (ms' := 0) lk_Mg_133 in_Mg_fail se_Mg_fail sa rfl d_Mg_dancer_10 k_Mg_fail rfl rfl (Nat.le_of_ble_eq_true rfl) (by decide) (by decide) (Sp.mono h ?_)
    rintro rS49 shS49 S49 ⟨qS49, x50, uS49, h⟩
    subst uS49
    rw [qS49]
    exact r_ireturn (pc := 13) d_Mg_dancer_13 rfl rfl (Nat.le_refl _) ⟨rfl, _, rfl, h⟩
set_option maxRecDepth 4000 in
theorem e_Mg_isDancer {l : Launch} {d : Nat} {sh : aw_SH} {S : aw_S} {P : Int32 → aw_S → Prop} {a : Nat} {p0 : Int32} (sa : sh[a]? = some (0, 0)) (h : ∃ r1, S.2.2 a 6 = some r1 ∧ sh[r1]? = some (0, 2) ∧ Sp l m_Mg_isWithin d 0 0 [.int p0, .int 0, .int ((S.1 r1 0) - (1 : Int32))] sh S (gI sh (fun x4 S3 => ((x4 = 0 ∨ x4 = 1) ∧ P x4 S3)))) : Sp l m_Mg_isDancer (d + 1) 0 0 [.ref a, .int p0] sh S (gI sh P) := by
  refine Sp.of k_Mg_isDancer (ls := [.ref a, .int p0]) rfl (Nat.le_of_ble_eq_true rfl) ?_
  refine r_iload_n (pc := 0) d_Mg_isDancer_0 (x := p0) rfl ?_
  refine r_iconst (pc := 1) d_Mg_isDancer_1 (v := 0) (by decide) ?_
  refine r_aload_n (pc := 2) d_Mg_isDancer_2 (x := a) rfl ?_
  obtain ⟨r1, er1, h⟩ := h
  refine r_getR (pc := 3) d_Mg_isDancer_3 f_Mg_30 sa (Or.inl ⟨_, rfl⟩) (r := r1) er1 ?_
  obtain ⟨s2, h⟩ := h
  refine r_getI (pc := 6) d_Mg_isDancer_6 f_Mg_171 s2 rfl ?_
  refine r_iconst (pc := 9) d_Mg_isDancer_9 (v := 1) (by decide) ?_
  refine r_isub (pc := 10) d_Mg_isDancer_10 ?_
  refine r_callS (pc := 11) (k := 0) (As := [.int p0, .int 0, .int ((S.1 r1 0) - (1 : Int32))]) (rest := []) (mc' := 0) (ms' := 0) lk_Mg_110 st_Mg_isWithin d_Mg_isDancer_11 k_Mg_isWithin rfl rfl (Nat.le_of_ble_eq_true rfl) (by decide) (by decide) (Sp.mono h ?_)
  rintro rS3 shS3 S3 ⟨qS3, x4, uS3, h⟩
  subst uS3
  rw [qS3]
  obtain ⟨g5, h⟩ := h
  exact r_zreturn (pc := 14) d_Mg_isDancer_14 rfl (aw_nb g5) rfl (Nat.le_refl _) ⟨rfl, _, rfl, h⟩
set_option maxRecDepth 4000 in
theorem e_Mg_place {l : Launch} {d : Nat} {sh : aw_SH} {S : aw_S} {P : Int32 → aw_S → Prop} {a : Nat} {p0 : Int32} (sa : sh[a]? = some (0, 0)) (h : Sp l m_Mg_isPlace d 0 0 [.ref a, .int p0] sh S (gI sh (fun x2 S1 => ((x2 = 0 → Sp l m_Mg_fail d 0 0 [.ref a, .int 1] sh S1 (gI sh (fun x5 S4 => P x5 S4))) ∧ (¬ x2 = 0 → ∃ r6, S1.2.2 a 6 = some r6 ∧ sh[r6]? = some (0, 2) ∧ ∃ r8, S1.2.2 r6 9 = some r8 ∧ ∃ n10, sh[r8]? = some (3, n10) ∧ vp_in p0 n10 ∧ Sp l m_Mg_give d 0 0 [.ref a, .int (S1.1 r8 p0.toNatClampNeg)] sh S1 (gI sh (fun x13 S12 => P x13 S12))))))) : Sp l m_Mg_place (d + 1) 0 0 [.ref a, .int p0] sh S (gI sh P) := by
  refine Sp.of k_Mg_place (ls := [.ref a, .int p0]) rfl (Nat.le_of_ble_eq_true rfl) ?_
  refine r_aload_n (pc := 0) d_Mg_place_0 (x := a) rfl ?_
  refine r_iload_n (pc := 1) d_Mg_place_1 (x := p0) rfl ?_
  refine r_callV (pc := 2) (k := a) (As := [.int p0]) (rest := []) (mc' := 0) (ms' := 0) lk_Mg_243 in_Mg_isPlace se_Mg_isPlace sa rfl d_Mg_place_2 k_Mg_isPlace rfl rfl (Nat.le_of_ble_eq_true rfl) (by decide) (by decide) (Sp.mono h ?_)
  rintro rS1 shS1 S1 ⟨qS1, x2, uS1, h⟩
  subst uS1
  rw [qS1]
  refine r_if_eq (pc := 5) d_Mg_place_5 (tgt := 24) (by decide) (fun c3 => ?_) (fun c3 => ?_)
  · replace h := h.1 c3
    refine r_aload_n (pc := 24) d_Mg_place_24 (x := a) rfl ?_
    refine r_iconst (pc := 25) d_Mg_place_25 (v := 1) (by decide) ?_
    refine r_callV (pc := 26) (k := a) (As := [.int 1]) (rest := []) (mc' := 0) (ms' := 0) lk_Mg_133 in_Mg_fail se_Mg_fail sa rfl d_Mg_place_26 k_Mg_fail rfl rfl (Nat.le_of_ble_eq_true rfl) (by decide) (by decide) (Sp.mono h ?_)
    rintro rS4 shS4 S4 ⟨qS4, x5, uS4, h⟩
    subst uS4
    rw [qS4]
    exact r_ireturn (pc := 29) d_Mg_place_29 rfl rfl (Nat.le_refl _) ⟨rfl, _, rfl, h⟩
  · replace h := h.2 c3
    refine r_aload_n (pc := 8) d_Mg_place_8 (x := a) rfl ?_
    refine r_aload_n (pc := 9) d_Mg_place_9 (x := a) rfl ?_
    obtain ⟨r6, er6, h⟩ := h
    refine r_getR (pc := 10) d_Mg_place_10 f_Mg_30 sa (Or.inl ⟨_, rfl⟩) (r := r6) er6 ?_
    obtain ⟨s7, h⟩ := h
    obtain ⟨r8, er8, h⟩ := h
    refine r_getR (pc := 13) d_Mg_place_13 f_Mg_246 s7 (Or.inr ⟨_, rfl⟩) (r := r8) er8 ?_
    refine r_iload_n (pc := 16) d_Mg_place_16 (x := p0) rfl ?_
    obtain ⟨n10, s9, h⟩ := h
    obtain ⟨g11, h⟩ := h
    refine r_iald (pc := 17) d_Mg_place_17 s9 g11 ?_
    refine r_callV (pc := 18) (k := a) (As := [.int (S1.1 r8 p0.toNatClampNeg)]) (rest := []) (mc' := 0) (ms' := 0) lk_Mg_174 in_Mg_give se_Mg_give sa rfl d_Mg_place_18 k_Mg_give rfl rfl (Nat.le_of_ble_eq_true rfl) (by decide) (by decide) (Sp.mono h ?_)
    rintro rS12 shS12 S12 ⟨qS12, x13, uS12, h⟩
    subst uS12
    rw [qS12]
    refine r_goto (pc := 21) d_Mg_place_21 (tgt := 29) (by decide) ?_
    exact r_ireturn (pc := 29) d_Mg_place_29 rfl rfl (Nat.le_refl _) ⟨rfl, _, rfl, h⟩
set_option maxRecDepth 4000 in
theorem e_Mg_isPlace {l : Launch} {d : Nat} {sh : aw_SH} {S : aw_S} {P : Int32 → aw_S → Prop} {a : Nat} {p0 : Int32} (sa : sh[a]? = some (0, 0)) (h : ∃ r1, S.2.2 a 6 = some r1 ∧ sh[r1]? = some (0, 2) ∧ Sp l m_Mg_isWithin d 0 0 [.int p0, .int 0, .int ((S.1 r1 0) - (1 : Int32))] sh S (gI sh (fun x4 S3 => ((x4 = 0 ∨ x4 = 1) ∧ P x4 S3)))) : Sp l m_Mg_isPlace (d + 1) 0 0 [.ref a, .int p0] sh S (gI sh P) := by
  refine Sp.of k_Mg_isPlace (ls := [.ref a, .int p0]) rfl (Nat.le_of_ble_eq_true rfl) ?_
  refine r_iload_n (pc := 0) d_Mg_isPlace_0 (x := p0) rfl ?_
  refine r_iconst (pc := 1) d_Mg_isPlace_1 (v := 0) (by decide) ?_
  refine r_aload_n (pc := 2) d_Mg_isPlace_2 (x := a) rfl ?_
  obtain ⟨r1, er1, h⟩ := h
  refine r_getR (pc := 3) d_Mg_isPlace_3 f_Mg_30 sa (Or.inl ⟨_, rfl⟩) (r := r1) er1 ?_
  obtain ⟨s2, h⟩ := h
  refine r_getI (pc := 6) d_Mg_isPlace_6 f_Mg_171 s2 rfl ?_
  refine r_iconst (pc := 9) d_Mg_isPlace_9 (v := 1) (by decide) ?_
  refine r_isub (pc := 10) d_Mg_isPlace_10 ?_
  refine r_callS (pc := 11) (k := 0) (As := [.int p0, .int 0, .int ((S.1 r1 0) - (1 : Int32))]) (rest := []) (mc' := 0) (ms' := 0) lk_Mg_110 st_Mg_isWithin d_Mg_isPlace_11 k_Mg_isWithin rfl rfl (Nat.le_of_ble_eq_true rfl) (by decide) (by decide) (Sp.mono h ?_)
  rintro rS3 shS3 S3 ⟨qS3, x4, uS3, h⟩
  subst uS3
  rw [qS3]
  obtain ⟨g5, h⟩ := h
  exact r_zreturn (pc := 14) d_Mg_isPlace_14 rfl (aw_nb g5) rfl (Nat.le_refl _) ⟨rfl, _, rfl, h⟩
set_option maxRecDepth 4000 in
theorem e_Mg_plait {l : Launch} {d : Nat} {sh : aw_SH} {S : aw_S} {P : Int32 → aw_S → Prop} {a : Nat} {p0 : Int32} {p1 : Int32} (sa : sh[a]? = some (0, 0)) (h : Sp l m_Mg_isWithin d 0 0 [.int p1, .int 0, .int 6] sh S (gI sh (fun x2 S1 => ((¬ x2 = 0 → ∃ r4, S1.2.2 a 6 = some r4 ∧ sh[r4]? = some (0, 2) ∧ ∃ r6, S1.2.2 r4 10 = some r6 ∧ sh[r6]? = some (0, 3) ∧ Sp l m_Mg_isWithin d 0 0 [.int p0, .int 0, .int ((S1.1 r6 1) - (1 : Int32))] sh S1 (gI sh (fun x9 S8 => ((¬ x9 = 0 → ((((p1 : Int32).toInt < 0 ∨ 5 < (p1 : Int32).toInt) → ∃ r11, S8.2.2 a 6 = some r11 ∧ sh[r11]? = some (0, 2) ∧ Sp l m_Gr_mustGo d 0 0 [.ref r11, .int p0, .int (-1)] sh S8 (gI sh (fun x14 S13 => Sp l m_Mg_give d 0 0 [.ref a, .int x14] sh S13 (gI sh (fun x16 S15 => P x16 S15))))) ∧ (p1 = 0 → ∃ r17, S8.2.2 a 6 = some r17 ∧ sh[r17]? = some (0, 2) ∧ ∃ r19, S8.2.2 r17 10 = some r19 ∧ sh[r19]? = some (0, 3) ∧ Sp l m_Pl_gapAt d 0 0 [.ref r19, .int p0] sh S8 (gI sh (fun x22 S21 => Sp l m_Mg_give d 0 0 [.ref a, .int x22] sh S21 (gI sh (fun x24 S23 => P x24 S23))))) ∧ (p1 = 1 → ∃ r25, S8.2.2 a 6 = some r25 ∧ sh[r25]? = some (0, 2) ∧ ∃ r27, S8.2.2 r25 10 = some r27 ∧ sh[r27]? = some (0, 3) ∧ Sp l m_Pl_overAt d 0 0 [.ref r27, .int p0] sh S8 (gI sh (fun x30 S29 => Sp l m_Mg_give d 0 0 [.ref a, .int x30] sh S29 (gI sh (fun x32 S31 => P x32 S31))))) ∧ (p1 = 2 → ∃ r33, S8.2.2 a 6 = some r33 ∧ sh[r33]? = some (0, 2) ∧ ∃ r35, S8.2.2 r33 10 = some r35 ∧ sh[r35]? = some (0, 3) ∧ Sp l m_Pl_upperAt d 0 0 [.ref r35, .int p0] sh S8 (gI sh (fun x38 S37 => Sp l m_Mg_give d 0 0 [.ref a, .int x38] sh S37 (gI sh (fun x40 S39 => P x40 S39))))) ∧ (p1 = 3 → ∃ r41, S8.2.2 a 6 = some r41 ∧ sh[r41]? = some (0, 2) ∧ ∃ r43, S8.2.2 r41 10 = some r43 ∧ sh[r43]? = some (0, 3) ∧ Sp l m_Pl_lowerAt d 0 0 [.ref r43, .int p0] sh S8 (gI sh (fun x46 S45 => Sp l m_Mg_give d 0 0 [.ref a, .int x46] sh S45 (gI sh (fun x48 S47 => P x48 S47))))) ∧ (p1 = 4 → ∃ r49, S8.2.2 a 6 = some r49 ∧ sh[r49]? = some (0, 2) ∧ Sp l m_Gr_rowAt d 0 0 [.ref r49, .int p0] sh S8 (gI sh (fun x52 S51 => Sp l m_Mg_give d 0 0 [.ref a, .int x52] sh S51 (gI sh (fun x54 S53 => P x54 S53))))) ∧ (p1 = 5 → ∃ r55, S8.2.2 a 6 = some r55 ∧ sh[r55]? = some (0, 2) ∧ Sp l m_Gr_isFree d 0 0 [.ref r55, .int p0] sh S8 (gI sh (fun x58 S57 => ((x58 = 0 → Sp l m_Mg_give d 0 0 [.ref a, .int 0] sh S57 (gI sh (fun x61 S60 => P x61 S60))) ∧ (¬ x58 = 0 → Sp l m_Mg_give d 0 0 [.ref a, .int 1] sh S57 (gI sh (fun x63 S62 => P x63 S62))))))))) ∧ (x9 = 0 → Sp l m_Mg_fail d 0 0 [.ref a, .int 6] sh S8 (gI sh (fun x66 S65 => P x66 S65))))))) ∧ (x2 = 0 → Sp l m_Mg_fail d 0 0 [.ref a, .int 1] sh S1 (gI sh (fun x68 S67 => P x68 S67))))))) : Sp l m_Mg_plait (d + 1) 0 0 [.ref a, .int p0, .int p1] sh S (gI sh P) := by
  refine Sp.of k_Mg_plait (ls := [.ref a, .int p0, .int p1]) rfl (Nat.le_of_ble_eq_true rfl) ?_
  refine r_iload_n (pc := 0) d_Mg_plait_0 (x := p1) rfl ?_
  refine r_iconst (pc := 1) d_Mg_plait_1 (v := 0) (by decide) ?_
  refine r_bipush (pc := 2) d_Mg_plait_2 (v := 6) (by decide) ?_
  refine r_callS (pc := 4) (k := 0) (As := [.int p1, .int 0, .int 6]) (rest := []) (mc' := 0) (ms' := 0) lk_Mg_110 st_Mg_isWithin d_Mg_plait_4 k_Mg_isWithin rfl rfl (Nat.le_of_ble_eq_true rfl) (by decide) (by decide) (Sp.mono h ?_)
  rintro rS1 shS1 S1 ⟨qS1, x2, uS1, h⟩
  subst uS1
  rw [qS1]
  refine r_if_ne (pc := 7) d_Mg_plait_7 (tgt := 16) (by decide) (fun c3 => ?_) (fun c3 => ?_)
  · replace h := h.1 c3
    refine r_iload_n (pc := 16) d_Mg_plait_16 (x := p0) rfl ?_
    refine r_iconst (pc := 17) d_Mg_plait_17 (v := 0) (by decide) ?_
    refine r_aload_n (pc := 18) d_Mg_plait_18 (x := a) rfl ?_
    obtain ⟨r4, er4, h⟩ := h
    refine r_getR (pc := 19) d_Mg_plait_19 f_Mg_30 sa (Or.inl ⟨_, rfl⟩) (r := r4) er4 ?_
    obtain ⟨s5, h⟩ := h
    obtain ⟨r6, er6, h⟩ := h
    refine r_getR (pc := 22) d_Mg_plait_22 f_Mg_195 s5 (Or.inl ⟨_, rfl⟩) (r := r6) er6 ?_
    obtain ⟨s7, h⟩ := h
    refine r_getI (pc := 25) d_Mg_plait_25 f_Mg_198 s7 rfl ?_
    refine r_iconst (pc := 28) d_Mg_plait_28 (v := 1) (by decide) ?_
    refine r_isub (pc := 29) d_Mg_plait_29 ?_
    refine r_callS (pc := 30) (k := 0) (As := [.int p0, .int 0, .int ((S1.1 r6 1) - (1 : Int32))]) (rest := []) (mc' := 0) (ms' := 0) lk_Mg_110 st_Mg_isWithin d_Mg_plait_30 k_Mg_isWithin rfl rfl (Nat.le_of_ble_eq_true rfl) (by decide) (by decide) (Sp.mono h ?_)
    rintro rS8 shS8 S8 ⟨qS8, x9, uS8, h⟩
    subst uS8
    rw [qS8]
    refine r_if_ne (pc := 33) d_Mg_plait_33 (tgt := 43) (by decide) (fun c10 => ?_) (fun c10 => ?_)
    · replace h := h.1 c10
      refine r_iload_n (pc := 43) d_Mg_plait_43 (x := p1) rfl ?_
      rcases aw_sw (p1) 0 5 with q64 | ⟨kq64, q64, wq64⟩
      · refine r_tabOut (pc := 44) d_Mg_plait_44 q64 (tgt := 182) (by decide) ?_
        replace h := h.1 q64
        refine r_aload_n (pc := 182) d_Mg_plait_182 (x := a) rfl ?_
        refine r_aload_n (pc := 183) d_Mg_plait_183 (x := a) rfl ?_
        obtain ⟨r11, er11, h⟩ := h
        refine r_getR (pc := 184) d_Mg_plait_184 f_Mg_30 sa (Or.inl ⟨_, rfl⟩) (r := r11) er11 ?_
        refine r_iload_n (pc := 187) d_Mg_plait_187 (x := p0) rfl ?_
        refine r_iconst (pc := 188) d_Mg_plait_188 (v := (-1)) (by decide) ?_
        obtain ⟨s12, h⟩ := h
        refine r_callV (pc := 189) (k := r11) (As := [.int p0, .int (-1)]) (rest := [.ref a]) (mc' := 0) (ms' := 0) lk_Mg_267 in_Gr_mustGo se_Gr_mustGo s12 rfl d_Mg_plait_189 k_Gr_mustGo rfl rfl (Nat.le_of_ble_eq_true rfl) (by decide) (by decide) (Sp.mono h ?_)
        rintro rS13 shS13 S13 ⟨qS13, x14, uS13, h⟩
        subst uS13
        rw [qS13]
        refine r_callV (pc := 192) (k := a) (As := [.int x14]) (rest := []) (mc' := 0) (ms' := 0) lk_Mg_174 in_Mg_give se_Mg_give sa rfl d_Mg_plait_192 k_Mg_give rfl rfl (Nat.le_of_ble_eq_true rfl) (by decide) (by decide) (Sp.mono h ?_)
        rintro rS15 shS15 S15 ⟨qS15, x16, uS15, h⟩
        subst uS15
        rw [qS15]
        exact r_ireturn (pc := 195) d_Mg_plait_195 rfl rfl (Nat.le_refl _) ⟨rfl, _, rfl, h⟩
      · rcases (show kq64 = 0 ∨ kq64 = 1 ∨ kq64 = 2 ∨ kq64 = 3 ∨ kq64 = 4 ∨ kq64 = 5 by omega) with rfl | rfl | rfl | rfl | rfl | rfl
        · refine r_tabIn (pc := 44) d_Mg_plait_44 (off := 40) (by omega) (by omega) (by rw [q64]; rfl) (tgt := 84) (by decide) ?_
          replace h := h.2.1 (aw_ix (y := 0) q64 (by decide))
          refine r_aload_n (pc := 84) d_Mg_plait_84 (x := a) rfl ?_
          refine r_aload_n (pc := 85) d_Mg_plait_85 (x := a) rfl ?_
          obtain ⟨r17, er17, h⟩ := h
          refine r_getR (pc := 86) d_Mg_plait_86 f_Mg_30 sa (Or.inl ⟨_, rfl⟩) (r := r17) er17 ?_
          obtain ⟨s18, h⟩ := h
          obtain ⟨r19, er19, h⟩ := h
          refine r_getR (pc := 89) d_Mg_plait_89 f_Mg_195 s18 (Or.inl ⟨_, rfl⟩) (r := r19) er19 ?_
          refine r_iload_n (pc := 92) d_Mg_plait_92 (x := p0) rfl ?_
          obtain ⟨s20, h⟩ := h
          refine r_callV (pc := 93) (k := r19) (As := [.int p0]) (rest := [.ref a]) (mc' := 0) (ms' := 0) lk_Mg_249 in_Pl_gapAt se_Pl_gapAt s20 rfl d_Mg_plait_93 k_Pl_gapAt rfl rfl (Nat.le_of_ble_eq_true rfl) (by decide) (by decide) (Sp.mono h ?_)
          rintro rS21 shS21 S21 ⟨qS21, x22, uS21, h⟩
          subst uS21
          rw [qS21]
          refine r_callV (pc := 96) (k := a) (As := [.int x22]) (rest := []) (mc' := 0) (ms' := 0) lk_Mg_174 in_Mg_give se_Mg_give sa rfl d_Mg_plait_96 k_Mg_give rfl rfl (Nat.le_of_ble_eq_true rfl) (by decide) (by decide) (Sp.mono h ?_)
          rintro rS23 shS23 S23 ⟨qS23, x24, uS23, h⟩
          subst uS23
          rw [qS23]
          exact r_ireturn (pc := 99) d_Mg_plait_99 rfl rfl (Nat.le_refl _) ⟨rfl, _, rfl, h⟩
        · refine r_tabIn (pc := 44) d_Mg_plait_44 (off := 56) (by omega) (by omega) (by rw [q64]; rfl) (tgt := 100) (by decide) ?_
          replace h := h.2.2.1 (aw_ix (y := 1) q64 (by decide))
          refine r_aload_n (pc := 100) d_Mg_plait_100 (x := a) rfl ?_
          refine r_aload_n (pc := 101) d_Mg_plait_101 (x := a) rfl ?_
          obtain ⟨r25, er25, h⟩ := h
          refine r_getR (pc := 102) d_Mg_plait_102 f_Mg_30 sa (Or.inl ⟨_, rfl⟩) (r := r25) er25 ?_
          obtain ⟨s26, h⟩ := h
          obtain ⟨r27, er27, h⟩ := h
          refine r_getR (pc := 105) d_Mg_plait_105 f_Mg_195 s26 (Or.inl ⟨_, rfl⟩) (r := r27) er27 ?_
          refine r_iload_n (pc := 108) d_Mg_plait_108 (x := p0) rfl ?_
          obtain ⟨s28, h⟩ := h
          refine r_callV (pc := 109) (k := r27) (As := [.int p0]) (rest := [.ref a]) (mc' := 0) (ms' := 0) lk_Mg_252 in_Pl_overAt se_Pl_overAt s28 rfl d_Mg_plait_109 k_Pl_overAt rfl rfl (Nat.le_of_ble_eq_true rfl) (by decide) (by decide) (Sp.mono h ?_)
          rintro rS29 shS29 S29 ⟨qS29, x30, uS29, h⟩
          subst uS29
          rw [qS29]
          refine r_callV (pc := 112) (k := a) (As := [.int x30]) (rest := []) (mc' := 0) (ms' := 0) lk_Mg_174 in_Mg_give se_Mg_give sa rfl d_Mg_plait_112 k_Mg_give rfl rfl (Nat.le_of_ble_eq_true rfl) (by decide) (by decide) (Sp.mono h ?_)
          rintro rS31 shS31 S31 ⟨qS31, x32, uS31, h⟩
          subst uS31
          rw [qS31]
          exact r_ireturn (pc := 115) d_Mg_plait_115 rfl rfl (Nat.le_refl _) ⟨rfl, _, rfl, h⟩
        · refine r_tabIn (pc := 44) d_Mg_plait_44 (off := 72) (by omega) (by omega) (by rw [q64]; rfl) (tgt := 116) (by decide) ?_
          replace h := h.2.2.2.1 (aw_ix (y := 2) q64 (by decide))
          refine r_aload_n (pc := 116) d_Mg_plait_116 (x := a) rfl ?_
          refine r_aload_n (pc := 117) d_Mg_plait_117 (x := a) rfl ?_
          obtain ⟨r33, er33, h⟩ := h
          refine r_getR (pc := 118) d_Mg_plait_118 f_Mg_30 sa (Or.inl ⟨_, rfl⟩) (r := r33) er33 ?_
          obtain ⟨s34, h⟩ := h
          obtain ⟨r35, er35, h⟩ := h
          refine r_getR (pc := 121) d_Mg_plait_121 f_Mg_195 s34 (Or.inl ⟨_, rfl⟩) (r := r35) er35 ?_
          refine r_iload_n (pc := 124) d_Mg_plait_124 (x := p0) rfl ?_
          obtain ⟨s36, h⟩ := h
          refine r_callV (pc := 125) (k := r35) (As := [.int p0]) (rest := [.ref a]) (mc' := 0) (ms' := 0) lk_Mg_255 in_Pl_upperAt se_Pl_upperAt s36 rfl d_Mg_plait_125 k_Pl_upperAt rfl rfl (Nat.le_of_ble_eq_true rfl) (by decide) (by decide) (Sp.mono h ?_)
          rintro rS37 shS37 S37 ⟨qS37, x38, uS37, h⟩
          subst uS37
          rw [qS37]
          refine r_callV (pc := 128) (k := a) (As := [.int x38]) (rest := []) (mc' := 0) (ms' := 0) lk_Mg_174 in_Mg_give se_Mg_give sa rfl d_Mg_plait_128 k_Mg_give rfl rfl (Nat.le_of_ble_eq_true rfl) (by decide) (by decide) (Sp.mono h ?_)
          rintro rS39 shS39 S39 ⟨qS39, x40, uS39, h⟩
          subst uS39
          rw [qS39]
          exact r_ireturn (pc := 131) d_Mg_plait_131 rfl rfl (Nat.le_refl _) ⟨rfl, _, rfl, h⟩
        · refine r_tabIn (pc := 44) d_Mg_plait_44 (off := 88) (by omega) (by omega) (by rw [q64]; rfl) (tgt := 132) (by decide) ?_
          replace h := h.2.2.2.2.1 (aw_ix (y := 3) q64 (by decide))
          refine r_aload_n (pc := 132) d_Mg_plait_132 (x := a) rfl ?_
          refine r_aload_n (pc := 133) d_Mg_plait_133 (x := a) rfl ?_
          obtain ⟨r41, er41, h⟩ := h
          refine r_getR (pc := 134) d_Mg_plait_134 f_Mg_30 sa (Or.inl ⟨_, rfl⟩) (r := r41) er41 ?_
          obtain ⟨s42, h⟩ := h
          obtain ⟨r43, er43, h⟩ := h
          refine r_getR (pc := 137) d_Mg_plait_137 f_Mg_195 s42 (Or.inl ⟨_, rfl⟩) (r := r43) er43 ?_
          refine r_iload_n (pc := 140) d_Mg_plait_140 (x := p0) rfl ?_
          obtain ⟨s44, h⟩ := h
          refine r_callV (pc := 141) (k := r43) (As := [.int p0]) (rest := [.ref a]) (mc' := 0) (ms' := 0) lk_Mg_258 in_Pl_lowerAt se_Pl_lowerAt s44 rfl d_Mg_plait_141 k_Pl_lowerAt rfl rfl (Nat.le_of_ble_eq_true rfl) (by decide) (by decide) (Sp.mono h ?_)
          rintro rS45 shS45 S45 ⟨qS45, x46, uS45, h⟩
          subst uS45
          rw [qS45]
          refine r_callV (pc := 144) (k := a) (As := [.int x46]) (rest := []) (mc' := 0) (ms' := 0) lk_Mg_174 in_Mg_give se_Mg_give sa rfl d_Mg_plait_144 k_Mg_give rfl rfl (Nat.le_of_ble_eq_true rfl) (by decide) (by decide) (Sp.mono h ?_)
          rintro rS47 shS47 S47 ⟨qS47, x48, uS47, h⟩
          subst uS47
          rw [qS47]
          exact r_ireturn (pc := 147) d_Mg_plait_147 rfl rfl (Nat.le_refl _) ⟨rfl, _, rfl, h⟩
        · refine r_tabIn (pc := 44) d_Mg_plait_44 (off := 104) (by omega) (by omega) (by rw [q64]; rfl) (tgt := 148) (by decide) ?_
          replace h := h.2.2.2.2.2.1 (aw_ix (y := 4) q64 (by decide))
          refine r_aload_n (pc := 148) d_Mg_plait_148 (x := a) rfl ?_
          refine r_aload_n (pc := 149) d_Mg_plait_149 (x := a) rfl ?_
          obtain ⟨r49, er49, h⟩ := h
          refine r_getR (pc := 150) d_Mg_plait_150 f_Mg_30 sa (Or.inl ⟨_, rfl⟩) (r := r49) er49 ?_
          refine r_iload_n (pc := 153) d_Mg_plait_153 (x := p0) rfl ?_
          obtain ⟨s50, h⟩ := h
          refine r_callV (pc := 154) (k := r49) (As := [.int p0]) (rest := [.ref a]) (mc' := 0) (ms' := 0) lk_Mg_261 in_Gr_rowAt se_Gr_rowAt s50 rfl d_Mg_plait_154 k_Gr_rowAt rfl rfl (Nat.le_of_ble_eq_true rfl) (by decide) (by decide) (Sp.mono h ?_)
          rintro rS51 shS51 S51 ⟨qS51, x52, uS51, h⟩
          subst uS51
          rw [qS51]
          refine r_callV (pc := 157) (k := a) (As := [.int x52]) (rest := []) (mc' := 0) (ms' := 0) lk_Mg_174 in_Mg_give se_Mg_give sa rfl d_Mg_plait_157 k_Mg_give rfl rfl (Nat.le_of_ble_eq_true rfl) (by decide) (by decide) (Sp.mono h ?_)
          rintro rS53 shS53 S53 ⟨qS53, x54, uS53, h⟩
          subst uS53
          rw [qS53]
          exact r_ireturn (pc := 160) d_Mg_plait_160 rfl rfl (Nat.le_refl _) ⟨rfl, _, rfl, h⟩
        · refine r_tabIn (pc := 44) d_Mg_plait_44 (off := 117) (by omega) (by omega) (by rw [q64]; rfl) (tgt := 161) (by decide) ?_
          replace h := h.2.2.2.2.2.2 (aw_ix (y := 5) q64 (by decide))
          refine r_aload_n (pc := 161) d_Mg_plait_161 (x := a) rfl ?_
          refine r_aload_n (pc := 162) d_Mg_plait_162 (x := a) rfl ?_
          obtain ⟨r55, er55, h⟩ := h
          refine r_getR (pc := 163) d_Mg_plait_163 f_Mg_30 sa (Or.inl ⟨_, rfl⟩) (r := r55) er55 ?_
          refine r_iload_n (pc := 166) d_Mg_plait_166 (x := p0) rfl ?_
          obtain ⟨s56, h⟩ := h
          refine r_callV (pc := 167) (k := r55) (As := [.int p0]) (rest := [.ref a]) (mc' := 0) (ms' := 0) lk_Mg_264 in_Gr_isFree se_Gr_isFree s56 rfl d_Mg_plait_167 k_Gr_isFree rfl rfl (Nat.le_of_ble_eq_true rfl) (by decide) (by decide) (Sp.mono h ?_)
          rintro rS57 shS57 S57 ⟨qS57, x58, uS57, h⟩
          subst uS57
          rw [qS57]
          refine r_if_eq (pc := 170) d_Mg_plait_170 (tgt := 177) (by decide) (fun c59 => ?_) (fun c59 => ?_)
          · replace h := h.1 c59
            refine r_iconst (pc := 177) d_Mg_plait_177 (v := 0) (by decide) ?_
            refine r_callV (pc := 178) (k := a) (As := [.int 0]) (rest := []) (mc' := 0) (ms' := 0) lk_Mg_174 in_Mg_give se_Mg_give sa rfl d_Mg_plait_178 k_Mg_give rfl rfl (Nat.le_of_ble_eq_true rfl) (by decide) (by decide) (Sp.mono h ?_)
            rintro rS60 shS60 S60 ⟨qS60, x61, uS60, h⟩
            subst uS60
            rw [qS60]
            exact r_ireturn (pc := 181) d_Mg_plait_181 rfl rfl (Nat.le_refl _) ⟨rfl, _, rfl, h⟩
          · replace h := h.2 c59
            refine r_iconst (pc := 173) d_Mg_plait_173 (v := 1) (by decide) ?_
            refine r_goto (pc := 174) d_Mg_plait_174 (tgt := 178) (by decide) ?_
            refine r_callV (pc := 178) (k := a) (As := [.int 1]) (rest := []) (mc' := 0) (ms' := 0) lk_Mg_174 in_Mg_give se_Mg_give sa rfl d_Mg_plait_178 k_Mg_give rfl rfl (Nat.le_of_ble_eq_true rfl) (by decide) (by decide) (Sp.mono h ?_)
            rintro rS62 shS62 S62 ⟨qS62, x63, uS62, h⟩
            subst uS62
            rw [qS62]
            exact r_ireturn (pc := 181) d_Mg_plait_181 rfl rfl (Nat.le_refl _) ⟨rfl, _, rfl, h⟩
    · replace h := h.2 c10
      refine r_aload_n (pc := 36) d_Mg_plait_36 (x := a) rfl ?_
      refine r_bipush (pc := 37) d_Mg_plait_37 (v := 6) (by decide) ?_
      refine r_callV (pc := 39) (k := a) (As := [.int 6]) (rest := []) (mc' := 0) (ms' := 0) lk_Mg_133 in_Mg_fail se_Mg_fail sa rfl d_Mg_plait_39 k_Mg_fail rfl rfl (Nat.le_of_ble_eq_true rfl) (by decide) (by decide) (Sp.mono h ?_)
      rintro rS65 shS65 S65 ⟨qS65, x66, uS65, h⟩
      subst uS65
      rw [qS65]
      exact r_ireturn (pc := 42) d_Mg_plait_42 rfl rfl (Nat.le_refl _) ⟨rfl, _, rfl, h⟩
  · replace h := h.2 c3
    refine r_aload_n (pc := 10) d_Mg_plait_10 (x := a) rfl ?_
    refine r_iconst (pc := 11) d_Mg_plait_11 (v := 1) (by decide) ?_
    refine r_callV (pc := 12) (k := a) (As := [.int 1]) (rest := []) (mc' := 0) (ms' := 0) lk_Mg_133 in_Mg_fail se_Mg_fail sa rfl d_Mg_plait_12 k_Mg_fail rfl rfl (Nat.le_of_ble_eq_true rfl) (by decide) (by decide) (Sp.mono h ?_)
    rintro rS67 shS67 S67 ⟨qS67, x68, uS67, h⟩
    subst uS67
    rw [qS67]
    exact r_ireturn (pc := 15) d_Mg_plait_15 rfl rfl (Nat.le_refl _) ⟨rfl, _, rfl, h⟩
set_option maxRecDepth 4000 in
theorem e_Mg_shows {l : Launch} {d : Nat} {sh : aw_SH} {S : aw_S} {P : Int32 → aw_S → Prop} {a : Nat} {p0 : Int32} (sa : sh[a]? = some (0, 0)) (h : Sp l m_Mg_isGap d 0 0 [.ref a, .int p0] sh S (gI sh (fun x2 S1 => ((¬ x2 = 0 → ∃ r4, S1.2.2 a 6 = some r4 ∧ sh[r4]? = some (0, 2) ∧ ∃ r6, S1.2.2 r4 10 = some r6 ∧ sh[r6]? = some (0, 3) ∧ Sp l m_Gr_colourIn d 0 0 [.ref r4, .int p0, .int (S1.1 r6 1)] sh S1 (gI sh (fun x9 S8 => ((¬ x9 = 6 → Sp l m_Mg_give d 0 0 [.ref a, .int x9] sh S8 (gI sh (fun x12 S11 => P x12 S11))) ∧ (x9 = 6 → Sp l m_Mg_fail d 0 0 [.ref a, .int 6] sh S8 (gI sh (fun x14 S13 => P x14 S13))))))) ∧ (x2 = 0 → Sp l m_Mg_fail d 0 0 [.ref a, .int 1] sh S1 (gI sh (fun x16 S15 => P x16 S15))))))) : Sp l m_Mg_shows (d + 1) 0 0 [.ref a, .int p0] sh S (gI sh P) := by
  refine Sp.of k_Mg_shows (ls := [.ref a, .int p0, .null]) rfl (Nat.le_of_ble_eq_true rfl) ?_
  refine r_aload_n (pc := 0) d_Mg_shows_0 (x := a) rfl ?_
  refine r_iload_n (pc := 1) d_Mg_shows_1 (x := p0) rfl ?_
  refine r_callV (pc := 2) (k := a) (As := [.int p0]) (rest := []) (mc' := 0) (ms' := 0) lk_Mg_270 in_Mg_isGap se_Mg_isGap sa rfl d_Mg_shows_2 k_Mg_isGap rfl rfl (Nat.le_of_ble_eq_true rfl) (by decide) (by decide) (Sp.mono h ?_)
  rintro rS1 shS1 S1 ⟨qS1, x2, uS1, h⟩
  subst uS1
  rw [qS1]
  refine r_if_ne (pc := 5) d_Mg_shows_5 (tgt := 14) (by decide) (fun c3 => ?_) (fun c3 => ?_)
  · replace h := h.1 c3
    refine r_aload_n (pc := 14) d_Mg_shows_14 (x := a) rfl ?_
    obtain ⟨r4, er4, h⟩ := h
    refine r_getR (pc := 15) d_Mg_shows_15 f_Mg_30 sa (Or.inl ⟨_, rfl⟩) (r := r4) er4 ?_
    refine r_iload_n (pc := 18) d_Mg_shows_18 (x := p0) rfl ?_
    refine r_aload_n (pc := 19) d_Mg_shows_19 (x := a) rfl ?_
    refine r_getR (pc := 20) d_Mg_shows_20 f_Mg_30 sa (Or.inl ⟨_, rfl⟩) (r := r4) er4 ?_
    obtain ⟨s5, h⟩ := h
    obtain ⟨r6, er6, h⟩ := h
    refine r_getR (pc := 23) d_Mg_shows_23 f_Mg_195 s5 (Or.inl ⟨_, rfl⟩) (r := r6) er6 ?_
    obtain ⟨s7, h⟩ := h
    refine r_getI (pc := 26) d_Mg_shows_26 f_Mg_198 s7 rfl ?_
    refine r_callV (pc := 29) (k := r4) (As := [.int p0, .int (S1.1 r6 1)]) (rest := []) (mc' := 0) (ms' := 0) lk_Mg_273 in_Gr_colourIn se_Gr_colourIn s5 rfl d_Mg_shows_29 k_Gr_colourIn rfl rfl (Nat.le_of_ble_eq_true rfl) (by decide) (by decide) (Sp.mono h ?_)
    rintro rS8 shS8 S8 ⟨qS8, x9, uS8, h⟩
    subst uS8
    rw [qS8]
    refine r_istore_n (pc := 32) (hk := rfl) (hd := d_Mg_shows_32) (hi := by decide) (ls2 := [.ref a, .int p0, .int x9]) (h2 := rfl) ?_
    refine r_iload_n (pc := 33) d_Mg_shows_33 (x := x9) rfl ?_
    refine r_bipush (pc := 34) d_Mg_shows_34 (v := 6) (by decide) ?_
    refine r_icmp_ne (pc := 36) d_Mg_shows_36 (tgt := 48) (by decide) (fun c10 => ?_) (fun c10 => ?_)
    · replace h := h.1 c10
      refine r_aload_n (pc := 48) d_Mg_shows_48 (x := a) rfl ?_
      refine r_iload_n (pc := 49) d_Mg_shows_49 (x := x9) rfl ?_
      refine r_callV (pc := 50) (k := a) (As := [.int x9]) (rest := []) (mc' := 0) (ms' := 0) lk_Mg_174 in_Mg_give se_Mg_give sa rfl d_Mg_shows_50 k_Mg_give rfl rfl (Nat.le_of_ble_eq_true rfl) (by decide) (by decide) (Sp.mono h ?_)
      rintro rS11 shS11 S11 ⟨qS11, x12, uS11, h⟩
      subst uS11
      rw [qS11]
      exact r_ireturn (pc := 53) d_Mg_shows_53 rfl rfl (Nat.le_refl _) ⟨rfl, _, rfl, h⟩
    · replace h := h.2 c10
      refine r_aload_n (pc := 39) d_Mg_shows_39 (x := a) rfl ?_
      refine r_bipush (pc := 40) d_Mg_shows_40 (v := 6) (by decide) ?_
      refine r_callV (pc := 42) (k := a) (As := [.int 6]) (rest := []) (mc' := 0) (ms' := 0) lk_Mg_133 in_Mg_fail se_Mg_fail sa rfl d_Mg_shows_42 k_Mg_fail rfl rfl (Nat.le_of_ble_eq_true rfl) (by decide) (by decide) (Sp.mono h ?_)
      rintro rS13 shS13 S13 ⟨qS13, x14, uS13, h⟩
      subst uS13
      rw [qS13]
      refine r_goto (pc := 45) d_Mg_shows_45 (tgt := 53) (by decide) ?_
      exact r_ireturn (pc := 53) d_Mg_shows_53 rfl rfl (Nat.le_refl _) ⟨rfl, _, rfl, h⟩
  · replace h := h.2 c3
    refine r_aload_n (pc := 8) d_Mg_shows_8 (x := a) rfl ?_
    refine r_iconst (pc := 9) d_Mg_shows_9 (v := 1) (by decide) ?_
    refine r_callV (pc := 10) (k := a) (As := [.int 1]) (rest := []) (mc' := 0) (ms' := 0) lk_Mg_133 in_Mg_fail se_Mg_fail sa rfl d_Mg_shows_10 k_Mg_fail rfl rfl (Nat.le_of_ble_eq_true rfl) (by decide) (by decide) (Sp.mono h ?_)
    rintro rS15 shS15 S15 ⟨qS15, x16, uS15, h⟩
    subst uS15
    rw [qS15]
    exact r_ireturn (pc := 13) d_Mg_shows_13 rfl rfl (Nat.le_refl _) ⟨rfl, _, rfl, h⟩
set_option maxRecDepth 4000 in
theorem e_Mg_isGap {l : Launch} {d : Nat} {sh : aw_SH} {S : aw_S} {P : Int32 → aw_S → Prop} {a : Nat} {p0 : Int32} (sa : sh[a]? = some (0, 0)) (h : ∃ r1, S.2.2 a 6 = some r1 ∧ sh[r1]? = some (0, 2) ∧ Sp l m_Gr_gaps d 0 0 [.ref r1] sh S (gI sh (fun x4 S3 => Sp l m_Mg_isWithin d 0 0 [.int p0, .int 0, .int (x4 - (1 : Int32))] sh S3 (gI sh (fun x6 S5 => ((x6 = 0 ∨ x6 = 1) ∧ P x6 S5)))))) : Sp l m_Mg_isGap (d + 1) 0 0 [.ref a, .int p0] sh S (gI sh P) := by
  refine Sp.of k_Mg_isGap (ls := [.ref a, .int p0]) rfl (Nat.le_of_ble_eq_true rfl) ?_
  refine r_iload_n (pc := 0) d_Mg_isGap_0 (x := p0) rfl ?_
  refine r_iconst (pc := 1) d_Mg_isGap_1 (v := 0) (by decide) ?_
  refine r_aload_n (pc := 2) d_Mg_isGap_2 (x := a) rfl ?_
  obtain ⟨r1, er1, h⟩ := h
  refine r_getR (pc := 3) d_Mg_isGap_3 f_Mg_30 sa (Or.inl ⟨_, rfl⟩) (r := r1) er1 ?_
  obtain ⟨s2, h⟩ := h
  refine r_callV (pc := 6) (k := r1) (As := []) (rest := [.int 0, .int p0]) (mc' := 0) (ms' := 0) lk_Mg_191 in_Gr_gaps se_Gr_gaps s2 rfl d_Mg_isGap_6 k_Gr_gaps rfl rfl (Nat.le_of_ble_eq_true rfl) (by decide) (by decide) (Sp.mono h ?_)
  rintro rS3 shS3 S3 ⟨qS3, x4, uS3, h⟩
  subst uS3
  rw [qS3]
  refine r_iconst (pc := 9) d_Mg_isGap_9 (v := 1) (by decide) ?_
  refine r_isub (pc := 10) d_Mg_isGap_10 ?_
  refine r_callS (pc := 11) (k := 0) (As := [.int p0, .int 0, .int (x4 - (1 : Int32))]) (rest := []) (mc' := 0) (ms' := 0) lk_Mg_110 st_Mg_isWithin d_Mg_isGap_11 k_Mg_isWithin rfl rfl (Nat.le_of_ble_eq_true rfl) (by decide) (by decide) (Sp.mono h ?_)
  rintro rS5 shS5 S5 ⟨qS5, x6, uS5, h⟩
  subst uS5
  rw [qS5]
  obtain ⟨g7, h⟩ := h
  exact r_zreturn (pc := 14) d_Mg_isGap_14 rfl (aw_nb g7) rfl (Nat.le_refl _) ⟨rfl, _, rfl, h⟩
set_option maxRecDepth 4000 in
theorem e_Mg_passes {l : Launch} {d : Nat} {sh : aw_SH} {S : aw_S} {P : Int32 → aw_S → Prop} {a : Nat} {p0 : Int32} (sa : sh[a]? = some (0, 0)) (h : Sp l m_Mg_isGap d 0 0 [.ref a, .int p0] sh S (gI sh (fun x2 S1 => ((x2 = 0 → Sp l m_Mg_fail d 0 0 [.ref a, .int 1] sh S1 (gI sh (fun x5 S4 => P x5 S4))) ∧ (¬ x2 = 0 → ∃ r6, S1.2.2 a 6 = some r6 ∧ sh[r6]? = some (0, 2) ∧ ∃ r8, S1.2.2 r6 10 = some r8 ∧ sh[r8]? = some (0, 3) ∧ Sp l m_Pl_timesIn d 0 0 [.ref r8, .int p0] sh S1 (gI sh (fun x11 S10 => Sp l m_Mg_give d 0 0 [.ref a, .int x11] sh S10 (gI sh (fun x13 S12 => P x13 S12))))))))) : Sp l m_Mg_passes (d + 1) 0 0 [.ref a, .int p0] sh S (gI sh P) := by
  refine Sp.of k_Mg_passes (ls := [.ref a, .int p0]) rfl (Nat.le_of_ble_eq_true rfl) ?_
  refine r_aload_n (pc := 0) d_Mg_passes_0 (x := a) rfl ?_
  refine r_iload_n (pc := 1) d_Mg_passes_1 (x := p0) rfl ?_
  refine r_callV (pc := 2) (k := a) (As := [.int p0]) (rest := []) (mc' := 0) (ms' := 0) lk_Mg_270 in_Mg_isGap se_Mg_isGap sa rfl d_Mg_passes_2 k_Mg_isGap rfl rfl (Nat.le_of_ble_eq_true rfl) (by decide) (by decide) (Sp.mono h ?_)
  rintro rS1 shS1 S1 ⟨qS1, x2, uS1, h⟩
  subst uS1
  rw [qS1]
  refine r_if_eq (pc := 5) d_Mg_passes_5 (tgt := 26) (by decide) (fun c3 => ?_) (fun c3 => ?_)
  · replace h := h.1 c3
    refine r_aload_n (pc := 26) d_Mg_passes_26 (x := a) rfl ?_
    refine r_iconst (pc := 27) d_Mg_passes_27 (v := 1) (by decide) ?_
    refine r_callV (pc := 28) (k := a) (As := [.int 1]) (rest := []) (mc' := 0) (ms' := 0) lk_Mg_133 in_Mg_fail se_Mg_fail sa rfl d_Mg_passes_28 k_Mg_fail rfl rfl (Nat.le_of_ble_eq_true rfl) (by decide) (by decide) (Sp.mono h ?_)
    rintro rS4 shS4 S4 ⟨qS4, x5, uS4, h⟩
    subst uS4
    rw [qS4]
    exact r_ireturn (pc := 31) d_Mg_passes_31 rfl rfl (Nat.le_refl _) ⟨rfl, _, rfl, h⟩
  · replace h := h.2 c3
    refine r_aload_n (pc := 8) d_Mg_passes_8 (x := a) rfl ?_
    refine r_aload_n (pc := 9) d_Mg_passes_9 (x := a) rfl ?_
    obtain ⟨r6, er6, h⟩ := h
    refine r_getR (pc := 10) d_Mg_passes_10 f_Mg_30 sa (Or.inl ⟨_, rfl⟩) (r := r6) er6 ?_
    obtain ⟨s7, h⟩ := h
    obtain ⟨r8, er8, h⟩ := h
    refine r_getR (pc := 13) d_Mg_passes_13 f_Mg_195 s7 (Or.inl ⟨_, rfl⟩) (r := r8) er8 ?_
    refine r_iload_n (pc := 16) d_Mg_passes_16 (x := p0) rfl ?_
    obtain ⟨s9, h⟩ := h
    refine r_callV (pc := 17) (k := r8) (As := [.int p0]) (rest := [.ref a]) (mc' := 0) (ms' := 0) lk_Mg_276 in_Pl_timesIn se_Pl_timesIn s9 rfl d_Mg_passes_17 k_Pl_timesIn rfl rfl (Nat.le_of_ble_eq_true rfl) (by decide) (by decide) (Sp.mono h ?_)
    rintro rS10 shS10 S10 ⟨qS10, x11, uS10, h⟩
    subst uS10
    rw [qS10]
    refine r_callV (pc := 20) (k := a) (As := [.int x11]) (rest := []) (mc' := 0) (ms' := 0) lk_Mg_174 in_Mg_give se_Mg_give sa rfl d_Mg_passes_20 k_Mg_give rfl rfl (Nat.le_of_ble_eq_true rfl) (by decide) (by decide) (Sp.mono h ?_)
    rintro rS12 shS12 S12 ⟨qS12, x13, uS12, h⟩
    subst uS12
    rw [qS12]
    refine r_goto (pc := 23) d_Mg_passes_23 (tgt := 31) (by decide) ?_
    exact r_ireturn (pc := 31) d_Mg_passes_31 rfl rfl (Nat.le_refl _) ⟨rfl, _, rfl, h⟩
set_option maxRecDepth 4000 in
theorem e_Mg_pass {l : Launch} {d : Nat} {sh : aw_SH} {S : aw_S} {P : Int32 → aw_S → Prop} {a : Nat} {p0 : Int32} {p1 : Int32} (sa : sh[a]? = some (0, 0)) (h : Sp l m_Mg_isGap d 0 0 [.ref a, .int p0] sh S (gI sh (fun x2 S1 => ((¬ x2 = 0 → ∃ r4, S1.2.2 a 6 = some r4 ∧ ((p1 = 0 → sh[r4]? = some (0, 2) ∧ Sp l m_Gr_makePass d 0 0 [.ref r4, .int ((2 : Int32) * p0)] sh S1 (gI sh (fun x8 S7 => ((¬ x8 = (-1) → ∃ r10, S7.2.2 a 6 = some r10 ∧ sh[r10]? = some (0, 2) ∧ ∃ r12, S7.2.2 r10 10 = some r12 ∧ sh[r12]? = some (0, 3) ∧ Sp l m_Mg_give d 0 0 [.ref a, .int (S7.1 r12 1)] sh S7 (gI sh (fun x15 S14 => P x15 S14))) ∧ (x8 = (-1) → Sp l m_Mg_fail d 0 0 [.ref a, .int 7] sh S7 (gI sh (fun x17 S16 => P x17 S16))))))) ∧ (¬ p1 = 0 → sh[r4]? = some (0, 2) ∧ Sp l m_Gr_makePass d 0 0 [.ref r4, .int (((2 : Int32) * p0) + (1 : Int32))] sh S1 (gI sh (fun x20 S19 => ((¬ x20 = (-1) → ∃ r22, S19.2.2 a 6 = some r22 ∧ sh[r22]? = some (0, 2) ∧ ∃ r24, S19.2.2 r22 10 = some r24 ∧ sh[r24]? = some (0, 3) ∧ Sp l m_Mg_give d 0 0 [.ref a, .int (S19.1 r24 1)] sh S19 (gI sh (fun x27 S26 => P x27 S26))) ∧ (x20 = (-1) → Sp l m_Mg_fail d 0 0 [.ref a, .int 7] sh S19 (gI sh (fun x29 S28 => P x29 S28))))))))) ∧ (x2 = 0 → Sp l m_Mg_fail d 0 0 [.ref a, .int 1] sh S1 (gI sh (fun x31 S30 => P x31 S30))))))) : Sp l m_Mg_pass (d + 1) 0 0 [.ref a, .int p0, .int p1] sh S (gI sh P) := by
  refine Sp.of k_Mg_pass (ls := [.ref a, .int p0, .int p1, .null]) rfl (Nat.le_of_ble_eq_true rfl) ?_
  refine r_aload_n (pc := 0) d_Mg_pass_0 (x := a) rfl ?_
  refine r_iload_n (pc := 1) d_Mg_pass_1 (x := p0) rfl ?_
  refine r_callV (pc := 2) (k := a) (As := [.int p0]) (rest := []) (mc' := 0) (ms' := 0) lk_Mg_270 in_Mg_isGap se_Mg_isGap sa rfl d_Mg_pass_2 k_Mg_isGap rfl rfl (Nat.le_of_ble_eq_true rfl) (by decide) (by decide) (Sp.mono h ?_)
  rintro rS1 shS1 S1 ⟨qS1, x2, uS1, h⟩
  subst uS1
  rw [qS1]
  refine r_if_ne (pc := 5) d_Mg_pass_5 (tgt := 14) (by decide) (fun c3 => ?_) (fun c3 => ?_)
  · replace h := h.1 c3
    refine r_aload_n (pc := 14) d_Mg_pass_14 (x := a) rfl ?_
    obtain ⟨r4, er4, h⟩ := h
    refine r_getR (pc := 15) d_Mg_pass_15 f_Mg_30 sa (Or.inl ⟨_, rfl⟩) (r := r4) er4 ?_
    refine r_iload_n (pc := 18) d_Mg_pass_18 (x := p1) rfl ?_
    refine r_if_eq (pc := 19) d_Mg_pass_19 (tgt := 30) (by decide) (fun c5 => ?_) (fun c5 => ?_)
    · replace h := h.1 c5
      refine r_iconst (pc := 30) d_Mg_pass_30 (v := 2) (by decide) ?_
      refine r_iload_n (pc := 31) d_Mg_pass_31 (x := p0) rfl ?_
      refine r_imul (pc := 32) d_Mg_pass_32 ?_
      obtain ⟨s6, h⟩ := h
      refine r_callV (pc := 33) (k := r4) (As := [.int ((2 : Int32) * p0)]) (rest := []) (mc' := 0) (ms' := 0) lk_Mg_279 in_Gr_makePass se_Gr_makePass s6 rfl d_Mg_pass_33 k_Gr_makePass rfl rfl (Nat.le_of_ble_eq_true rfl) (by decide) (by decide) (Sp.mono h ?_)
      rintro rS7 shS7 S7 ⟨qS7, x8, uS7, h⟩
      subst uS7
      rw [qS7]
      refine r_istore_n (pc := 36) (hk := rfl) (hd := d_Mg_pass_36) (hi := by decide) (ls2 := [.ref a, .int p0, .int p1, .int x8]) (h2 := rfl) ?_
      refine r_iload_n (pc := 37) d_Mg_pass_37 (x := x8) rfl ?_
      refine r_iconst (pc := 38) d_Mg_pass_38 (v := (-1)) (by decide) ?_
      refine r_icmp_ne (pc := 39) d_Mg_pass_39 (tgt := 51) (by decide) (fun c9 => ?_) (fun c9 => ?_)
      · replace h := h.1 c9
        refine r_aload_n (pc := 51) d_Mg_pass_51 (x := a) rfl ?_
        refine r_aload_n (pc := 52) d_Mg_pass_52 (x := a) rfl ?_
        obtain ⟨r10, er10, h⟩ := h
        refine r_getR (pc := 53) d_Mg_pass_53 f_Mg_30 sa (Or.inl ⟨_, rfl⟩) (r := r10) er10 ?_
        obtain ⟨s11, h⟩ := h
        obtain ⟨r12, er12, h⟩ := h
        refine r_getR (pc := 56) d_Mg_pass_56 f_Mg_195 s11 (Or.inl ⟨_, rfl⟩) (r := r12) er12 ?_
        obtain ⟨s13, h⟩ := h
        refine r_getI (pc := 59) d_Mg_pass_59 f_Mg_198 s13 rfl ?_
        refine r_callV (pc := 62) (k := a) (As := [.int (S7.1 r12 1)]) (rest := []) (mc' := 0) (ms' := 0) lk_Mg_174 in_Mg_give se_Mg_give sa rfl d_Mg_pass_62 k_Mg_give rfl rfl (Nat.le_of_ble_eq_true rfl) (by decide) (by decide) (Sp.mono h ?_)
        rintro rS14 shS14 S14 ⟨qS14, x15, uS14, h⟩
        subst uS14
        rw [qS14]
        exact r_ireturn (pc := 65) d_Mg_pass_65 rfl rfl (Nat.le_refl _) ⟨rfl, _, rfl, h⟩
      · replace h := h.2 c9
        refine r_aload_n (pc := 42) d_Mg_pass_42 (x := a) rfl ?_
        refine r_bipush (pc := 43) d_Mg_pass_43 (v := 7) (by decide) ?_
        refine r_callV (pc := 45) (k := a) (As := [.int 7]) (rest := []) (mc' := 0) (ms' := 0) lk_Mg_133 in_Mg_fail se_Mg_fail sa rfl d_Mg_pass_45 k_Mg_fail rfl rfl (Nat.le_of_ble_eq_true rfl) (by decide) (by decide) (Sp.mono h ?_)
        rintro rS16 shS16 S16 ⟨qS16, x17, uS16, h⟩
        subst uS16
        rw [qS16]
        refine r_goto (pc := 48) d_Mg_pass_48 (tgt := 65) (by decide) ?_
        exact r_ireturn (pc := 65) d_Mg_pass_65 rfl rfl (Nat.le_refl _) ⟨rfl, _, rfl, h⟩
    · replace h := h.2 c5
      refine r_iconst (pc := 22) d_Mg_pass_22 (v := 2) (by decide) ?_
      refine r_iload_n (pc := 23) d_Mg_pass_23 (x := p0) rfl ?_
      refine r_imul (pc := 24) d_Mg_pass_24 ?_
      refine r_iconst (pc := 25) d_Mg_pass_25 (v := 1) (by decide) ?_
      refine r_iadd (pc := 26) d_Mg_pass_26 ?_
      refine r_goto (pc := 27) d_Mg_pass_27 (tgt := 33) (by decide) ?_
      obtain ⟨s18, h⟩ := h
      refine r_callV (pc := 33) (k := r4) (As := [.int (((2 : Int32) * p0) + (1 : Int32))]) (rest := []) (mc' := 0) (ms' := 0) lk_Mg_279 in_Gr_makePass se_Gr_makePass s18 rfl d_Mg_pass_33 k_Gr_makePass rfl rfl (Nat.le_of_ble_eq_true rfl) (by decide) (by decide) (Sp.mono h ?_)
      rintro rS19 shS19 S19 ⟨qS19, x20, uS19, h⟩
      subst uS19
      rw [qS19]
      refine r_istore_n (pc := 36) (hk := rfl) (hd := d_Mg_pass_36) (hi := by decide) (ls2 := [.ref a, .int p0, .int p1, .int x20]) (h2 := rfl) ?_
      refine r_iload_n (pc := 37) d_Mg_pass_37 (x := x20) rfl ?_
      refine r_iconst (pc := 38) d_Mg_pass_38 (v := (-1)) (by decide) ?_
      refine r_icmp_ne (pc := 39) d_Mg_pass_39 (tgt := 51) (by decide) (fun c21 => ?_) (fun c21 => ?_)
      · replace h := h.1 c21
        refine r_aload_n (pc := 51) d_Mg_pass_51 (x := a) rfl ?_
        refine r_aload_n (pc := 52) d_Mg_pass_52 (x := a) rfl ?_
        obtain ⟨r22, er22, h⟩ := h
        refine r_getR (pc := 53) d_Mg_pass_53 f_Mg_30 sa (Or.inl ⟨_, rfl⟩) (r := r22) er22 ?_
        obtain ⟨s23, h⟩ := h
        obtain ⟨r24, er24, h⟩ := h
        refine r_getR (pc := 56) d_Mg_pass_56 f_Mg_195 s23 (Or.inl ⟨_, rfl⟩) (r := r24) er24 ?_
        obtain ⟨s25, h⟩ := h
        refine r_getI (pc := 59) d_Mg_pass_59 f_Mg_198 s25 rfl ?_
        refine r_callV (pc := 62) (k := a) (As := [.int (S19.1 r24 1)]) (rest := []) (mc' := 0) (ms' := 0) lk_Mg_174 in_Mg_give se_Mg_give sa rfl d_Mg_pass_62 k_Mg_give rfl rfl (Nat.le_of_ble_eq_true rfl) (by decide) (by decide) (Sp.mono h ?_)
        rintro rS26 shS26 S26 ⟨qS26, x27, uS26, h⟩
        subst uS26
        rw [qS26]
        exact r_ireturn (pc := 65) d_Mg_pass_65 rfl rfl (Nat.le_refl _) ⟨rfl, _, rfl, h⟩
      · replace h := h.2 c21
        refine r_aload_n (pc := 42) d_Mg_pass_42 (x := a) rfl ?_
        refine r_bipush (pc := 43) d_Mg_pass_43 (v := 7) (by decide) ?_
        refine r_callV (pc := 45) (k := a) (As := [.int 7]) (rest := []) (mc' := 0) (ms' := 0) lk_Mg_133 in_Mg_fail se_Mg_fail sa rfl d_Mg_pass_45 k_Mg_fail rfl rfl (Nat.le_of_ble_eq_true rfl) (by decide) (by decide) (Sp.mono h ?_)
        rintro rS28 shS28 S28 ⟨qS28, x29, uS28, h⟩
        subst uS28
        rw [qS28]
        refine r_goto (pc := 48) d_Mg_pass_48 (tgt := 65) (by decide) ?_
        exact r_ireturn (pc := 65) d_Mg_pass_65 rfl rfl (Nat.le_refl _) ⟨rfl, _, rfl, h⟩
  · replace h := h.2 c3
    refine r_aload_n (pc := 8) d_Mg_pass_8 (x := a) rfl ?_
    refine r_iconst (pc := 9) d_Mg_pass_9 (v := 1) (by decide) ?_
    refine r_callV (pc := 10) (k := a) (As := [.int 1]) (rest := []) (mc' := 0) (ms' := 0) lk_Mg_133 in_Mg_fail se_Mg_fail sa rfl d_Mg_pass_10 k_Mg_fail rfl rfl (Nat.le_of_ble_eq_true rfl) (by decide) (by decide) (Sp.mono h ?_)
    rintro rS30 shS30 S30 ⟨qS30, x31, uS30, h⟩
    subst uS30
    rw [qS30]
    exact r_ireturn (pc := 13) d_Mg_pass_13 rfl rfl (Nat.le_refl _) ⟨rfl, _, rfl, h⟩
set_option maxRecDepth 4000 in
theorem e_Mg_back {l : Launch} {d : Nat} {sh : aw_SH} {S : aw_S} {P : Int32 → aw_S → Prop} {a : Nat} (sa : sh[a]? = some (0, 0)) (h : ∃ r1, S.2.2 a 6 = some r1 ∧ sh[r1]? = some (0, 2) ∧ Sp l m_Gr_doBack d 0 0 [.ref r1] sh S (gI sh (fun x4 S3 => ((x4 = 0 → Sp l m_Mg_fail d 0 0 [.ref a, .int 7] sh S3 (gI sh (fun x7 S6 => P x7 S6))) ∧ (¬ x4 = 0 → ∃ r8, S3.2.2 a 6 = some r8 ∧ sh[r8]? = some (0, 2) ∧ ∃ r10, S3.2.2 r8 10 = some r10 ∧ sh[r10]? = some (0, 3) ∧ Sp l m_Mg_give d 0 0 [.ref a, .int (S3.1 r10 1)] sh S3 (gI sh (fun x13 S12 => P x13 S12))))))) : Sp l m_Mg_back (d + 1) 0 0 [.ref a] sh S (gI sh P) := by
  refine Sp.of k_Mg_back (ls := [.ref a]) rfl (Nat.le_of_ble_eq_true rfl) ?_
  refine r_aload_n (pc := 0) d_Mg_back_0 (x := a) rfl ?_
  obtain ⟨r1, er1, h⟩ := h
  refine r_getR (pc := 1) d_Mg_back_1 f_Mg_30 sa (Or.inl ⟨_, rfl⟩) (r := r1) er1 ?_
  obtain ⟨s2, h⟩ := h
  refine r_callV (pc := 4) (k := r1) (As := []) (rest := []) (mc' := 0) (ms' := 0) lk_Mg_282 in_Gr_doBack se_Gr_doBack s2 rfl d_Mg_back_4 k_Gr_doBack rfl rfl (Nat.le_of_ble_eq_true rfl) (by decide) (by decide) (Sp.mono h ?_)
  rintro rS3 shS3 S3 ⟨qS3, x4, uS3, h⟩
  subst uS3
  rw [qS3]
  refine r_if_eq (pc := 7) d_Mg_back_7 (tgt := 27) (by decide) (fun c5 => ?_) (fun c5 => ?_)
  · replace h := h.1 c5
    refine r_aload_n (pc := 27) d_Mg_back_27 (x := a) rfl ?_
    refine r_bipush (pc := 28) d_Mg_back_28 (v := 7) (by decide) ?_
    refine r_callV (pc := 30) (k := a) (As := [.int 7]) (rest := []) (mc' := 0) (ms' := 0) lk_Mg_133 in_Mg_fail se_Mg_fail sa rfl d_Mg_back_30 k_Mg_fail rfl rfl (Nat.le_of_ble_eq_true rfl) (by decide) (by decide) (Sp.mono h ?_)
    rintro rS6 shS6 S6 ⟨qS6, x7, uS6, h⟩
    subst uS6
    rw [qS6]
    exact r_ireturn (pc := 33) d_Mg_back_33 rfl rfl (Nat.le_refl _) ⟨rfl, _, rfl, h⟩
  · replace h := h.2 c5
    refine r_aload_n (pc := 10) d_Mg_back_10 (x := a) rfl ?_
    refine r_aload_n (pc := 11) d_Mg_back_11 (x := a) rfl ?_
    obtain ⟨r8, er8, h⟩ := h
    refine r_getR (pc := 12) d_Mg_back_12 f_Mg_30 sa (Or.inl ⟨_, rfl⟩) (r := r8) er8 ?_
    obtain ⟨s9, h⟩ := h
    obtain ⟨r10, er10, h⟩ := h
    refine r_getR (pc := 15) d_Mg_back_15 f_Mg_195 s9 (Or.inl ⟨_, rfl⟩) (r := r10) er10 ?_
    obtain ⟨s11, h⟩ := h
    refine r_getI (pc := 18) d_Mg_back_18 f_Mg_198 s11 rfl ?_
    refine r_callV (pc := 21) (k := a) (As := [.int (S3.1 r10 1)]) (rest := []) (mc' := 0) (ms' := 0) lk_Mg_174 in_Mg_give se_Mg_give sa rfl d_Mg_back_21 k_Mg_give rfl rfl (Nat.le_of_ble_eq_true rfl) (by decide) (by decide) (Sp.mono h ?_)
    rintro rS12 shS12 S12 ⟨qS12, x13, uS12, h⟩
    subst uS12
    rw [qS12]
    refine r_goto (pc := 24) d_Mg_back_24 (tgt := 33) (by decide) ?_
    exact r_ireturn (pc := 33) d_Mg_back_33 rfl rfl (Nat.le_refl _) ⟨rfl, _, rfl, h⟩
set_option maxRecDepth 4000 in
theorem e_Mg_weave {l : Launch} {d : Nat} {sh : aw_SH} {S : aw_S} {P : Int32 → aw_S → Prop} {a : Nat} (sa : sh[a]? = some (0, 0)) (h : ∃ r1, S.2.2 a 6 = some r1 ∧ sh[r1]? = some (0, 2) ∧ Sp l m_Gr_weaveTimes d 0 0 [.ref r1, .int 1] sh S (gI sh (fun x4 S3 => ((¬ x4 = 0 → Sp l m_Mg_give d 0 0 [.ref a, .int x4] sh S3 (gI sh (fun x7 S6 => P x7 S6))) ∧ (x4 = 0 → Sp l m_Mg_fail d 0 0 [.ref a, .int 7] sh S3 (gI sh (fun x9 S8 => P x9 S8))))))) : Sp l m_Mg_weave (d + 1) 0 0 [.ref a] sh S (gI sh P) := by
  refine Sp.of k_Mg_weave (ls := [.ref a, .null]) rfl (Nat.le_of_ble_eq_true rfl) ?_
  refine r_aload_n (pc := 0) d_Mg_weave_0 (x := a) rfl ?_
  obtain ⟨r1, er1, h⟩ := h
  refine r_getR (pc := 1) d_Mg_weave_1 f_Mg_30 sa (Or.inl ⟨_, rfl⟩) (r := r1) er1 ?_
  refine r_iconst (pc := 4) d_Mg_weave_4 (v := 1) (by decide) ?_
  obtain ⟨s2, h⟩ := h
  refine r_callV (pc := 5) (k := r1) (As := [.int 1]) (rest := []) (mc' := 0) (ms' := 0) lk_Mg_285 in_Gr_weaveTimes se_Gr_weaveTimes s2 rfl d_Mg_weave_5 k_Gr_weaveTimes rfl rfl (Nat.le_of_ble_eq_true rfl) (by decide) (by decide) (Sp.mono h ?_)
  rintro rS3 shS3 S3 ⟨qS3, x4, uS3, h⟩
  subst uS3
  rw [qS3]
  refine r_istore_n (pc := 8) (hk := rfl) (hd := d_Mg_weave_8) (hi := by decide) (ls2 := [.ref a, .int x4]) (h2 := rfl) ?_
  refine r_iload_n (pc := 9) d_Mg_weave_9 (x := x4) rfl ?_
  refine r_if_ne (pc := 10) d_Mg_weave_10 (tgt := 22) (by decide) (fun c5 => ?_) (fun c5 => ?_)
  · replace h := h.1 c5
    refine r_aload_n (pc := 22) d_Mg_weave_22 (x := a) rfl ?_
    refine r_iload_n (pc := 23) d_Mg_weave_23 (x := x4) rfl ?_
    refine r_callV (pc := 24) (k := a) (As := [.int x4]) (rest := []) (mc' := 0) (ms' := 0) lk_Mg_174 in_Mg_give se_Mg_give sa rfl d_Mg_weave_24 k_Mg_give rfl rfl (Nat.le_of_ble_eq_true rfl) (by decide) (by decide) (Sp.mono h ?_)
    rintro rS6 shS6 S6 ⟨qS6, x7, uS6, h⟩
    subst uS6
    rw [qS6]
    exact r_ireturn (pc := 27) d_Mg_weave_27 rfl rfl (Nat.le_refl _) ⟨rfl, _, rfl, h⟩
  · replace h := h.2 c5
    refine r_aload_n (pc := 13) d_Mg_weave_13 (x := a) rfl ?_
    refine r_bipush (pc := 14) d_Mg_weave_14 (v := 7) (by decide) ?_
    refine r_callV (pc := 16) (k := a) (As := [.int 7]) (rest := []) (mc' := 0) (ms' := 0) lk_Mg_133 in_Mg_fail se_Mg_fail sa rfl d_Mg_weave_16 k_Mg_fail rfl rfl (Nat.le_of_ble_eq_true rfl) (by decide) (by decide) (Sp.mono h ?_)
    rintro rS8 shS8 S8 ⟨qS8, x9, uS8, h⟩
    subst uS8
    rw [qS8]
    refine r_goto (pc := 19) d_Mg_weave_19 (tgt := 27) (by decide) ?_
    exact r_ireturn (pc := 27) d_Mg_weave_27 rfl rfl (Nat.le_refl _) ⟨rfl, _, rfl, h⟩
set_option maxRecDepth 4000 in
theorem e_Mg_paint {l : Launch} {d : Nat} {sh : aw_SH} {S : aw_S} {P : Int32 → aw_S → Prop} {a : Nat} {p0 : Int32} {p1 : Int32} (sa : sh[a]? = some (0, 0)) (h : Sp l m_Mg_isDancer d 0 0 [.ref a, .int p0] sh S (gI sh (fun x2 S1 => ((x2 = 0 → Sp l m_Mg_fail d 0 0 [.ref a, .int 1] sh S1 (gI sh (fun x5 S4 => P x5 S4))) ∧ (¬ x2 = 0 → Sp l m_Mg_isWithin d 0 0 [.int p1, .int 0, .int 5] sh S1 (gI sh (fun x7 S6 => ((¬ x7 = 0 → ∃ r9, S6.2.2 a 6 = some r9 ∧ sh[r9]? = some (0, 2) ∧ ∃ r11, S6.2.2 r9 6 = some r11 ∧ ∃ n13, sh[r11]? = some (3, n13) ∧ vp_in p0 n13 ∧ vp_in p0 n13 ∧ Sp l m_Mg_give d 0 0 [.ref a, .int (S6.1 r11 p0.toNatClampNeg)] sh (aw_uI S6 r11 p0.toNatClampNeg p1) (gI sh (fun x17 S16 => P x17 S16))) ∧ (x7 = 0 → Sp l m_Mg_fail d 0 0 [.ref a, .int 1] sh S6 (gI sh (fun x19 S18 => P x19 S18))))))))))) : Sp l m_Mg_paint (d + 1) 0 0 [.ref a, .int p0, .int p1] sh S (gI sh P) := by
  refine Sp.of k_Mg_paint (ls := [.ref a, .int p0, .int p1, .null]) rfl (Nat.le_of_ble_eq_true rfl) ?_
  refine r_aload_n (pc := 0) d_Mg_paint_0 (x := a) rfl ?_
  refine r_iload_n (pc := 1) d_Mg_paint_1 (x := p0) rfl ?_
  refine r_callV (pc := 2) (k := a) (As := [.int p0]) (rest := []) (mc' := 0) (ms' := 0) lk_Mg_225 in_Mg_isDancer se_Mg_isDancer sa rfl d_Mg_paint_2 k_Mg_isDancer rfl rfl (Nat.le_of_ble_eq_true rfl) (by decide) (by decide) (Sp.mono h ?_)
  rintro rS1 shS1 S1 ⟨qS1, x2, uS1, h⟩
  subst uS1
  rw [qS1]
  refine r_if_eq (pc := 5) d_Mg_paint_5 (tgt := 17) (by decide) (fun c3 => ?_) (fun c3 => ?_)
  · replace h := h.1 c3
    refine r_aload_n (pc := 17) d_Mg_paint_17 (x := a) rfl ?_
    refine r_iconst (pc := 18) d_Mg_paint_18 (v := 1) (by decide) ?_
    refine r_callV (pc := 19) (k := a) (As := [.int 1]) (rest := []) (mc' := 0) (ms' := 0) lk_Mg_133 in_Mg_fail se_Mg_fail sa rfl d_Mg_paint_19 k_Mg_fail rfl rfl (Nat.le_of_ble_eq_true rfl) (by decide) (by decide) (Sp.mono h ?_)
    rintro rS4 shS4 S4 ⟨qS4, x5, uS4, h⟩
    subst uS4
    rw [qS4]
    exact r_ireturn (pc := 22) d_Mg_paint_22 rfl rfl (Nat.le_refl _) ⟨rfl, _, rfl, h⟩
  · replace h := h.2 c3
    refine r_iload_n (pc := 8) d_Mg_paint_8 (x := p1) rfl ?_
    refine r_iconst (pc := 9) d_Mg_paint_9 (v := 0) (by decide) ?_
    refine r_iconst (pc := 10) d_Mg_paint_10 (v := 5) (by decide) ?_
    refine r_callS (pc := 11) (k := 0) (As := [.int p1, .int 0, .int 5]) (rest := []) (mc' := 0) (ms' := 0) lk_Mg_110 st_Mg_isWithin d_Mg_paint_11 k_Mg_isWithin rfl rfl (Nat.le_of_ble_eq_true rfl) (by decide) (by decide) (Sp.mono h ?_)
    rintro rS6 shS6 S6 ⟨qS6, x7, uS6, h⟩
    subst uS6
    rw [qS6]
    refine r_if_ne (pc := 14) d_Mg_paint_14 (tgt := 23) (by decide) (fun c8 => ?_) (fun c8 => ?_)
    · replace h := h.1 c8
      refine r_aload_n (pc := 23) d_Mg_paint_23 (x := a) rfl ?_
      obtain ⟨r9, er9, h⟩ := h
      refine r_getR (pc := 24) d_Mg_paint_24 f_Mg_30 sa (Or.inl ⟨_, rfl⟩) (r := r9) er9 ?_
      obtain ⟨s10, h⟩ := h
      obtain ⟨r11, er11, h⟩ := h
      refine r_getR (pc := 27) d_Mg_paint_27 f_Mg_231 s10 (Or.inr ⟨_, rfl⟩) (r := r11) er11 ?_
      refine r_iload_n (pc := 30) d_Mg_paint_30 (x := p0) rfl ?_
      obtain ⟨n13, s12, h⟩ := h
      obtain ⟨g14, h⟩ := h
      refine r_iald (pc := 31) d_Mg_paint_31 s12 g14 ?_
      refine r_istore_n (pc := 32) (hk := rfl) (hd := d_Mg_paint_32) (hi := by decide) (ls2 := [.ref a, .int p0, .int p1, .int (S6.1 r11 p0.toNatClampNeg)]) (h2 := rfl) ?_
      refine r_aload_n (pc := 33) d_Mg_paint_33 (x := a) rfl ?_
      refine r_getR (pc := 34) d_Mg_paint_34 f_Mg_30 sa (Or.inl ⟨_, rfl⟩) (r := r9) er9 ?_
      refine r_getR (pc := 37) d_Mg_paint_37 f_Mg_231 s10 (Or.inr ⟨_, rfl⟩) (r := r11) er11 ?_
      refine r_iload_n (pc := 40) d_Mg_paint_40 (x := p0) rfl ?_
      refine r_iload_n (pc := 41) d_Mg_paint_41 (x := p1) rfl ?_
      obtain ⟨g15, h⟩ := h
      refine r_iast (pc := 42) d_Mg_paint_42 s12 g15 ?_
      refine r_aload_n (pc := 43) d_Mg_paint_43 (x := a) rfl ?_
      refine r_iload_n (pc := 44) d_Mg_paint_44 (x := (S6.1 r11 p0.toNatClampNeg)) rfl ?_
      refine r_callV (pc := 45) (k := a) (As := [.int (S6.1 r11 p0.toNatClampNeg)]) (rest := []) (mc' := 0) (ms' := 0) lk_Mg_174 in_Mg_give se_Mg_give sa rfl d_Mg_paint_45 k_Mg_give rfl rfl (Nat.le_of_ble_eq_true rfl) (by decide) (by decide) (Sp.mono h ?_)
      rintro rS16 shS16 S16 ⟨qS16, x17, uS16, h⟩
      subst uS16
      rw [qS16]
      exact r_ireturn (pc := 48) d_Mg_paint_48 rfl rfl (Nat.le_refl _) ⟨rfl, _, rfl, h⟩
    · replace h := h.2 c8
      refine r_aload_n (pc := 17) d_Mg_paint_17 (x := a) rfl ?_
      refine r_iconst (pc := 18) d_Mg_paint_18 (v := 1) (by decide) ?_
      refine r_callV (pc := 19) (k := a) (As := [.int 1]) (rest := []) (mc' := 0) (ms' := 0) lk_Mg_133 in_Mg_fail se_Mg_fail sa rfl d_Mg_paint_19 k_Mg_fail rfl rfl (Nat.le_of_ble_eq_true rfl) (by decide) (by decide) (Sp.mono h ?_)
      rintro rS18 shS18 S18 ⟨qS18, x19, uS18, h⟩
      subst uS18
      rw [qS18]
      exact r_ireturn (pc := 22) d_Mg_paint_22 rfl rfl (Nat.le_refl _) ⟨rfl, _, rfl, h⟩
set_option maxRecDepth 4000 in
theorem e_Mg_trade {l : Launch} {d : Nat} {sh : aw_SH} {S : aw_S} {P : Int32 → aw_S → Prop} {a : Nat} {p0 : Int32} {p1 : Int32} (sa : sh[a]? = some (0, 0)) (h : Sp l m_Mg_areTwo d 0 0 [.ref a, .int p0, .int p1] sh S (gI sh (fun x2 S1 => ((¬ x2 = 0 → ∃ r4, S1.2.2 a 6 = some r4 ∧ sh[r4]? = some (0, 2) ∧ ∃ r6, S1.2.2 r4 6 = some r6 ∧ ∃ n8, sh[r6]? = some (3, n8) ∧ vp_in p0 n8 ∧ vp_in p1 n8 ∧ ((¬ (S1.1 r6 p0.toNatClampNeg) = (S1.1 r6 p1.toNatClampNeg) → vp_in p1 n8 ∧ vp_in p0 n8 ∧ vp_in p1 n8 ∧ Sp l m_Mg_grant d 0 0 [.ref a] sh (aw_uI (aw_uI S1 r6 p0.toNatClampNeg (S1.1 r6 p1.toNatClampNeg)) r6 p1.toNatClampNeg (S1.1 r6 p0.toNatClampNeg)) (gI sh (fun x16 S15 => ((x16 = 0 ∨ x16 = 1) ∧ P x16 S15)))) ∧ ((S1.1 r6 p0.toNatClampNeg) = (S1.1 r6 p1.toNatClampNeg) → Sp l m_Mg_refuse d 0 0 [.ref a, .int 7] sh S1 (gI sh (fun x19 S18 => ((x19 = 0 ∨ x19 = 1) ∧ P x19 S18)))))) ∧ (x2 = 0 → Sp l m_Mg_refuse d 0 0 [.ref a, .int 1] sh S1 (gI sh (fun x22 S21 => ((x22 = 0 ∨ x22 = 1) ∧ P x22 S21)))))))) : Sp l m_Mg_trade (d + 1) 0 0 [.ref a, .int p0, .int p1] sh S (gI sh P) := by
  refine Sp.of k_Mg_trade (ls := [.ref a, .int p0, .int p1, .null]) rfl (Nat.le_of_ble_eq_true rfl) ?_
  refine r_aload_n (pc := 0) d_Mg_trade_0 (x := a) rfl ?_
  refine r_iload_n (pc := 1) d_Mg_trade_1 (x := p0) rfl ?_
  refine r_iload_n (pc := 2) d_Mg_trade_2 (x := p1) rfl ?_
  refine r_callV (pc := 3) (k := a) (As := [.int p0, .int p1]) (rest := []) (mc' := 0) (ms' := 0) lk_Mg_288 in_Mg_areTwo se_Mg_areTwo sa rfl d_Mg_trade_3 k_Mg_areTwo rfl rfl (Nat.le_of_ble_eq_true rfl) (by decide) (by decide) (Sp.mono h ?_)
  rintro rS1 shS1 S1 ⟨qS1, x2, uS1, h⟩
  subst uS1
  rw [qS1]
  refine r_if_ne (pc := 6) d_Mg_trade_6 (tgt := 15) (by decide) (fun c3 => ?_) (fun c3 => ?_)
  · replace h := h.1 c3
    refine r_aload_n (pc := 15) d_Mg_trade_15 (x := a) rfl ?_
    obtain ⟨r4, er4, h⟩ := h
    refine r_getR (pc := 16) d_Mg_trade_16 f_Mg_30 sa (Or.inl ⟨_, rfl⟩) (r := r4) er4 ?_
    obtain ⟨s5, h⟩ := h
    obtain ⟨r6, er6, h⟩ := h
    refine r_getR (pc := 19) d_Mg_trade_19 f_Mg_231 s5 (Or.inr ⟨_, rfl⟩) (r := r6) er6 ?_
    refine r_iload_n (pc := 22) d_Mg_trade_22 (x := p0) rfl ?_
    obtain ⟨n8, s7, h⟩ := h
    obtain ⟨g9, h⟩ := h
    refine r_iald (pc := 23) d_Mg_trade_23 s7 g9 ?_
    refine r_istore_n (pc := 24) (hk := rfl) (hd := d_Mg_trade_24) (hi := by decide) (ls2 := [.ref a, .int p0, .int p1, .int (S1.1 r6 p0.toNatClampNeg)]) (h2 := rfl) ?_
    refine r_iload_n (pc := 25) d_Mg_trade_25 (x := (S1.1 r6 p0.toNatClampNeg)) rfl ?_
    refine r_aload_n (pc := 26) d_Mg_trade_26 (x := a) rfl ?_
    refine r_getR (pc := 27) d_Mg_trade_27 f_Mg_30 sa (Or.inl ⟨_, rfl⟩) (r := r4) er4 ?_
    refine r_getR (pc := 30) d_Mg_trade_30 f_Mg_231 s5 (Or.inr ⟨_, rfl⟩) (r := r6) er6 ?_
    refine r_iload_n (pc := 33) d_Mg_trade_33 (x := p1) rfl ?_
    obtain ⟨g10, h⟩ := h
    refine r_iald (pc := 34) d_Mg_trade_34 s7 g10 ?_
    refine r_icmp_ne (pc := 35) d_Mg_trade_35 (tgt := 45) (by decide) (fun c11 => ?_) (fun c11 => ?_)
    · replace h := h.1 c11
      refine r_aload_n (pc := 45) d_Mg_trade_45 (x := a) rfl ?_
      refine r_getR (pc := 46) d_Mg_trade_46 f_Mg_30 sa (Or.inl ⟨_, rfl⟩) (r := r4) er4 ?_
      refine r_getR (pc := 49) d_Mg_trade_49 f_Mg_231 s5 (Or.inr ⟨_, rfl⟩) (r := r6) er6 ?_
      refine r_iload_n (pc := 52) d_Mg_trade_52 (x := p0) rfl ?_
      refine r_aload_n (pc := 53) d_Mg_trade_53 (x := a) rfl ?_
      refine r_getR (pc := 54) d_Mg_trade_54 f_Mg_30 sa (Or.inl ⟨_, rfl⟩) (r := r4) er4 ?_
      refine r_getR (pc := 57) d_Mg_trade_57 f_Mg_231 s5 (Or.inr ⟨_, rfl⟩) (r := r6) er6 ?_
      refine r_iload_n (pc := 60) d_Mg_trade_60 (x := p1) rfl ?_
      obtain ⟨g12, h⟩ := h
      refine r_iald (pc := 61) d_Mg_trade_61 s7 g12 ?_
      obtain ⟨g13, h⟩ := h
      refine r_iast (pc := 62) d_Mg_trade_62 s7 g13 ?_
      refine r_aload_n (pc := 63) d_Mg_trade_63 (x := a) rfl ?_
      refine r_getR (pc := 64) d_Mg_trade_64 f_Mg_30 sa (Or.inl ⟨_, rfl⟩) (r := r4) er4 ?_
      refine r_getR (pc := 67) d_Mg_trade_67 f_Mg_231 s5 (Or.inr ⟨_, rfl⟩) (r := r6) er6 ?_
      refine r_iload_n (pc := 70) d_Mg_trade_70 (x := p1) rfl ?_
      refine r_iload_n (pc := 71) d_Mg_trade_71 (x := (S1.1 r6 p0.toNatClampNeg)) rfl ?_
      obtain ⟨g14, h⟩ := h
      refine r_iast (pc := 72) d_Mg_trade_72 s7 g14 ?_
      refine r_aload_n (pc := 73) d_Mg_trade_73 (x := a) rfl ?_
      refine r_callV (pc := 74) (k := a) (As := []) (rest := []) (mc' := 0) (ms' := 0) lk_Mg_121 in_Mg_grant se_Mg_grant sa rfl d_Mg_trade_74 k_Mg_grant rfl rfl (Nat.le_of_ble_eq_true rfl) (by decide) (by decide) (Sp.mono h ?_)
      rintro rS15 shS15 S15 ⟨qS15, x16, uS15, h⟩
      subst uS15
      rw [qS15]
      obtain ⟨g17, h⟩ := h
      exact r_zreturn (pc := 77) d_Mg_trade_77 rfl (aw_nb g17) rfl (Nat.le_refl _) ⟨rfl, _, rfl, h⟩
    · replace h := h.2 c11
      refine r_aload_n (pc := 38) d_Mg_trade_38 (x := a) rfl ?_
      refine r_bipush (pc := 39) d_Mg_trade_39 (v := 7) (by decide) ?_
      refine r_callV (pc := 41) (k := a) (As := [.int 7]) (rest := []) (mc' := 0) (ms' := 0) lk_Mg_114 in_Mg_refuse se_Mg_refuse sa rfl d_Mg_trade_41 k_Mg_refuse rfl rfl (Nat.le_of_ble_eq_true rfl) (by decide) (by decide) (Sp.mono h ?_)
      rintro rS18 shS18 S18 ⟨qS18, x19, uS18, h⟩
      subst uS18
      rw [qS18]
      obtain ⟨g20, h⟩ := h
      exact r_zreturn (pc := 44) d_Mg_trade_44 rfl (aw_nb g20) rfl (Nat.le_refl _) ⟨rfl, _, rfl, h⟩
  · replace h := h.2 c3
    refine r_aload_n (pc := 9) d_Mg_trade_9 (x := a) rfl ?_
    refine r_iconst (pc := 10) d_Mg_trade_10 (v := 1) (by decide) ?_
    refine r_callV (pc := 11) (k := a) (As := [.int 1]) (rest := []) (mc' := 0) (ms' := 0) lk_Mg_114 in_Mg_refuse se_Mg_refuse sa rfl d_Mg_trade_11 k_Mg_refuse rfl rfl (Nat.le_of_ble_eq_true rfl) (by decide) (by decide) (Sp.mono h ?_)
    rintro rS21 shS21 S21 ⟨qS21, x22, uS21, h⟩
    subst uS21
    rw [qS21]
    obtain ⟨g23, h⟩ := h
    exact r_zreturn (pc := 14) d_Mg_trade_14 rfl (aw_nb g23) rfl (Nat.le_refl _) ⟨rfl, _, rfl, h⟩
set_option maxRecDepth 4000 in
theorem e_Mg_areTwo {l : Launch} {d : Nat} {sh : aw_SH} {S : aw_S} {P : Int32 → aw_S → Prop} {a : Nat} {p0 : Int32} {p1 : Int32} (sa : sh[a]? = some (0, 0)) (h : Sp l m_Mg_isDancer d 0 0 [.ref a, .int p0] sh S (gI sh (fun x2 S1 => ((x2 = 0 → P 0 S1) ∧ (¬ x2 = 0 → Sp l m_Mg_isDancer d 0 0 [.ref a, .int p1] sh S1 (gI sh (fun x5 S4 => ((x5 = 0 → P 0 S4) ∧ (¬ x5 = 0 → ((p0 = p1 → P 0 S4) ∧ (¬ p0 = p1 → P 1 S4))))))))))) : Sp l m_Mg_areTwo (d + 1) 0 0 [.ref a, .int p0, .int p1] sh S (gI sh P) := by
  refine Sp.of k_Mg_areTwo (ls := [.ref a, .int p0, .int p1]) rfl (Nat.le_of_ble_eq_true rfl) ?_
  refine r_aload_n (pc := 0) d_Mg_areTwo_0 (x := a) rfl ?_
  refine r_iload_n (pc := 1) d_Mg_areTwo_1 (x := p0) rfl ?_
  refine r_callV (pc := 2) (k := a) (As := [.int p0]) (rest := []) (mc' := 0) (ms' := 0) lk_Mg_225 in_Mg_isDancer se_Mg_isDancer sa rfl d_Mg_areTwo_2 k_Mg_isDancer rfl rfl (Nat.le_of_ble_eq_true rfl) (by decide) (by decide) (Sp.mono h ?_)
  rintro rS1 shS1 S1 ⟨qS1, x2, uS1, h⟩
  subst uS1
  rw [qS1]
  refine r_if_eq (pc := 5) d_Mg_areTwo_5 (tgt := 25) (by decide) (fun c3 => ?_) (fun c3 => ?_)
  · replace h := h.1 c3
    refine r_iconst (pc := 25) d_Mg_areTwo_25 (v := 0) (by decide) ?_
    exact r_zreturn (pc := 26) d_Mg_areTwo_26 (v := 0) rfl (by decide) rfl (Nat.le_refl _) ⟨rfl, _, rfl, h⟩
  · replace h := h.2 c3
    refine r_aload_n (pc := 8) d_Mg_areTwo_8 (x := a) rfl ?_
    refine r_iload_n (pc := 9) d_Mg_areTwo_9 (x := p1) rfl ?_
    refine r_callV (pc := 10) (k := a) (As := [.int p1]) (rest := []) (mc' := 0) (ms' := 0) lk_Mg_225 in_Mg_isDancer se_Mg_isDancer sa rfl d_Mg_areTwo_10 k_Mg_isDancer rfl rfl (Nat.le_of_ble_eq_true rfl) (by decide) (by decide) (Sp.mono h ?_)
    rintro rS4 shS4 S4 ⟨qS4, x5, uS4, h⟩
    subst uS4
    rw [qS4]
    refine r_if_eq (pc := 13) d_Mg_areTwo_13 (tgt := 25) (by decide) (fun c6 => ?_) (fun c6 => ?_)
    · replace h := h.1 c6
      refine r_iconst (pc := 25) d_Mg_areTwo_25 (v := 0) (by decide) ?_
      exact r_zreturn (pc := 26) d_Mg_areTwo_26 (v := 0) rfl (by decide) rfl (Nat.le_refl _) ⟨rfl, _, rfl, h⟩
    · replace h := h.2 c6
      refine r_iload_n (pc := 16) d_Mg_areTwo_16 (x := p0) rfl ?_
      refine r_iload_n (pc := 17) d_Mg_areTwo_17 (x := p1) rfl ?_
      refine r_icmp_eq (pc := 18) d_Mg_areTwo_18 (tgt := 25) (by decide) (fun c7 => ?_) (fun c7 => ?_)
      · replace h := h.1 c7
        refine r_iconst (pc := 25) d_Mg_areTwo_25 (v := 0) (by decide) ?_
        exact r_zreturn (pc := 26) d_Mg_areTwo_26 (v := 0) rfl (by decide) rfl (Nat.le_refl _) ⟨rfl, _, rfl, h⟩
      · replace h := h.2 c7
        refine r_iconst (pc := 21) d_Mg_areTwo_21 (v := 1) (by decide) ?_
        refine r_goto (pc := 22) d_Mg_areTwo_22 (tgt := 26) (by decide) ?_
        exact r_zreturn (pc := 26) d_Mg_areTwo_26 (v := 1) rfl (by decide) rfl (Nat.le_refl _) ⟨rfl, _, rfl, h⟩
set_option maxRecDepth 4000 in
theorem e_Mg_come {l : Launch} {d : Nat} {sh : aw_SH} {S : aw_S} {P : Int32 → aw_S → Prop} {a : Nat} {p0 : Int32} (sa : sh[a]? = some (0, 0)) (h : Sp l m_Mg_isWithin d 0 0 [.int p0, .int 0, .int 5] sh S (gI sh (fun x2 S1 => ((¬ x2 = 0 → ∃ r4, S1.2.2 a 6 = some r4 ∧ sh[r4]? = some (0, 2) ∧ (((S1.1 r4 0) < 7 → ∃ r7, S1.2.2 r4 10 = some r7 ∧ sh[r7]? = some (0, 3) ∧ ((0 < (S1.1 r7 1) → Sp l m_Mg_fail d 0 0 [.ref a, .int 7] sh S1 (gI sh (fun x11 S10 => P x11 S10))) ∧ (¬ 0 < (S1.1 r7 1) → Sp l m_Gr_atHome d 0 0 [.ref r4] sh S1 (gI sh (fun x13 S12 => ∃ r14, S12.2.2 a 6 = some r14 ∧ sh[r14]? = some (0, 2) ∧ ((x13 = (((1 : Int32) <<< ((S12.1 r14 0) &&& 31)) - (1 : Int32)) → Sp l m_Gr_join d 0 0 [.ref r14, .long 0, .int p0] sh S12 (gV sh (fun S17 => ∃ r18, S17.2.2 a 6 = some r18 ∧ sh[r18]? = some (0, 2) ∧ Sp l m_Mg_give d 0 0 [.ref a, .int ((S17.1 r18 0) - (1 : Int32))] sh S17 (gI sh (fun x21 S20 => P x21 S20))))) ∧ (¬ x13 = (((1 : Int32) <<< ((S12.1 r14 0) &&& 31)) - (1 : Int32)) → Sp l m_Mg_fail d 0 0 [.ref a, .int 7] sh S12 (gI sh (fun x23 S22 => P x23 S22))))))))) ∧ (¬ (S1.1 r4 0) < 7 → Sp l m_Mg_fail d 0 0 [.ref a, .int 4] sh S1 (gI sh (fun x25 S24 => P x25 S24))))) ∧ (x2 = 0 → Sp l m_Mg_fail d 0 0 [.ref a, .int 1] sh S1 (gI sh (fun x27 S26 => P x27 S26))))))) : Sp l m_Mg_come (d + 1) 0 0 [.ref a, .int p0] sh S (gI sh P) := by
  refine Sp.of k_Mg_come (ls := [.ref a, .int p0]) rfl (Nat.le_of_ble_eq_true rfl) ?_
  refine r_iload_n (pc := 0) d_Mg_come_0 (x := p0) rfl ?_
  refine r_iconst (pc := 1) d_Mg_come_1 (v := 0) (by decide) ?_
  refine r_iconst (pc := 2) d_Mg_come_2 (v := 5) (by decide) ?_
  refine r_callS (pc := 3) (k := 0) (As := [.int p0, .int 0, .int 5]) (rest := []) (mc' := 0) (ms' := 0) lk_Mg_110 st_Mg_isWithin d_Mg_come_3 k_Mg_isWithin rfl rfl (Nat.le_of_ble_eq_true rfl) (by decide) (by decide) (Sp.mono h ?_)
  rintro rS1 shS1 S1 ⟨qS1, x2, uS1, h⟩
  subst uS1
  rw [qS1]
  refine r_if_ne (pc := 6) d_Mg_come_6 (tgt := 15) (by decide) (fun c3 => ?_) (fun c3 => ?_)
  · replace h := h.1 c3
    refine r_aload_n (pc := 15) d_Mg_come_15 (x := a) rfl ?_
    obtain ⟨r4, er4, h⟩ := h
    refine r_getR (pc := 16) d_Mg_come_16 f_Mg_30 sa (Or.inl ⟨_, rfl⟩) (r := r4) er4 ?_
    obtain ⟨s5, h⟩ := h
    refine r_getI (pc := 19) d_Mg_come_19 f_Mg_171 s5 rfl ?_
    refine r_bipush (pc := 22) d_Mg_come_22 (v := 7) (by decide) ?_
    refine r_icmp_lt (pc := 24) d_Mg_come_24 (tgt := 33) (by decide) (fun c6 => ?_) (fun c6 => ?_)
    · replace h := h.1 c6
      refine r_aload_n (pc := 33) d_Mg_come_33 (x := a) rfl ?_
      refine r_getR (pc := 34) d_Mg_come_34 f_Mg_30 sa (Or.inl ⟨_, rfl⟩) (r := r4) er4 ?_
      obtain ⟨r7, er7, h⟩ := h
      refine r_getR (pc := 37) d_Mg_come_37 f_Mg_195 s5 (Or.inl ⟨_, rfl⟩) (r := r7) er7 ?_
      obtain ⟨s8, h⟩ := h
      refine r_getI (pc := 40) d_Mg_come_40 f_Mg_198 s8 rfl ?_
      refine r_if_gt (pc := 43) d_Mg_come_43 (tgt := 67) (by decide) (fun c9 => ?_) (fun c9 => ?_)
      · replace h := h.1 c9
        refine r_aload_n (pc := 67) d_Mg_come_67 (x := a) rfl ?_
        refine r_bipush (pc := 68) d_Mg_come_68 (v := 7) (by decide) ?_
        refine r_callV (pc := 70) (k := a) (As := [.int 7]) (rest := []) (mc' := 0) (ms' := 0) lk_Mg_133 in_Mg_fail se_Mg_fail sa rfl d_Mg_come_70 k_Mg_fail rfl rfl (Nat.le_of_ble_eq_true rfl) (by decide) (by decide) (Sp.mono h ?_)
        rintro rS10 shS10 S10 ⟨qS10, x11, uS10, h⟩
        subst uS10
        rw [qS10]
        exact r_ireturn (pc := 73) d_Mg_come_73 rfl rfl (Nat.le_refl _) ⟨rfl, _, rfl, h⟩
      · replace h := h.2 c9
        refine r_aload_n (pc := 46) d_Mg_come_46 (x := a) rfl ?_
        refine r_getR (pc := 47) d_Mg_come_47 f_Mg_30 sa (Or.inl ⟨_, rfl⟩) (r := r4) er4 ?_
        refine r_callV (pc := 50) (k := r4) (As := []) (rest := []) (mc' := 0) (ms' := 0) lk_Mg_216 in_Gr_atHome se_Gr_atHome s5 rfl d_Mg_come_50 k_Gr_atHome rfl rfl (Nat.le_of_ble_eq_true rfl) (by decide) (by decide) (Sp.mono h ?_)
        rintro rS12 shS12 S12 ⟨qS12, x13, uS12, h⟩
        subst uS12
        rw [qS12]
        refine r_iconst (pc := 53) d_Mg_come_53 (v := 1) (by decide) ?_
        refine r_aload_n (pc := 54) d_Mg_come_54 (x := a) rfl ?_
        obtain ⟨r14, er14, h⟩ := h
        refine r_getR (pc := 55) d_Mg_come_55 f_Mg_30 sa (Or.inl ⟨_, rfl⟩) (r := r14) er14 ?_
        obtain ⟨s15, h⟩ := h
        refine r_getI (pc := 58) d_Mg_come_58 f_Mg_171 s15 rfl ?_
        refine r_ishl (pc := 61) d_Mg_come_61 ?_
        refine r_iconst (pc := 62) d_Mg_come_62 (v := 1) (by decide) ?_
        refine r_isub (pc := 63) d_Mg_come_63 ?_
        refine r_icmp_eq (pc := 64) d_Mg_come_64 (tgt := 74) (by decide) (fun c16 => ?_) (fun c16 => ?_)
        · replace h := h.1 c16
          refine r_aload_n (pc := 74) d_Mg_come_74 (x := a) rfl ?_
          refine r_getR (pc := 75) d_Mg_come_75 f_Mg_30 sa (Or.inl ⟨_, rfl⟩) (r := r14) er14 ?_
          refine r_lconst (pc := 78) d_Mg_come_78 (v := 0) (by decide) ?_
          refine r_iload_n (pc := 79) d_Mg_come_79 (x := p0) rfl ?_
          refine r_callV (pc := 80) (k := r14) (As := [.long 0, .int p0]) (rest := []) (mc' := 0) (ms' := 0) lk_Mg_291 in_Gr_join se_Gr_join s15 rfl d_Mg_come_80 k_Gr_join rfl rfl (Nat.le_of_ble_eq_true rfl) (by decide) (by decide) (Sp.mono h ?_)
          rintro rS17 shS17 S17 ⟨qS17, uS17, h⟩
          subst uS17
          rw [qS17]
          refine r_aload_n (pc := 83) d_Mg_come_83 (x := a) rfl ?_
          refine r_aload_n (pc := 84) d_Mg_come_84 (x := a) rfl ?_
          obtain ⟨r18, er18, h⟩ := h
          refine r_getR (pc := 85) d_Mg_come_85 f_Mg_30 sa (Or.inl ⟨_, rfl⟩) (r := r18) er18 ?_
          obtain ⟨s19, h⟩ := h
          refine r_getI (pc := 88) d_Mg_come_88 f_Mg_171 s19 rfl ?_
          refine r_iconst (pc := 91) d_Mg_come_91 (v := 1) (by decide) ?_
          refine r_isub (pc := 92) d_Mg_come_92 ?_
          refine r_callV (pc := 93) (k := a) (As := [.int ((S17.1 r18 0) - (1 : Int32))]) (rest := []) (mc' := 0) (ms' := 0) lk_Mg_174 in_Mg_give se_Mg_give sa rfl d_Mg_come_93 k_Mg_give rfl rfl (Nat.le_of_ble_eq_true rfl) (by decide) (by decide) (Sp.mono h ?_)
          rintro rS20 shS20 S20 ⟨qS20, x21, uS20, h⟩
          subst uS20
          rw [qS20]
          exact r_ireturn (pc := 96) d_Mg_come_96 rfl rfl (Nat.le_refl _) ⟨rfl, _, rfl, h⟩
        · replace h := h.2 c16
          refine r_aload_n (pc := 67) d_Mg_come_67 (x := a) rfl ?_
          refine r_bipush (pc := 68) d_Mg_come_68 (v := 7) (by decide) ?_
          refine r_callV (pc := 70) (k := a) (As := [.int 7]) (rest := []) (mc' := 0) (ms' := 0) lk_Mg_133 in_Mg_fail se_Mg_fail sa rfl d_Mg_come_70 k_Mg_fail rfl rfl (Nat.le_of_ble_eq_true rfl) (by decide) (by decide) (Sp.mono h ?_)
          rintro rS22 shS22 S22 ⟨qS22, x23, uS22, h⟩
          subst uS22
          rw [qS22]
          exact r_ireturn (pc := 73) d_Mg_come_73 rfl rfl (Nat.le_refl _) ⟨rfl, _, rfl, h⟩
    · replace h := h.2 c6
      refine r_aload_n (pc := 27) d_Mg_come_27 (x := a) rfl ?_
      refine r_iconst (pc := 28) d_Mg_come_28 (v := 4) (by decide) ?_
      refine r_callV (pc := 29) (k := a) (As := [.int 4]) (rest := []) (mc' := 0) (ms' := 0) lk_Mg_133 in_Mg_fail se_Mg_fail sa rfl d_Mg_come_29 k_Mg_fail rfl rfl (Nat.le_of_ble_eq_true rfl) (by decide) (by decide) (Sp.mono h ?_)
      rintro rS24 shS24 S24 ⟨qS24, x25, uS24, h⟩
      subst uS24
      rw [qS24]
      exact r_ireturn (pc := 32) d_Mg_come_32 rfl rfl (Nat.le_refl _) ⟨rfl, _, rfl, h⟩
  · replace h := h.2 c3
    refine r_aload_n (pc := 9) d_Mg_come_9 (x := a) rfl ?_
    refine r_iconst (pc := 10) d_Mg_come_10 (v := 1) (by decide) ?_
    refine r_callV (pc := 11) (k := a) (As := [.int 1]) (rest := []) (mc' := 0) (ms' := 0) lk_Mg_133 in_Mg_fail se_Mg_fail sa rfl d_Mg_come_11 k_Mg_fail rfl rfl (Nat.le_of_ble_eq_true rfl) (by decide) (by decide) (Sp.mono h ?_)
    rintro rS26 shS26 S26 ⟨qS26, x27, uS26, h⟩
    subst uS26
    rw [qS26]
    exact r_ireturn (pc := 14) d_Mg_come_14 rfl rfl (Nat.le_refl _) ⟨rfl, _, rfl, h⟩
set_option maxRecDepth 4000 in
theorem e_Mg_rule {l : Launch} {d : Nat} {sh : aw_SH} {S : aw_S} {P : Int32 → aw_S → Prop} {a : Nat} {p0 : Int32} {p1 : Int32} (sa : sh[a]? = some (0, 0)) (h : ((¬ p0 = 3 → ((¬ p0 = 4 → Sp l m_Mg_refuse d 0 0 [.ref a, .int 1] sh S (gI sh (fun x4 S3 => ((x4 = 0 ∨ x4 = 1) ∧ P x4 S3)))) ∧ (p0 = 4 → Sp l m_Mg_isWithin d 0 0 [.int p1, .int 1, .int 40] sh S (gI sh (fun x7 S6 => ((x7 = 0 → Sp l m_Mg_refuse d 0 0 [.ref a, .int 1] sh S6 (gI sh (fun x10 S9 => ((x10 = 0 ∨ x10 = 1) ∧ P x10 S9)))) ∧ (¬ x7 = 0 → ∃ r12, S6.2.2 a 6 = some r12 ∧ sh[r12]? = some (0, 2) ∧ Sp l m_Mg_grant d 0 0 [.ref a] sh (aw_uI S6 r12 2 p1) (gI sh (fun x15 S14 => ((x15 = 0 ∨ x15 = 1) ∧ P x15 S14)))))))))) ∧ (p0 = 3 → Sp l m_Mg_isWithin d 0 0 [.int p1, .int 0, .int 16] sh S (gI sh (fun x18 S17 => ((x18 = 0 → ((¬ p0 = 4 → Sp l m_Mg_refuse d 0 0 [.ref a, .int 1] sh S17 (gI sh (fun x22 S21 => ((x22 = 0 ∨ x22 = 1) ∧ P x22 S21)))) ∧ (p0 = 4 → Sp l m_Mg_isWithin d 0 0 [.int p1, .int 1, .int 40] sh S17 (gI sh (fun x25 S24 => ((x25 = 0 → Sp l m_Mg_refuse d 0 0 [.ref a, .int 1] sh S24 (gI sh (fun x28 S27 => ((x28 = 0 ∨ x28 = 1) ∧ P x28 S27)))) ∧ (¬ x25 = 0 → ∃ r30, S24.2.2 a 6 = some r30 ∧ sh[r30]? = some (0, 2) ∧ Sp l m_Mg_grant d 0 0 [.ref a] sh (aw_uI S24 r30 2 p1) (gI sh (fun x33 S32 => ((x33 = 0 ∨ x33 = 1) ∧ P x33 S32)))))))))) ∧ (¬ x18 = 0 → ∃ r35, S17.2.2 a 6 = some r35 ∧ sh[r35]? = some (0, 2) ∧ Sp l m_Mg_grant d 0 0 [.ref a] sh (aw_uI S17 r35 1 p1) (gI sh (fun x38 S37 => ((x38 = 0 ∨ x38 = 1) ∧ P x38 S37)))))))))) : Sp l m_Mg_rule (d + 1) 0 0 [.ref a, .int p0, .int p1] sh S (gI sh P) := by
  refine Sp.of k_Mg_rule (ls := [.ref a, .int p0, .int p1]) rfl (Nat.le_of_ble_eq_true rfl) ?_
  refine r_iload_n (pc := 0) d_Mg_rule_0 (x := p0) rfl ?_
  refine r_iconst (pc := 1) d_Mg_rule_1 (v := 3) (by decide) ?_
  refine r_icmp_ne (pc := 2) d_Mg_rule_2 (tgt := 28) (by decide) (fun c1 => ?_) (fun c1 => ?_)
  · replace h := h.1 c1
    refine r_iload_n (pc := 28) d_Mg_rule_28 (x := p0) rfl ?_
    refine r_iconst (pc := 29) d_Mg_rule_29 (v := 4) (by decide) ?_
    refine r_icmp_ne (pc := 30) d_Mg_rule_30 (tgt := 56) (by decide) (fun c2 => ?_) (fun c2 => ?_)
    · replace h := h.1 c2
      refine r_aload_n (pc := 56) d_Mg_rule_56 (x := a) rfl ?_
      refine r_iconst (pc := 57) d_Mg_rule_57 (v := 1) (by decide) ?_
      refine r_callV (pc := 58) (k := a) (As := [.int 1]) (rest := []) (mc' := 0) (ms' := 0) lk_Mg_114 in_Mg_refuse se_Mg_refuse sa rfl d_Mg_rule_58 k_Mg_refuse rfl rfl (Nat.le_of_ble_eq_true rfl) (by decide) (by decide) (Sp.mono h ?_)
      rintro rS3 shS3 S3 ⟨qS3, x4, uS3, h⟩
      subst uS3
      rw [qS3]
      obtain ⟨g5, h⟩ := h
      exact r_zreturn (pc := 61) d_Mg_rule_61 rfl (aw_nb g5) rfl (Nat.le_refl _) ⟨rfl, _, rfl, h⟩
    · replace h := h.2 c2
      refine r_iload_n (pc := 33) d_Mg_rule_33 (x := p1) rfl ?_
      refine r_iconst (pc := 34) d_Mg_rule_34 (v := 1) (by decide) ?_
      refine r_bipush (pc := 35) d_Mg_rule_35 (v := 40) (by decide) ?_
      refine r_callS (pc := 37) (k := 0) (As := [.int p1, .int 1, .int 40]) (rest := []) (mc' := 0) (ms' := 0) lk_Mg_110 st_Mg_isWithin d_Mg_rule_37 k_Mg_isWithin rfl rfl (Nat.le_of_ble_eq_true rfl) (by decide) (by decide) (Sp.mono h ?_)
      rintro rS6 shS6 S6 ⟨qS6, x7, uS6, h⟩
      subst uS6
      rw [qS6]
      refine r_if_eq (pc := 40) d_Mg_rule_40 (tgt := 56) (by decide) (fun c8 => ?_) (fun c8 => ?_)
      · replace h := h.1 c8
        refine r_aload_n (pc := 56) d_Mg_rule_56 (x := a) rfl ?_
        refine r_iconst (pc := 57) d_Mg_rule_57 (v := 1) (by decide) ?_
        refine r_callV (pc := 58) (k := a) (As := [.int 1]) (rest := []) (mc' := 0) (ms' := 0) lk_Mg_114 in_Mg_refuse se_Mg_refuse sa rfl d_Mg_rule_58 k_Mg_refuse rfl rfl (Nat.le_of_ble_eq_true rfl) (by decide) (by decide) (Sp.mono h ?_)
        rintro rS9 shS9 S9 ⟨qS9, x10, uS9, h⟩
        subst uS9
        rw [qS9]
        obtain ⟨g11, h⟩ := h
        exact r_zreturn (pc := 61) d_Mg_rule_61 rfl (aw_nb g11) rfl (Nat.le_refl _) ⟨rfl, _, rfl, h⟩
      · replace h := h.2 c8
        refine r_aload_n (pc := 43) d_Mg_rule_43 (x := a) rfl ?_
        obtain ⟨r12, er12, h⟩ := h
        refine r_getR (pc := 44) d_Mg_rule_44 f_Mg_30 sa (Or.inl ⟨_, rfl⟩) (r := r12) er12 ?_
        refine r_iload_n (pc := 47) d_Mg_rule_47 (x := p1) rfl ?_
        obtain ⟨s13, h⟩ := h
        refine r_putI (pc := 48) d_Mg_rule_48 f_Mg_204 s13 rfl ?_
        refine r_aload_n (pc := 51) d_Mg_rule_51 (x := a) rfl ?_
        refine r_callV (pc := 52) (k := a) (As := []) (rest := []) (mc' := 0) (ms' := 0) lk_Mg_121 in_Mg_grant se_Mg_grant sa rfl d_Mg_rule_52 k_Mg_grant rfl rfl (Nat.le_of_ble_eq_true rfl) (by decide) (by decide) (Sp.mono h ?_)
        rintro rS14 shS14 S14 ⟨qS14, x15, uS14, h⟩
        subst uS14
        rw [qS14]
        obtain ⟨g16, h⟩ := h
        exact r_zreturn (pc := 55) d_Mg_rule_55 rfl (aw_nb g16) rfl (Nat.le_refl _) ⟨rfl, _, rfl, h⟩
  · replace h := h.2 c1
    refine r_iload_n (pc := 5) d_Mg_rule_5 (x := p1) rfl ?_
    refine r_iconst (pc := 6) d_Mg_rule_6 (v := 0) (by decide) ?_
    refine r_bipush (pc := 7) d_Mg_rule_7 (v := 16) (by decide) ?_
    refine r_callS (pc := 9) (k := 0) (As := [.int p1, .int 0, .int 16]) (rest := []) (mc' := 0) (ms' := 0) lk_Mg_110 st_Mg_isWithin d_Mg_rule_9 k_Mg_isWithin rfl rfl (Nat.le_of_ble_eq_true rfl) (by decide) (by decide) (Sp.mono h ?_)
    rintro rS17 shS17 S17 ⟨qS17, x18, uS17, h⟩
    subst uS17
    rw [qS17]
    refine r_if_eq (pc := 12) d_Mg_rule_12 (tgt := 28) (by decide) (fun c19 => ?_) (fun c19 => ?_)
    · replace h := h.1 c19
      refine r_iload_n (pc := 28) d_Mg_rule_28 (x := p0) rfl ?_
      refine r_iconst (pc := 29) d_Mg_rule_29 (v := 4) (by decide) ?_
      refine r_icmp_ne (pc := 30) d_Mg_rule_30 (tgt := 56) (by decide) (fun c20 => ?_) (fun c20 => ?_)
      · replace h := h.1 c20
        refine r_aload_n (pc := 56) d_Mg_rule_56 (x := a) rfl ?_
        refine r_iconst (pc := 57) d_Mg_rule_57 (v := 1) (by decide) ?_
        refine r_callV (pc := 58) (k := a) (As := [.int 1]) (rest := []) (mc' := 0) (ms' := 0) lk_Mg_114 in_Mg_refuse se_Mg_refuse sa rfl d_Mg_rule_58 k_Mg_refuse rfl rfl (Nat.le_of_ble_eq_true rfl) (by decide) (by decide) (Sp.mono h ?_)
        rintro rS21 shS21 S21 ⟨qS21, x22, uS21, h⟩
        subst uS21
        rw [qS21]
        obtain ⟨g23, h⟩ := h
        exact r_zreturn (pc := 61) d_Mg_rule_61 rfl (aw_nb g23) rfl (Nat.le_refl _) ⟨rfl, _, rfl, h⟩
      · replace h := h.2 c20
        refine r_iload_n (pc := 33) d_Mg_rule_33 (x := p1) rfl ?_
        refine r_iconst (pc := 34) d_Mg_rule_34 (v := 1) (by decide) ?_
        refine r_bipush (pc := 35) d_Mg_rule_35 (v := 40) (by decide) ?_
        refine r_callS (pc := 37) (k := 0) (As := [.int p1, .int 1, .int 40]) (rest := []) (mc' := 0) (ms' := 0) lk_Mg_110 st_Mg_isWithin d_Mg_rule_37 k_Mg_isWithin rfl rfl (Nat.le_of_ble_eq_true rfl) (by decide) (by decide) (Sp.mono h ?_)
        rintro rS24 shS24 S24 ⟨qS24, x25, uS24, h⟩
        subst uS24
        rw [qS24]
        refine r_if_eq (pc := 40) d_Mg_rule_40 (tgt := 56) (by decide) (fun c26 => ?_) (fun c26 => ?_)
        · replace h := h.1 c26
          refine r_aload_n (pc := 56) d_Mg_rule_56 (x := a) rfl ?_
          refine r_iconst (pc := 57) d_Mg_rule_57 (v := 1) (by decide) ?_
          refine r_callV (pc := 58) (k := a) (As := [.int 1]) (rest := []) (mc' := 0) (ms' := 0) lk_Mg_114 in_Mg_refuse se_Mg_refuse sa rfl d_Mg_rule_58 k_Mg_refuse rfl rfl (Nat.le_of_ble_eq_true rfl) (by decide) (by decide) (Sp.mono h ?_)
          rintro rS27 shS27 S27 ⟨qS27, x28, uS27, h⟩
          subst uS27
          rw [qS27]
          obtain ⟨g29, h⟩ := h
          exact r_zreturn (pc := 61) d_Mg_rule_61 rfl (aw_nb g29) rfl (Nat.le_refl _) ⟨rfl, _, rfl, h⟩
        · replace h := h.2 c26
          refine r_aload_n (pc := 43) d_Mg_rule_43 (x := a) rfl ?_
          obtain ⟨r30, er30, h⟩ := h
          refine r_getR (pc := 44) d_Mg_rule_44 f_Mg_30 sa (Or.inl ⟨_, rfl⟩) (r := r30) er30 ?_
          refine r_iload_n (pc := 47) d_Mg_rule_47 (x := p1) rfl ?_
          obtain ⟨s31, h⟩ := h
          refine r_putI (pc := 48) d_Mg_rule_48 f_Mg_204 s31 rfl ?_
          refine r_aload_n (pc := 51) d_Mg_rule_51 (x := a) rfl ?_
          refine r_callV (pc := 52) (k := a) (As := []) (rest := []) (mc' := 0) (ms' := 0) lk_Mg_121 in_Mg_grant se_Mg_grant sa rfl d_Mg_rule_52 k_Mg_grant rfl rfl (Nat.le_of_ble_eq_true rfl) (by decide) (by decide) (Sp.mono h ?_)
          rintro rS32 shS32 S32 ⟨qS32, x33, uS32, h⟩
          subst uS32
          rw [qS32]
          obtain ⟨g34, h⟩ := h
          exact r_zreturn (pc := 55) d_Mg_rule_55 rfl (aw_nb g34) rfl (Nat.le_refl _) ⟨rfl, _, rfl, h⟩
    · replace h := h.2 c19
      refine r_aload_n (pc := 15) d_Mg_rule_15 (x := a) rfl ?_
      obtain ⟨r35, er35, h⟩ := h
      refine r_getR (pc := 16) d_Mg_rule_16 f_Mg_30 sa (Or.inl ⟨_, rfl⟩) (r := r35) er35 ?_
      refine r_iload_n (pc := 19) d_Mg_rule_19 (x := p1) rfl ?_
      obtain ⟨s36, h⟩ := h
      refine r_putI (pc := 20) d_Mg_rule_20 f_Mg_201 s36 rfl ?_
      refine r_aload_n (pc := 23) d_Mg_rule_23 (x := a) rfl ?_
      refine r_callV (pc := 24) (k := a) (As := []) (rest := []) (mc' := 0) (ms' := 0) lk_Mg_121 in_Mg_grant se_Mg_grant sa rfl d_Mg_rule_24 k_Mg_grant rfl rfl (Nat.le_of_ble_eq_true rfl) (by decide) (by decide) (Sp.mono h ?_)
      rintro rS37 shS37 S37 ⟨qS37, x38, uS37, h⟩
      subst uS37
      rw [qS37]
      obtain ⟨g39, h⟩ := h
      exact r_zreturn (pc := 27) d_Mg_rule_27 rfl (aw_nb g39) rfl (Nat.le_refl _) ⟨rfl, _, rfl, h⟩
set_option maxRecDepth 4000 in
theorem e_Mg_bound {l : Launch} {d : Nat} {sh : aw_SH} {S : aw_S} {P : Int32 → aw_S → Prop} {a : Nat} {p0 : Int32} (sa : sh[a]? = some (0, 0)) (h : Sp l m_Mg_isDancer d 0 0 [.ref a, .int p0] sh S (gI sh (fun x2 S1 => ((x2 = 0 → Sp l m_Mg_fail d 0 0 [.ref a, .int 1] sh S1 (gI sh (fun x5 S4 => P x5 S4))) ∧ (¬ x2 = 0 → ∃ r6, S1.2.2 a 6 = some r6 ∧ sh[r6]? = some (0, 2) ∧ Sp l m_Gr_mustGo d 0 0 [.ref r6, .int (-1), .int p0] sh S1 (gI sh (fun x9 S8 => Sp l m_Mg_give d 0 0 [.ref a, .int x9] sh S8 (gI sh (fun x11 S10 => P x11 S10))))))))) : Sp l m_Mg_bound (d + 1) 0 0 [.ref a, .int p0] sh S (gI sh P) := by
  refine Sp.of k_Mg_bound (ls := [.ref a, .int p0]) rfl (Nat.le_of_ble_eq_true rfl) ?_
  refine r_aload_n (pc := 0) d_Mg_bound_0 (x := a) rfl ?_
  refine r_iload_n (pc := 1) d_Mg_bound_1 (x := p0) rfl ?_
  refine r_callV (pc := 2) (k := a) (As := [.int p0]) (rest := []) (mc' := 0) (ms' := 0) lk_Mg_225 in_Mg_isDancer se_Mg_isDancer sa rfl d_Mg_bound_2 k_Mg_isDancer rfl rfl (Nat.le_of_ble_eq_true rfl) (by decide) (by decide) (Sp.mono h ?_)
  rintro rS1 shS1 S1 ⟨qS1, x2, uS1, h⟩
  subst uS1
  rw [qS1]
  refine r_if_eq (pc := 5) d_Mg_bound_5 (tgt := 24) (by decide) (fun c3 => ?_) (fun c3 => ?_)
  · replace h := h.1 c3
    refine r_aload_n (pc := 24) d_Mg_bound_24 (x := a) rfl ?_
    refine r_iconst (pc := 25) d_Mg_bound_25 (v := 1) (by decide) ?_
    refine r_callV (pc := 26) (k := a) (As := [.int 1]) (rest := []) (mc' := 0) (ms' := 0) lk_Mg_133 in_Mg_fail se_Mg_fail sa rfl d_Mg_bound_26 k_Mg_fail rfl rfl (Nat.le_of_ble_eq_true rfl) (by decide) (by decide) (Sp.mono h ?_)
    rintro rS4 shS4 S4 ⟨qS4, x5, uS4, h⟩
    subst uS4
    rw [qS4]
    exact r_ireturn (pc := 29) d_Mg_bound_29 rfl rfl (Nat.le_refl _) ⟨rfl, _, rfl, h⟩
  · replace h := h.2 c3
    refine r_aload_n (pc := 8) d_Mg_bound_8 (x := a) rfl ?_
    refine r_aload_n (pc := 9) d_Mg_bound_9 (x := a) rfl ?_
    obtain ⟨r6, er6, h⟩ := h
    refine r_getR (pc := 10) d_Mg_bound_10 f_Mg_30 sa (Or.inl ⟨_, rfl⟩) (r := r6) er6 ?_
    refine r_iconst (pc := 13) d_Mg_bound_13 (v := (-1)) (by decide) ?_
    refine r_iload_n (pc := 14) d_Mg_bound_14 (x := p0) rfl ?_
    obtain ⟨s7, h⟩ := h
    refine r_callV (pc := 15) (k := r6) (As := [.int (-1), .int p0]) (rest := [.ref a]) (mc' := 0) (ms' := 0) lk_Mg_267 in_Gr_mustGo se_Gr_mustGo s7 rfl d_Mg_bound_15 k_Gr_mustGo rfl rfl (Nat.le_of_ble_eq_true rfl) (by decide) (by decide) (Sp.mono h ?_)
    rintro rS8 shS8 S8 ⟨qS8, x9, uS8, h⟩
    subst uS8
    rw [qS8]
    refine r_callV (pc := 18) (k := a) (As := [.int x9]) (rest := []) (mc' := 0) (ms' := 0) lk_Mg_174 in_Mg_give se_Mg_give sa rfl d_Mg_bound_18 k_Mg_give rfl rfl (Nat.le_of_ble_eq_true rfl) (by decide) (by decide) (Sp.mono h ?_)
    rintro rS10 shS10 S10 ⟨qS10, x11, uS10, h⟩
    subst uS10
    rw [qS10]
    refine r_goto (pc := 21) d_Mg_bound_21 (tgt := 29) (by decide) ?_
    exact r_ireturn (pc := 29) d_Mg_bound_29 rfl rfl (Nat.le_refl _) ⟨rfl, _, rfl, h⟩
set_option maxRecDepth 4000 in
theorem e_Mg_homeward {l : Launch} {d : Nat} {sh : aw_SH} {S : aw_S} {P : Int32 → aw_S → Prop} {a : Nat} (sa : sh[a]? = some (0, 0)) (h : ∃ r1, S.2.2 a 15 = some r1 ∧ ∃ r2, S.2.2 a 6 = some r2 ∧ sh[r1]? = some (0, 8) ∧ Sp l m_Ho_fewest d 0 0 [.ref r1, .ref r2] sh S (gI sh (fun x5 S4 => Sp l m_Mg_give d 0 0 [.ref a, .int x5] sh S4 (gI sh (fun x7 S6 => P x7 S6))))) : Sp l m_Mg_homeward (d + 1) 0 0 [.ref a] sh S (gI sh P) := by
  refine Sp.of k_Mg_homeward (ls := [.ref a]) rfl (Nat.le_of_ble_eq_true rfl) ?_
  refine r_aload_n (pc := 0) d_Mg_homeward_0 (x := a) rfl ?_
  refine r_aload_n (pc := 1) d_Mg_homeward_1 (x := a) rfl ?_
  obtain ⟨r1, er1, h⟩ := h
  refine r_getR (pc := 2) d_Mg_homeward_2 f_Mg_69 sa (Or.inl ⟨_, rfl⟩) (r := r1) er1 ?_
  refine r_aload_n (pc := 5) d_Mg_homeward_5 (x := a) rfl ?_
  obtain ⟨r2, er2, h⟩ := h
  refine r_getR (pc := 6) d_Mg_homeward_6 f_Mg_30 sa (Or.inl ⟨_, rfl⟩) (r := r2) er2 ?_
  obtain ⟨s3, h⟩ := h
  refine r_callV (pc := 9) (k := r1) (As := [.ref r2]) (rest := [.ref a]) (mc' := 0) (ms' := 0) lk_Mg_295 in_Ho_fewest se_Ho_fewest s3 rfl d_Mg_homeward_9 k_Ho_fewest rfl rfl (Nat.le_of_ble_eq_true rfl) (by decide) (by decide) (Sp.mono h ?_)
  rintro rS4 shS4 S4 ⟨qS4, x5, uS4, h⟩
  subst uS4
  rw [qS4]
  refine r_callV (pc := 12) (k := a) (As := [.int x5]) (rest := []) (mc' := 0) (ms' := 0) lk_Mg_174 in_Mg_give se_Mg_give sa rfl d_Mg_homeward_12 k_Mg_give rfl rfl (Nat.le_of_ble_eq_true rfl) (by decide) (by decide) (Sp.mono h ?_)
  rintro rS6 shS6 S6 ⟨qS6, x7, uS6, h⟩
  subst uS6
  rw [qS6]
  exact r_ireturn (pc := 15) d_Mg_homeward_15 rfl rfl (Nat.le_refl _) ⟨rfl, _, rfl, h⟩
set_option maxRecDepth 4000 in
theorem e_Mg_homewardAt {l : Launch} {d : Nat} {sh : aw_SH} {S : aw_S} {P : Int32 → aw_S → Prop} {a : Nat} {p0 : Int32} (sa : sh[a]? = some (0, 0)) (h : ((0 ≤ p0 → ∃ r2, S.2.2 a 15 = some r2 ∧ ∃ r3, S.2.2 a 6 = some r3 ∧ sh[r2]? = some (0, 8) ∧ Sp l m_Ho_gapOnWay d 0 0 [.ref r2, .ref r3, .int p0] sh S (gI sh (fun x6 S5 => ((¬ x6 = (-1) → Sp l m_Mg_give d 0 0 [.ref a, .int x6] sh S5 (gI sh (fun x9 S8 => P x9 S8))) ∧ (x6 = (-1) → Sp l m_Mg_fail d 0 0 [.ref a, .int 6] sh S5 (gI sh (fun x11 S10 => P x11 S10))))))) ∧ (¬ 0 ≤ p0 → Sp l m_Mg_fail d 0 0 [.ref a, .int 1] sh S (gI sh (fun x13 S12 => P x13 S12))))) : Sp l m_Mg_homewardAt (d + 1) 0 0 [.ref a, .int p0] sh S (gI sh P) := by
  refine Sp.of k_Mg_homewardAt (ls := [.ref a, .int p0, .null]) rfl (Nat.le_of_ble_eq_true rfl) ?_
  refine r_iload_n (pc := 0) d_Mg_homewardAt_0 (x := p0) rfl ?_
  refine r_if_ge (pc := 1) d_Mg_homewardAt_1 (tgt := 10) (by decide) (fun c1 => ?_) (fun c1 => ?_)
  · replace h := h.1 c1
    refine r_aload_n (pc := 10) d_Mg_homewardAt_10 (x := a) rfl ?_
    obtain ⟨r2, er2, h⟩ := h
    refine r_getR (pc := 11) d_Mg_homewardAt_11 f_Mg_69 sa (Or.inl ⟨_, rfl⟩) (r := r2) er2 ?_
    refine r_aload_n (pc := 14) d_Mg_homewardAt_14 (x := a) rfl ?_
    obtain ⟨r3, er3, h⟩ := h
    refine r_getR (pc := 15) d_Mg_homewardAt_15 f_Mg_30 sa (Or.inl ⟨_, rfl⟩) (r := r3) er3 ?_
    refine r_iload_n (pc := 18) d_Mg_homewardAt_18 (x := p0) rfl ?_
    obtain ⟨s4, h⟩ := h
    refine r_callV (pc := 19) (k := r2) (As := [.ref r3, .int p0]) (rest := []) (mc' := 0) (ms' := 0) lk_Mg_299 in_Ho_gapOnWay se_Ho_gapOnWay s4 rfl d_Mg_homewardAt_19 k_Ho_gapOnWay rfl rfl (Nat.le_of_ble_eq_true rfl) (by decide) (by decide) (Sp.mono h ?_)
    rintro rS5 shS5 S5 ⟨qS5, x6, uS5, h⟩
    subst uS5
    rw [qS5]
    refine r_istore_n (pc := 22) (hk := rfl) (hd := d_Mg_homewardAt_22) (hi := by decide) (ls2 := [.ref a, .int p0, .int x6]) (h2 := rfl) ?_
    refine r_iload_n (pc := 23) d_Mg_homewardAt_23 (x := x6) rfl ?_
    refine r_iconst (pc := 24) d_Mg_homewardAt_24 (v := (-1)) (by decide) ?_
    refine r_icmp_ne (pc := 25) d_Mg_homewardAt_25 (tgt := 37) (by decide) (fun c7 => ?_) (fun c7 => ?_)
    · replace h := h.1 c7
      refine r_aload_n (pc := 37) d_Mg_homewardAt_37 (x := a) rfl ?_
      refine r_iload_n (pc := 38) d_Mg_homewardAt_38 (x := x6) rfl ?_
      refine r_callV (pc := 39) (k := a) (As := [.int x6]) (rest := []) (mc' := 0) (ms' := 0) lk_Mg_174 in_Mg_give se_Mg_give sa rfl d_Mg_homewardAt_39 k_Mg_give rfl rfl (Nat.le_of_ble_eq_true rfl) (by decide) (by decide) (Sp.mono h ?_)
      rintro rS8 shS8 S8 ⟨qS8, x9, uS8, h⟩
      subst uS8
      rw [qS8]
      exact r_ireturn (pc := 42) d_Mg_homewardAt_42 rfl rfl (Nat.le_refl _) ⟨rfl, _, rfl, h⟩
    · replace h := h.2 c7
      refine r_aload_n (pc := 28) d_Mg_homewardAt_28 (x := a) rfl ?_
      refine r_bipush (pc := 29) d_Mg_homewardAt_29 (v := 6) (by decide) ?_
      refine r_callV (pc := 31) (k := a) (As := [.int 6]) (rest := []) (mc' := 0) (ms' := 0) lk_Mg_133 in_Mg_fail se_Mg_fail sa rfl d_Mg_homewardAt_31 k_Mg_fail rfl rfl (Nat.le_of_ble_eq_true rfl) (by decide) (by decide) (Sp.mono h ?_)
      rintro rS10 shS10 S10 ⟨qS10, x11, uS10, h⟩
      subst uS10
      rw [qS10]
      refine r_goto (pc := 34) d_Mg_homewardAt_34 (tgt := 42) (by decide) ?_
      exact r_ireturn (pc := 42) d_Mg_homewardAt_42 rfl rfl (Nat.le_refl _) ⟨rfl, _, rfl, h⟩
  · replace h := h.2 c1
    refine r_aload_n (pc := 4) d_Mg_homewardAt_4 (x := a) rfl ?_
    refine r_iconst (pc := 5) d_Mg_homewardAt_5 (v := 1) (by decide) ?_
    refine r_callV (pc := 6) (k := a) (As := [.int 1]) (rest := []) (mc' := 0) (ms' := 0) lk_Mg_133 in_Mg_fail se_Mg_fail sa rfl d_Mg_homewardAt_6 k_Mg_fail rfl rfl (Nat.le_of_ble_eq_true rfl) (by decide) (by decide) (Sp.mono h ?_)
    rintro rS12 shS12 S12 ⟨qS12, x13, uS12, h⟩
    subst uS12
    rw [qS12]
    exact r_ireturn (pc := 9) d_Mg_homewardAt_9 rfl rfl (Nat.le_refl _) ⟨rfl, _, rfl, h⟩
set_option maxRecDepth 4000 in
theorem e_Mg_meet {l : Launch} {d : Nat} {sh : aw_SH} {S : aw_S} {P : Int32 → aw_S → Prop} {a : Nat} {p0 : Int32} {p1 : Int32} (sa : sh[a]? = some (0, 0)) (h : Sp l m_Mg_areTwo d 0 0 [.ref a, .int p0, .int p1] sh S (gI sh (fun x2 S1 => ((¬ x2 = 0 → ∃ r4, S1.2.2 a 6 = some r4 ∧ sh[r4]? = some (0, 2) ∧ ∃ r6, S1.2.2 r4 7 = some r6 ∧ ∃ n8, sh[r6]? = some (3, n8) ∧ vp_in p0 n8 ∧ vp_in p1 n8 ∧ Sp l m_Ma_abs d 0 0 [.int ((S1.1 r6 p0.toNatClampNeg) - (S1.1 r6 p1.toNatClampNeg))] sh S1 (gI sh (fun x12 S11 => ∃ r13, S11.2.2 a 6 = some r13 ∧ sh[r13]? = some (0, 2) ∧ Sp l m_Ma_min d 0 0 [.int x12, .int ((S11.1 r13 0) - x12)] sh S11 (gI sh (fun x16 S15 => Sp l m_Mg_give d 0 0 [.ref a, .int (x16 - (1 : Int32))] sh S15 (gI sh (fun x18 S17 => P x18 S17))))))) ∧ (x2 = 0 → Sp l m_Mg_fail d 0 0 [.ref a, .int 1] sh S1 (gI sh (fun x20 S19 => P x20 S19))))))) : Sp l m_Mg_meet (d + 1) 0 0 [.ref a, .int p0, .int p1] sh S (gI sh P) := by
  refine Sp.of k_Mg_meet (ls := [.ref a, .int p0, .int p1, .null]) rfl (Nat.le_of_ble_eq_true rfl) ?_
  refine r_aload_n (pc := 0) d_Mg_meet_0 (x := a) rfl ?_
  refine r_iload_n (pc := 1) d_Mg_meet_1 (x := p0) rfl ?_
  refine r_iload_n (pc := 2) d_Mg_meet_2 (x := p1) rfl ?_
  refine r_callV (pc := 3) (k := a) (As := [.int p0, .int p1]) (rest := []) (mc' := 0) (ms' := 0) lk_Mg_288 in_Mg_areTwo se_Mg_areTwo sa rfl d_Mg_meet_3 k_Mg_areTwo rfl rfl (Nat.le_of_ble_eq_true rfl) (by decide) (by decide) (Sp.mono h ?_)
  rintro rS1 shS1 S1 ⟨qS1, x2, uS1, h⟩
  subst uS1
  rw [qS1]
  refine r_if_ne (pc := 6) d_Mg_meet_6 (tgt := 15) (by decide) (fun c3 => ?_) (fun c3 => ?_)
  · replace h := h.1 c3
    refine r_aload_n (pc := 15) d_Mg_meet_15 (x := a) rfl ?_
    obtain ⟨r4, er4, h⟩ := h
    refine r_getR (pc := 16) d_Mg_meet_16 f_Mg_30 sa (Or.inl ⟨_, rfl⟩) (r := r4) er4 ?_
    obtain ⟨s5, h⟩ := h
    obtain ⟨r6, er6, h⟩ := h
    refine r_getR (pc := 19) d_Mg_meet_19 f_Mg_228 s5 (Or.inr ⟨_, rfl⟩) (r := r6) er6 ?_
    refine r_iload_n (pc := 22) d_Mg_meet_22 (x := p0) rfl ?_
    obtain ⟨n8, s7, h⟩ := h
    obtain ⟨g9, h⟩ := h
    refine r_iald (pc := 23) d_Mg_meet_23 s7 g9 ?_
    refine r_aload_n (pc := 24) d_Mg_meet_24 (x := a) rfl ?_
    refine r_getR (pc := 25) d_Mg_meet_25 f_Mg_30 sa (Or.inl ⟨_, rfl⟩) (r := r4) er4 ?_
    refine r_getR (pc := 28) d_Mg_meet_28 f_Mg_228 s5 (Or.inr ⟨_, rfl⟩) (r := r6) er6 ?_
    refine r_iload_n (pc := 31) d_Mg_meet_31 (x := p1) rfl ?_
    obtain ⟨g10, h⟩ := h
    refine r_iald (pc := 32) d_Mg_meet_32 s7 g10 ?_
    refine r_isub (pc := 33) d_Mg_meet_33 ?_
    refine r_callS (pc := 34) (k := 0) (As := [.int ((S1.1 r6 p0.toNatClampNeg) - (S1.1 r6 p1.toNatClampNeg))]) (rest := []) (mc' := 0) (ms' := 0) lk_Mg_303 st_Ma_abs d_Mg_meet_34 k_Ma_abs rfl rfl (Nat.le_of_ble_eq_true rfl) (by decide) (by decide) (Sp.mono h ?_)
    rintro rS11 shS11 S11 ⟨qS11, x12, uS11, h⟩
    subst uS11
    rw [qS11]
    refine r_istore_n (pc := 37) (hk := rfl) (hd := d_Mg_meet_37) (hi := by decide) (ls2 := [.ref a, .int p0, .int p1, .int x12]) (h2 := rfl) ?_
    refine r_aload_n (pc := 38) d_Mg_meet_38 (x := a) rfl ?_
    refine r_iload_n (pc := 39) d_Mg_meet_39 (x := x12) rfl ?_
    refine r_aload_n (pc := 40) d_Mg_meet_40 (x := a) rfl ?_
    obtain ⟨r13, er13, h⟩ := h
    refine r_getR (pc := 41) d_Mg_meet_41 f_Mg_30 sa (Or.inl ⟨_, rfl⟩) (r := r13) er13 ?_
    obtain ⟨s14, h⟩ := h
    refine r_getI (pc := 44) d_Mg_meet_44 f_Mg_171 s14 rfl ?_
    refine r_iload_n (pc := 47) d_Mg_meet_47 (x := x12) rfl ?_
    refine r_isub (pc := 48) d_Mg_meet_48 ?_
    refine r_callS (pc := 49) (k := 0) (As := [.int x12, .int ((S11.1 r13 0) - x12)]) (rest := [.ref a]) (mc' := 0) (ms' := 0) lk_Mg_308 st_Ma_min d_Mg_meet_49 k_Ma_min rfl rfl (Nat.le_of_ble_eq_true rfl) (by decide) (by decide) (Sp.mono h ?_)
    rintro rS15 shS15 S15 ⟨qS15, x16, uS15, h⟩
    subst uS15
    rw [qS15]
    refine r_iconst (pc := 52) d_Mg_meet_52 (v := 1) (by decide) ?_
    refine r_isub (pc := 53) d_Mg_meet_53 ?_
    refine r_callV (pc := 54) (k := a) (As := [.int (x16 - (1 : Int32))]) (rest := []) (mc' := 0) (ms' := 0) lk_Mg_174 in_Mg_give se_Mg_give sa rfl d_Mg_meet_54 k_Mg_give rfl rfl (Nat.le_of_ble_eq_true rfl) (by decide) (by decide) (Sp.mono h ?_)
    rintro rS17 shS17 S17 ⟨qS17, x18, uS17, h⟩
    subst uS17
    rw [qS17]
    exact r_ireturn (pc := 57) d_Mg_meet_57 rfl rfl (Nat.le_refl _) ⟨rfl, _, rfl, h⟩
  · replace h := h.2 c3
    refine r_aload_n (pc := 9) d_Mg_meet_9 (x := a) rfl ?_
    refine r_iconst (pc := 10) d_Mg_meet_10 (v := 1) (by decide) ?_
    refine r_callV (pc := 11) (k := a) (As := [.int 1]) (rest := []) (mc' := 0) (ms' := 0) lk_Mg_133 in_Mg_fail se_Mg_fail sa rfl d_Mg_meet_11 k_Mg_fail rfl rfl (Nat.le_of_ble_eq_true rfl) (by decide) (by decide) (Sp.mono h ?_)
    rintro rS19 shS19 S19 ⟨qS19, x20, uS19, h⟩
    subst uS19
    rw [qS19]
    exact r_ireturn (pc := 14) d_Mg_meet_14 rfl rfl (Nat.le_refl _) ⟨rfl, _, rfl, h⟩
set_option maxRecDepth 4000 in
theorem e_Mg_same {l : Launch} {d : Nat} {sh : aw_SH} {S : aw_S} {P : Int32 → aw_S → Prop} {a : Nat} {p0 : Int32} {p1 : Int32} (sa : sh[a]? = some (0, 0)) (h : Sp l m_Mg_danceProblem d 0 0 [.ref a, .int p0, .int p1] sh S (gI sh (fun x2 S1 => ((x2 = 0 → ∃ r4, S1.2.2 a 0 = some r4 ∧ ∃ n6, sh[r4]? = some (5, n6) ∧ vp_in p0 n6 ∧ ∃ r8, S1.2.2 r4 p0.toNatClampNeg = some r8 ∧ Sp l m_Mg_passesApart d 0 0 [.ref a, .ref r8, .int p1, .int (-1)] sh S1 (gI sh (fun x10 S9 => ((¬ x10 = 0 → Sp l m_Mg_give d 0 0 [.ref a, .int 0] sh S9 (gI sh (fun x13 S12 => P x13 S12))) ∧ (x10 = 0 → Sp l m_Mg_give d 0 0 [.ref a, .int 1] sh S9 (gI sh (fun x15 S14 => P x15 S14))))))) ∧ (¬ x2 = 0 → Sp l m_Mg_fail d 0 0 [.ref a, .int x2] sh S1 (gI sh (fun x17 S16 => P x17 S16))))))) : Sp l m_Mg_same (d + 1) 0 0 [.ref a, .int p0, .int p1] sh S (gI sh P) := by
  refine Sp.of k_Mg_same (ls := [.ref a, .int p0, .int p1, .null]) rfl (Nat.le_of_ble_eq_true rfl) ?_
  refine r_aload_n (pc := 0) d_Mg_same_0 (x := a) rfl ?_
  refine r_iload_n (pc := 1) d_Mg_same_1 (x := p0) rfl ?_
  refine r_iload_n (pc := 2) d_Mg_same_2 (x := p1) rfl ?_
  refine r_callV (pc := 3) (k := a) (As := [.int p0, .int p1]) (rest := []) (mc' := 0) (ms' := 0) lk_Mg_311 in_Mg_danceProblem se_Mg_danceProblem sa rfl d_Mg_same_3 k_Mg_danceProblem rfl rfl (Nat.le_of_ble_eq_true rfl) (by decide) (by decide) (Sp.mono h ?_)
  rintro rS1 shS1 S1 ⟨qS1, x2, uS1, h⟩
  subst uS1
  rw [qS1]
  refine r_istore_n (pc := 6) (hk := rfl) (hd := d_Mg_same_6) (hi := by decide) (ls2 := [.ref a, .int p0, .int p1, .int x2]) (h2 := rfl) ?_
  refine r_iload_n (pc := 7) d_Mg_same_7 (x := x2) rfl ?_
  refine r_if_eq (pc := 8) d_Mg_same_8 (tgt := 17) (by decide) (fun c3 => ?_) (fun c3 => ?_)
  · replace h := h.1 c3
    refine r_aload_n (pc := 17) d_Mg_same_17 (x := a) rfl ?_
    refine r_aload_n (pc := 18) d_Mg_same_18 (x := a) rfl ?_
    refine r_aload_n (pc := 19) d_Mg_same_19 (x := a) rfl ?_
    obtain ⟨r4, er4, h⟩ := h
    refine r_getR (pc := 20) d_Mg_same_20 f_Mg_11 sa (Or.inr ⟨_, rfl⟩) (r := r4) er4 ?_
    refine r_iload_n (pc := 23) d_Mg_same_23 (x := p0) rfl ?_
    obtain ⟨n6, s5, h⟩ := h
    obtain ⟨g7, h⟩ := h
    obtain ⟨r8, er8, h⟩ := h
    refine r_aald5 (pc := 24) d_Mg_same_24 s5 g7 (r := r8) er8 ?_
    refine r_iload_n (pc := 25) d_Mg_same_25 (x := p1) rfl ?_
    refine r_iconst (pc := 26) d_Mg_same_26 (v := (-1)) (by decide) ?_
    refine r_callV (pc := 27) (k := a) (As := [.ref r8, .int p1, .int (-1)]) (rest := [.ref a]) (mc' := 0) (ms' := 0) lk_Mg_314 in_Mg_passesApart se_Mg_passesApart sa rfl d_Mg_same_27 k_Mg_passesApart rfl rfl (Nat.le_of_ble_eq_true rfl) (by decide) (by decide) (Sp.mono h ?_)
    rintro rS9 shS9 S9 ⟨qS9, x10, uS9, h⟩
    subst uS9
    rw [qS9]
    refine r_if_ne (pc := 30) d_Mg_same_30 (tgt := 37) (by decide) (fun c11 => ?_) (fun c11 => ?_)
    · replace h := h.1 c11
      refine r_iconst (pc := 37) d_Mg_same_37 (v := 0) (by decide) ?_
      refine r_callV (pc := 38) (k := a) (As := [.int 0]) (rest := []) (mc' := 0) (ms' := 0) lk_Mg_174 in_Mg_give se_Mg_give sa rfl d_Mg_same_38 k_Mg_give rfl rfl (Nat.le_of_ble_eq_true rfl) (by decide) (by decide) (Sp.mono h ?_)
      rintro rS12 shS12 S12 ⟨qS12, x13, uS12, h⟩
      subst uS12
      rw [qS12]
      exact r_ireturn (pc := 41) d_Mg_same_41 rfl rfl (Nat.le_refl _) ⟨rfl, _, rfl, h⟩
    · replace h := h.2 c11
      refine r_iconst (pc := 33) d_Mg_same_33 (v := 1) (by decide) ?_
      refine r_goto (pc := 34) d_Mg_same_34 (tgt := 38) (by decide) ?_
      refine r_callV (pc := 38) (k := a) (As := [.int 1]) (rest := []) (mc' := 0) (ms' := 0) lk_Mg_174 in_Mg_give se_Mg_give sa rfl d_Mg_same_38 k_Mg_give rfl rfl (Nat.le_of_ble_eq_true rfl) (by decide) (by decide) (Sp.mono h ?_)
      rintro rS14 shS14 S14 ⟨qS14, x15, uS14, h⟩
      subst uS14
      rw [qS14]
      exact r_ireturn (pc := 41) d_Mg_same_41 rfl rfl (Nat.le_refl _) ⟨rfl, _, rfl, h⟩
  · replace h := h.2 c3
    refine r_aload_n (pc := 11) d_Mg_same_11 (x := a) rfl ?_
    refine r_iload_n (pc := 12) d_Mg_same_12 (x := x2) rfl ?_
    refine r_callV (pc := 13) (k := a) (As := [.int x2]) (rest := []) (mc' := 0) (ms' := 0) lk_Mg_133 in_Mg_fail se_Mg_fail sa rfl d_Mg_same_13 k_Mg_fail rfl rfl (Nat.le_of_ble_eq_true rfl) (by decide) (by decide) (Sp.mono h ?_)
    rintro rS16 shS16 S16 ⟨qS16, x17, uS16, h⟩
    subst uS16
    rw [qS16]
    exact r_ireturn (pc := 16) d_Mg_same_16 rfl rfl (Nat.le_refl _) ⟨rfl, _, rfl, h⟩
set_option maxRecDepth 4000 in
theorem e_Mg_danceProblem {l : Launch} {d : Nat} {sh : aw_SH} {S : aw_S} {P : Int32 → aw_S → Prop} {a : Nat} {p0 : Int32} {p1 : Int32} (sa : sh[a]? = some (0, 0)) (h : Sp l m_Mg_isTray d 0 0 [.int p0] sh S (gI sh (fun x2 S1 => ((x2 = 0 → P 1 S1) ∧ (¬ x2 = 0 → Sp l m_Mg_isWithin d 0 0 [.int p1, .int 0, .int 40] sh S1 (gI sh (fun x5 S4 => ((¬ x5 = 0 → ∃ r7, S4.2.2 a 0 = some r7 ∧ ∃ n9, sh[r7]? = some (5, n9) ∧ vp_in p0 n9 ∧ ∃ r11, S4.2.2 r7 p0.toNatClampNeg = some r11 ∧ sh[r11]? = some (0, 1) ∧ ((¬ (S4.1 r11 1) = 0 → vp_in p0 n9 ∧ ∃ r15, S4.2.2 r7 p0.toNatClampNeg = some r15 ∧ sh[r15]? = some (0, 1) ∧ ((p1 ≤ (S4.1 r15 3) → vp_in p0 n9 ∧ ∃ r19, S4.2.2 r7 p0.toNatClampNeg = some r19 ∧ ∃ r20, S4.2.2 a 6 = some r20 ∧ sh[r20]? = some (0, 2) ∧ Sp l m_Gr_gaps d 0 0 [.ref r20] sh S4 (gI sh (fun x23 S22 => sh[r19]? = some (0, 1) ∧ Sp l m_Tr_areBelow d 0 0 [.ref r19, .int 0, .int p1, .int 1, .long ((2 : Int64) * x23.toInt64)] sh S22 (gI sh (fun x26 S25 => ((x26 = 0 → P 5 S25) ∧ (¬ x26 = 0 → P 0 S25))))))) ∧ (¬ p1 ≤ (S4.1 r15 3) → P 3 S4))) ∧ ((S4.1 r11 1) = 0 → P 2 S4))) ∧ (x5 = 0 → P 1 S4))))))))) : Sp l m_Mg_danceProblem (d + 1) 0 0 [.ref a, .int p0, .int p1] sh S (gI sh P) := by
  refine Sp.of k_Mg_danceProblem (ls := [.ref a, .int p0, .int p1]) rfl (Nat.le_of_ble_eq_true rfl) ?_
  refine r_iload_n (pc := 0) d_Mg_danceProblem_0 (x := p0) rfl ?_
  refine r_callS (pc := 1) (k := 0) (As := [.int p0]) (rest := []) (mc' := 0) (ms' := 0) lk_Mg_106 st_Mg_isTray d_Mg_danceProblem_1 k_Mg_isTray rfl rfl (Nat.le_of_ble_eq_true rfl) (by decide) (by decide) (Sp.mono h ?_)
  rintro rS1 shS1 S1 ⟨qS1, x2, uS1, h⟩
  subst uS1
  rw [qS1]
  refine r_if_eq (pc := 4) d_Mg_danceProblem_4 (tgt := 17) (by decide) (fun c3 => ?_) (fun c3 => ?_)
  · replace h := h.1 c3
    refine r_iconst (pc := 17) d_Mg_danceProblem_17 (v := 1) (by decide) ?_
    exact r_ireturn (pc := 18) d_Mg_danceProblem_18 rfl rfl (Nat.le_refl _) ⟨rfl, _, rfl, h⟩
  · replace h := h.2 c3
    refine r_iload_n (pc := 7) d_Mg_danceProblem_7 (x := p1) rfl ?_
    refine r_iconst (pc := 8) d_Mg_danceProblem_8 (v := 0) (by decide) ?_
    refine r_bipush (pc := 9) d_Mg_danceProblem_9 (v := 40) (by decide) ?_
    refine r_callS (pc := 11) (k := 0) (As := [.int p1, .int 0, .int 40]) (rest := []) (mc' := 0) (ms' := 0) lk_Mg_110 st_Mg_isWithin d_Mg_danceProblem_11 k_Mg_isWithin rfl rfl (Nat.le_of_ble_eq_true rfl) (by decide) (by decide) (Sp.mono h ?_)
    rintro rS4 shS4 S4 ⟨qS4, x5, uS4, h⟩
    subst uS4
    rw [qS4]
    refine r_if_ne (pc := 14) d_Mg_danceProblem_14 (tgt := 19) (by decide) (fun c6 => ?_) (fun c6 => ?_)
    · replace h := h.1 c6
      refine r_aload_n (pc := 19) d_Mg_danceProblem_19 (x := a) rfl ?_
      obtain ⟨r7, er7, h⟩ := h
      refine r_getR (pc := 20) d_Mg_danceProblem_20 f_Mg_11 sa (Or.inr ⟨_, rfl⟩) (r := r7) er7 ?_
      refine r_iload_n (pc := 23) d_Mg_danceProblem_23 (x := p0) rfl ?_
      obtain ⟨n9, s8, h⟩ := h
      obtain ⟨g10, h⟩ := h
      obtain ⟨r11, er11, h⟩ := h
      refine r_aald5 (pc := 24) d_Mg_danceProblem_24 s8 g10 (r := r11) er11 ?_
      obtain ⟨s12, h⟩ := h
      refine r_getI (pc := 25) d_Mg_danceProblem_25 f_Mg_141 s12 rfl ?_
      refine r_if_ne (pc := 28) d_Mg_danceProblem_28 (tgt := 33) (by decide) (fun c13 => ?_) (fun c13 => ?_)
      · replace h := h.1 c13
        refine r_iload_n (pc := 33) d_Mg_danceProblem_33 (x := p1) rfl ?_
        refine r_aload_n (pc := 34) d_Mg_danceProblem_34 (x := a) rfl ?_
        refine r_getR (pc := 35) d_Mg_danceProblem_35 f_Mg_11 sa (Or.inr ⟨_, rfl⟩) (r := r7) er7 ?_
        refine r_iload_n (pc := 38) d_Mg_danceProblem_38 (x := p0) rfl ?_
        obtain ⟨g14, h⟩ := h
        obtain ⟨r15, er15, h⟩ := h
        refine r_aald5 (pc := 39) d_Mg_danceProblem_39 s8 g14 (r := r15) er15 ?_
        obtain ⟨s16, h⟩ := h
        refine r_getI (pc := 40) d_Mg_danceProblem_40 f_Mg_360 s16 rfl ?_
        refine r_icmp_le (pc := 43) d_Mg_danceProblem_43 (tgt := 48) (by decide) (fun c17 => ?_) (fun c17 => ?_)
        · replace h := h.1 c17
          refine r_aload_n (pc := 48) d_Mg_danceProblem_48 (x := a) rfl ?_
          refine r_getR (pc := 49) d_Mg_danceProblem_49 f_Mg_11 sa (Or.inr ⟨_, rfl⟩) (r := r7) er7 ?_
          refine r_iload_n (pc := 52) d_Mg_danceProblem_52 (x := p0) rfl ?_
          obtain ⟨g18, h⟩ := h
          obtain ⟨r19, er19, h⟩ := h
          refine r_aald5 (pc := 53) d_Mg_danceProblem_53 s8 g18 (r := r19) er19 ?_
          refine r_iconst (pc := 54) d_Mg_danceProblem_54 (v := 0) (by decide) ?_
          refine r_iload_n (pc := 55) d_Mg_danceProblem_55 (x := p1) rfl ?_
          refine r_iconst (pc := 56) d_Mg_danceProblem_56 (v := 1) (by decide) ?_
          refine r_ldc2 (pc := 57) d_Mg_danceProblem_57 cl_Mg_386 ?_
          refine r_aload_n (pc := 60) d_Mg_danceProblem_60 (x := a) rfl ?_
          obtain ⟨r20, er20, h⟩ := h
          refine r_getR (pc := 61) d_Mg_danceProblem_61 f_Mg_30 sa (Or.inl ⟨_, rfl⟩) (r := r20) er20 ?_
          obtain ⟨s21, h⟩ := h
          refine r_callV (pc := 64) (k := r20) (As := []) (rest := [.long 2, .int 1, .int p1, .int 0, .ref r19]) (mc' := 0) (ms' := 0) lk_Mg_191 in_Gr_gaps se_Gr_gaps s21 rfl d_Mg_danceProblem_64 k_Gr_gaps rfl rfl (Nat.le_of_ble_eq_true rfl) (by decide) (by decide) (Sp.mono h ?_)
          rintro rS22 shS22 S22 ⟨qS22, x23, uS22, h⟩
          subst uS22
          rw [qS22]
          refine r_i2l (pc := 67) d_Mg_danceProblem_67 ?_
          refine r_lmul (pc := 68) d_Mg_danceProblem_68 ?_
          obtain ⟨s24, h⟩ := h
          refine r_callV (pc := 69) (k := r19) (As := [.int 0, .int p1, .int 1, .long ((2 : Int64) * x23.toInt64)]) (rest := []) (mc' := 0) (ms' := 0) lk_Mg_388 in_Tr_areBelow se_Tr_areBelow s24 rfl d_Mg_danceProblem_69 k_Tr_areBelow rfl rfl (Nat.le_of_ble_eq_true rfl) (by decide) (by decide) (Sp.mono h ?_)
          rintro rS25 shS25 S25 ⟨qS25, x26, uS25, h⟩
          subst uS25
          rw [qS25]
          refine r_if_eq (pc := 72) d_Mg_danceProblem_72 (tgt := 79) (by decide) (fun c27 => ?_) (fun c27 => ?_)
          · replace h := h.1 c27
            refine r_iconst (pc := 79) d_Mg_danceProblem_79 (v := 5) (by decide) ?_
            exact r_ireturn (pc := 80) d_Mg_danceProblem_80 rfl rfl (Nat.le_refl _) ⟨rfl, _, rfl, h⟩
          · replace h := h.2 c27
            refine r_iconst (pc := 75) d_Mg_danceProblem_75 (v := 0) (by decide) ?_
            refine r_goto (pc := 76) d_Mg_danceProblem_76 (tgt := 80) (by decide) ?_
            exact r_ireturn (pc := 80) d_Mg_danceProblem_80 rfl rfl (Nat.le_refl _) ⟨rfl, _, rfl, h⟩
        · replace h := h.2 c17
          refine r_iconst (pc := 46) d_Mg_danceProblem_46 (v := 3) (by decide) ?_
          exact r_ireturn (pc := 47) d_Mg_danceProblem_47 rfl rfl (Nat.le_refl _) ⟨rfl, _, rfl, h⟩
      · replace h := h.2 c13
        refine r_iconst (pc := 31) d_Mg_danceProblem_31 (v := 2) (by decide) ?_
        exact r_ireturn (pc := 32) d_Mg_danceProblem_32 rfl rfl (Nat.le_refl _) ⟨rfl, _, rfl, h⟩
    · replace h := h.2 c6
      refine r_iconst (pc := 17) d_Mg_danceProblem_17 (v := 1) (by decide) ?_
      exact r_ireturn (pc := 18) d_Mg_danceProblem_18 rfl rfl (Nat.le_refl _) ⟨rfl, _, rfl, h⟩
set_option maxRecDepth 4000 in
theorem e_Mg_passesApart {l : Launch} {d : Nat} {sh : aw_SH} {S : aw_S} {P : Int32 → aw_S → Prop} {a : Nat} {p0 : Nat} {p1 : Int32} {p2 : Int32} (sa : sh[a]? = some (0, 0)) (h : ∃ r1, S.2.2 a 17 = some r1 ∧ sh[r1]? = some (0, 3) ∧ ∃ r3, (aw_uI S r1 1 0).2.2 a 6 = some r3 ∧ sh[r3]? = some (0, 2) ∧ ∃ r5, (aw_uI S r1 1 0).2.2 r3 10 = some r5 ∧ sh[r5]? = some (0, 3) ∧ AW l m_Mg_passesApart (d + 1) 0 0 (gI sh P) 0 0 22 [.ref a, .ref p0, .int p1, .int p2, .int (((aw_uI S r1 1 0).1 r5 1) - (1 : Int32)), .null, .null, .null, .null] [] sh (aw_uI S r1 1 0)) : Sp l m_Mg_passesApart (d + 1) 0 0 [.ref a, .ref p0, .int p1, .int p2] sh S (gI sh P) := by
  refine Sp.of k_Mg_passesApart (ls := [.ref a, .ref p0, .int p1, .int p2, .null, .null, .null, .null, .null]) rfl (Nat.le_of_ble_eq_true rfl) ?_
  refine r_aload_n (pc := 0) d_Mg_passesApart_0 (x := a) rfl ?_
  obtain ⟨r1, er1, h⟩ := h
  refine r_getR (pc := 1) d_Mg_passesApart_1 f_Mg_85 sa (Or.inl ⟨_, rfl⟩) (r := r1) er1 ?_
  refine r_iconst (pc := 4) d_Mg_passesApart_4 (v := 0) (by decide) ?_
  obtain ⟨s2, h⟩ := h
  refine r_putI (pc := 5) d_Mg_passesApart_5 f_Mg_198 s2 rfl ?_
  refine r_aload_n (pc := 8) d_Mg_passesApart_8 (x := a) rfl ?_
  obtain ⟨r3, er3, h⟩ := h
  refine r_getR (pc := 9) d_Mg_passesApart_9 f_Mg_30 sa (Or.inl ⟨_, rfl⟩) (r := r3) er3 ?_
  obtain ⟨s4, h⟩ := h
  obtain ⟨r5, er5, h⟩ := h
  refine r_getR (pc := 12) d_Mg_passesApart_12 f_Mg_195 s4 (Or.inl ⟨_, rfl⟩) (r := r5) er5 ?_
  obtain ⟨s6, h⟩ := h
  refine r_getI (pc := 15) d_Mg_passesApart_15 f_Mg_198 s6 rfl ?_
  refine r_iconst (pc := 18) d_Mg_passesApart_18 (v := 1) (by decide) ?_
  refine r_isub (pc := 19) d_Mg_passesApart_19 ?_
  refine r_istore (pc := 20) (hd := d_Mg_passesApart_20) (hi := by decide) (ls2 := [.ref a, .ref p0, .int p1, .int p2, .int (((aw_uI S r1 1 0).1 r5 1) - (1 : Int32)), .null, .null, .null, .null]) (h2 := rfl) ?_
  exact h
set_option maxRecDepth 4000 in
theorem s_Mg_passesApart_22 {l : Launch} {d : Nat} {sh : aw_SH} {S : aw_S} {P : Int32 → aw_S → Prop} {a : Nat} {i1 : Nat} {i2 : Int32} {i3 : Int32} {i4 : Int32} (sa : sh[a]? = some (0, 0)) (h : ((i4 < 0 → AW l m_Mg_passesApart (d + 1) 0 0 (gI sh P) 0 0 74 [.ref a, .ref i1, .int i2, .int i3, .int 0, .null, .null, .null, .null] [] sh S) ∧ (¬ i4 < 0 → ∃ r2, S.2.2 a 17 = some r2 ∧ ∃ r3, S.2.2 a 6 = some r3 ∧ sh[r3]? = some (0, 2) ∧ ∃ r5, S.2.2 r3 10 = some r5 ∧ sh[r5]? = some (0, 3) ∧ Sp l m_Pl_gapAt d 0 0 [.ref r5, .int i4] sh S (gI sh (fun x8 S7 => ∃ r9, S7.2.2 a 6 = some r9 ∧ sh[r9]? = some (0, 2) ∧ ∃ r11, S7.2.2 r9 10 = some r11 ∧ sh[r11]? = some (0, 3) ∧ Sp l m_Pl_overAt d 0 0 [.ref r11, .int i4] sh S7 (gI sh (fun x14 S13 => Sp l m_Pl_packed d 0 0 [.int x8, .int ((1 : Int32) - x14), .int 0, .int 0] sh S13 (gI sh (fun x16 S15 => sh[r2]? = some (0, 3) ∧ Sp l m_Pl_add d 0 0 [.ref r2, .int x16] sh S15 (gV sh (fun S18 => AW l m_Mg_passesApart (d + 1) 0 0 (gI sh P) 0 0 22 [.ref a, .ref i1, .int i2, .int i3, .int (i4 + (-1)), .null, .null, .null, .null] [] sh S18))))))))))) : AW l m_Mg_passesApart (d + 1) 0 0 (gI sh P) 0 0 22 [.ref a, .ref i1, .int i2, .int i3, .int i4, .null, .null, .null, .null] [] sh S := by
  refine r_iload (pc := 22) d_Mg_passesApart_22 (x := i4) rfl ?_
  refine r_if_lt (pc := 24) d_Mg_passesApart_24 (tgt := 71) (by decide) (fun c1 => ?_) (fun c1 => ?_)
  · replace h := h.1 c1
    refine r_iconst (pc := 71) d_Mg_passesApart_71 (v := 0) (by decide) ?_
    refine r_istore (pc := 72) (hd := d_Mg_passesApart_72) (hi := by decide) (ls2 := [.ref a, .ref i1, .int i2, .int i3, .int 0, .null, .null, .null, .null]) (h2 := rfl) ?_
    exact h
  · replace h := h.2 c1
    refine r_aload_n (pc := 27) d_Mg_passesApart_27 (x := a) rfl ?_
    obtain ⟨r2, er2, h⟩ := h
    refine r_getR (pc := 28) d_Mg_passesApart_28 f_Mg_85 sa (Or.inl ⟨_, rfl⟩) (r := r2) er2 ?_
    refine r_aload_n (pc := 31) d_Mg_passesApart_31 (x := a) rfl ?_
    obtain ⟨r3, er3, h⟩ := h
    refine r_getR (pc := 32) d_Mg_passesApart_32 f_Mg_30 sa (Or.inl ⟨_, rfl⟩) (r := r3) er3 ?_
    obtain ⟨s4, h⟩ := h
    obtain ⟨r5, er5, h⟩ := h
    refine r_getR (pc := 35) d_Mg_passesApart_35 f_Mg_195 s4 (Or.inl ⟨_, rfl⟩) (r := r5) er5 ?_
    refine r_iload (pc := 38) d_Mg_passesApart_38 (x := i4) rfl ?_
    obtain ⟨s6, h⟩ := h
    refine r_callV (pc := 40) (k := r5) (As := [.int i4]) (rest := [.ref r2]) (mc' := 0) (ms' := 0) lk_Mg_249 in_Pl_gapAt se_Pl_gapAt s6 rfl d_Mg_passesApart_40 k_Pl_gapAt rfl rfl (Nat.le_of_ble_eq_true rfl) (by decide) (by decide) (Sp.mono h ?_)
    rintro rS7 shS7 S7 ⟨qS7, x8, uS7, h⟩
    subst uS7
    rw [qS7]
    refine r_iconst (pc := 43) d_Mg_passesApart_43 (v := 1) (by decide) ?_
    refine r_aload_n (pc := 44) d_Mg_passesApart_44 (x := a) rfl ?_
    obtain ⟨r9, er9, h⟩ := h
    refine r_getR (pc := 45) d_Mg_passesApart_45 f_Mg_30 sa (Or.inl ⟨_, rfl⟩) (r := r9) er9 ?_
    obtain ⟨s10, h⟩ := h
    obtain ⟨r11, er11, h⟩ := h
    refine r_getR (pc := 48) d_Mg_passesApart_48 f_Mg_195 s10 (Or.inl ⟨_, rfl⟩) (r := r11) er11 ?_
    refine r_iload (pc := 51) d_Mg_passesApart_51 (x := i4) rfl ?_
    obtain ⟨s12, h⟩ := h
    refine r_callV (pc := 53) (k := r11) (As := [.int i4]) (rest := [.int 1, .int x8, .ref r2]) (mc' := 0) (ms' := 0) lk_Mg_252 in_Pl_overAt se_Pl_overAt s12 rfl d_Mg_passesApart_53 k_Pl_overAt rfl rfl (Nat.le_of_ble_eq_true rfl) (by decide) (by decide) (Sp.mono h ?_)
    rintro rS13 shS13 S13 ⟨qS13, x14, uS13, h⟩
    subst uS13
    rw [qS13]
    refine r_isub (pc := 56) d_Mg_passesApart_56 ?_
    refine r_iconst (pc := 57) d_Mg_passesApart_57 (v := 0) (by decide) ?_
    refine r_iconst (pc := 58) d_Mg_passesApart_58 (v := 0) (by decide) ?_
    refine r_callS (pc := 59) (k := 0) (As := [.int x8, .int ((1 : Int32) - x14), .int 0, .int 0]) (rest := [.ref r2]) (mc' := 0) (ms' := 0) lk_Mg_396 st_Pl_packed d_Mg_passesApart_59 k_Pl_packed rfl rfl (Nat.le_of_ble_eq_true rfl) (by decide) (by decide) (Sp.mono h ?_)
    rintro rS15 shS15 S15 ⟨qS15, x16, uS15, h⟩
    subst uS15
    rw [qS15]
    obtain ⟨s17, h⟩ := h
    refine r_callV (pc := 62) (k := r2) (As := [.int x16]) (rest := []) (mc' := 0) (ms' := 0) lk_Mg_400 in_Pl_add se_Pl_add s17 rfl d_Mg_passesApart_62 k_Pl_add rfl rfl (Nat.le_of_ble_eq_true rfl) (by decide) (by decide) (Sp.mono h ?_)
    rintro rS18 shS18 S18 ⟨qS18, uS18, h⟩
    subst uS18
    rw [qS18]
    refine r_iinc (pc := 65) d_Mg_passesApart_65 (hi := by decide) (x := i4) rfl (v := i4 + (-1)) rfl (ls2 := [.ref a, .ref i1, .int i2, .int i3, .int (i4 + (-1)), .null, .null, .null, .null]) rfl ?_
    refine r_goto (pc := 68) d_Mg_passesApart_68 (tgt := 22) (by decide) ?_
    exact h
set_option maxRecDepth 4000 in
theorem s_Mg_passesApart_74 {l : Launch} {d : Nat} {sh : aw_SH} {S : aw_S} {P : Int32 → aw_S → Prop} {a : Nat} {i1 : Nat} {i2 : Int32} {i3 : Int32} {i4 : Int32} (sa : sh[a]? = some (0, 0)) (h : ((i2 ≤ i4 → ∃ r2, S.2.2 a 17 = some r2 ∧ sh[r2]? = some (0, 3) ∧ P (S.1 r2 1) S) ∧ (¬ i2 ≤ i4 → sh[i1]? = some (0, 1) ∧ ∃ r5, S.2.2 i1 0 = some r5 ∧ ∃ n7, sh[r5]? = some (4, n7) ∧ vp_in i4 n7 ∧ ∀ v9 : Int32, v9 = ((S.2.1 r5 i4.toNatClampNeg).toInt32) >>> ((1 : Int32) &&& 31) → ((¬ i4 = i3 → ∃ r11, S.2.2 a 17 = some r11 ∧ ∃ r12, S.2.2 a 6 = some r12 ∧ sh[r12]? = some (0, 2) ∧ Sp l m_Gr_touching d 0 0 [.ref r12, .int v9] sh S (gI sh (fun x15 S14 => sh[r11]? = some (0, 3) ∧ Sp l m_Pl_undoneBy d 0 0 [.ref r11, .int v9, .int (((S.2.1 r5 i4.toNatClampNeg).toInt32) &&& (1 : Int32)), .int x15] sh S14 (gI sh (fun x18 S17 => ((¬ x18 = (-1) → ∃ r20, S17.2.2 a 17 = some r20 ∧ sh[r20]? = some (0, 3) ∧ Sp l m_Pl_remove d 0 0 [.ref r20, .int x18] sh S17 (gV sh (fun S22 => AW l m_Mg_passesApart (d + 1) 0 0 (gI sh P) 0 0 74 [.ref a, .ref i1, .int i2, .int i3, .int (i4 + 1), .null, .null, .null, .null] [] sh S22))) ∧ (x18 = (-1) → ∃ r23, S17.2.2 a 17 = some r23 ∧ Sp l m_Pl_packed d 0 0 [.int v9, .int (((S.2.1 r5 i4.toNatClampNeg).toInt32) &&& (1 : Int32)), .int 0, .int 0] sh S17 (gI sh (fun x25 S24 => sh[r23]? = some (0, 3) ∧ Sp l m_Pl_add d 0 0 [.ref r23, .int x25] sh S24 (gV sh (fun S27 => AW l m_Mg_passesApart (d + 1) 0 0 (gI sh P) 0 0 74 [.ref a, .ref i1, .int i2, .int i3, .int (i4 + 1), .null, .null, .null, .null] [] sh S27))))))))))) ∧ (i4 = i3 → ∀ v28 : Int32, v28 = (1 : Int32) - (((S.2.1 r5 i4.toNatClampNeg).toInt32) &&& (1 : Int32)) → ∃ r29, S.2.2 a 17 = some r29 ∧ ∃ r30, S.2.2 a 6 = some r30 ∧ sh[r30]? = some (0, 2) ∧ Sp l m_Gr_touching d 0 0 [.ref r30, .int v9] sh S (gI sh (fun x33 S32 => sh[r29]? = some (0, 3) ∧ Sp l m_Pl_undoneBy d 0 0 [.ref r29, .int v9, .int v28, .int x33] sh S32 (gI sh (fun x36 S35 => ((¬ x36 = (-1) → ∃ r38, S35.2.2 a 17 = some r38 ∧ sh[r38]? = some (0, 3) ∧ Sp l m_Pl_remove d 0 0 [.ref r38, .int x36] sh S35 (gV sh (fun S40 => AW l m_Mg_passesApart (d + 1) 0 0 (gI sh P) 0 0 74 [.ref a, .ref i1, .int i2, .int i3, .int (i4 + 1), .null, .null, .null, .null] [] sh S40))) ∧ (x36 = (-1) → ∃ r41, S35.2.2 a 17 = some r41 ∧ Sp l m_Pl_packed d 0 0 [.int v9, .int v28, .int 0, .int 0] sh S35 (gI sh (fun x43 S42 => sh[r41]? = some (0, 3) ∧ Sp l m_Pl_add d 0 0 [.ref r41, .int x43] sh S42 (gV sh (fun S45 => AW l m_Mg_passesApart (d + 1) 0 0 (gI sh P) 0 0 74 [.ref a, .ref i1, .int i2, .int i3, .int (i4 + 1), .null, .null, .null, .null] [] sh S45))))))))))))))) : AW l m_Mg_passesApart (d + 1) 0 0 (gI sh P) 0 0 74 [.ref a, .ref i1, .int i2, .int i3, .int i4, .null, .null, .null, .null] [] sh S := by
  refine r_iload (pc := 74) d_Mg_passesApart_74 (x := i4) rfl ?_
  refine r_iload_n (pc := 76) d_Mg_passesApart_76 (x := i2) rfl ?_
  refine r_icmp_ge (pc := 77) d_Mg_passesApart_77 (tgt := 179) (by decide) (fun c1 => ?_) (fun c1 => ?_)
  · replace h := h.1 c1
    refine r_aload_n (pc := 179) d_Mg_passesApart_179 (x := a) rfl ?_
    obtain ⟨r2, er2, h⟩ := h
    refine r_getR (pc := 180) d_Mg_passesApart_180 f_Mg_85 sa (Or.inl ⟨_, rfl⟩) (r := r2) er2 ?_
    obtain ⟨s3, h⟩ := h
    refine r_getI (pc := 183) d_Mg_passesApart_183 f_Mg_198 s3 rfl ?_
    exact r_ireturn (pc := 186) d_Mg_passesApart_186 rfl rfl (Nat.le_refl _) ⟨rfl, _, rfl, h⟩
  · replace h := h.2 c1
    refine r_aload_n (pc := 80) d_Mg_passesApart_80 (x := i1) rfl ?_
    obtain ⟨s4, h⟩ := h
    obtain ⟨r5, er5, h⟩ := h
    refine r_getR (pc := 81) d_Mg_passesApart_81 f_Mg_137 s4 (Or.inr ⟨_, rfl⟩) (r := r5) er5 ?_
    refine r_iload (pc := 84) d_Mg_passesApart_84 (x := i4) rfl ?_
    obtain ⟨n7, s6, h⟩ := h
    obtain ⟨g8, h⟩ := h
    refine r_lald (pc := 86) d_Mg_passesApart_86 s6 g8 ?_
    refine r_l2i (pc := 87) d_Mg_passesApart_87 ?_
    refine r_istore (pc := 88) (hd := d_Mg_passesApart_88) (hi := by decide) (ls2 := [.ref a, .ref i1, .int i2, .int i3, .int i4, .int ((S.2.1 r5 i4.toNatClampNeg).toInt32), .null, .null, .null]) (h2 := rfl) ?_
    refine r_iload (pc := 90) d_Mg_passesApart_90 (x := ((S.2.1 r5 i4.toNatClampNeg).toInt32)) rfl ?_
    refine r_iconst (pc := 92) d_Mg_passesApart_92 (v := 1) (by decide) ?_
    refine r_ishr (pc := 93) d_Mg_passesApart_93 ?_
    refine r_ni (fun v9 ev9 => ?_)
    replace h := h v9 ev9
    refine r_istore (pc := 94) (hd := d_Mg_passesApart_94) (hi := by decide) (ls2 := [.ref a, .ref i1, .int i2, .int i3, .int i4, .int ((S.2.1 r5 i4.toNatClampNeg).toInt32), .int v9, .null, .null]) (h2 := rfl) ?_
    refine r_iload (pc := 96) d_Mg_passesApart_96 (x := i4) rfl ?_
    refine r_iload_n (pc := 98) d_Mg_passesApart_98 (x := i3) rfl ?_
    refine r_icmp_ne (pc := 99) d_Mg_passesApart_99 (tgt := 111) (by decide) (fun c10 => ?_) (fun c10 => ?_)
    · replace h := h.1 c10
      refine r_iload (pc := 111) d_Mg_passesApart_111 (x := ((S.2.1 r5 i4.toNatClampNeg).toInt32)) rfl ?_
      refine r_iconst (pc := 113) d_Mg_passesApart_113 (v := 1) (by decide) ?_
      refine r_iand (pc := 114) d_Mg_passesApart_114 ?_
      refine r_istore (pc := 115) (hd := d_Mg_passesApart_115) (hi := by decide) (ls2 := [.ref a, .ref i1, .int i2, .int i3, .int i4, .int ((S.2.1 r5 i4.toNatClampNeg).toInt32), .int v9, .int (((S.2.1 r5 i4.toNatClampNeg).toInt32) &&& (1 : Int32)), .null]) (h2 := rfl) ?_
      refine r_aload_n (pc := 117) d_Mg_passesApart_117 (x := a) rfl ?_
      obtain ⟨r11, er11, h⟩ := h
      refine r_getR (pc := 118) d_Mg_passesApart_118 f_Mg_85 sa (Or.inl ⟨_, rfl⟩) (r := r11) er11 ?_
      refine r_iload (pc := 121) d_Mg_passesApart_121 (x := v9) rfl ?_
      refine r_iload (pc := 123) d_Mg_passesApart_123 (x := (((S.2.1 r5 i4.toNatClampNeg).toInt32) &&& (1 : Int32))) rfl ?_
      refine r_aload_n (pc := 125) d_Mg_passesApart_125 (x := a) rfl ?_
      obtain ⟨r12, er12, h⟩ := h
      refine r_getR (pc := 126) d_Mg_passesApart_126 f_Mg_30 sa (Or.inl ⟨_, rfl⟩) (r := r12) er12 ?_
      refine r_iload (pc := 129) d_Mg_passesApart_129 (x := v9) rfl ?_
      obtain ⟨s13, h⟩ := h
      refine r_callV (pc := 131) (k := r12) (As := [.int v9]) (rest := [.int (((S.2.1 r5 i4.toNatClampNeg).toInt32) &&& (1 : Int32)), .int v9, .ref r11]) (mc' := 0) (ms' := 0) lk_Mg_403 in_Gr_touching se_Gr_touching s13 rfl d_Mg_passesApart_131 k_Gr_touching rfl rfl (Nat.le_of_ble_eq_true rfl) (by decide) (by decide) (Sp.mono h ?_)
      rintro rS14 shS14 S14 ⟨qS14, x15, uS14, h⟩
      subst uS14
      rw [qS14]
      obtain ⟨s16, h⟩ := h
      refine r_callV (pc := 134) (k := r11) (As := [.int v9, .int (((S.2.1 r5 i4.toNatClampNeg).toInt32) &&& (1 : Int32)), .int x15]) (rest := []) (mc' := 0) (ms' := 0) lk_Mg_406 in_Pl_undoneBy se_Pl_undoneBy s16 rfl d_Mg_passesApart_134 k_Pl_undoneBy rfl rfl (Nat.le_of_ble_eq_true rfl) (by decide) (by decide) (Sp.mono h ?_)
      rintro rS17 shS17 S17 ⟨qS17, x18, uS17, h⟩
      subst uS17
      rw [qS17]
      refine r_istore (pc := 137) (hd := d_Mg_passesApart_137) (hi := by decide) (ls2 := [.ref a, .ref i1, .int i2, .int i3, .int i4, .int ((S.2.1 r5 i4.toNatClampNeg).toInt32), .int v9, .int (((S.2.1 r5 i4.toNatClampNeg).toInt32) &&& (1 : Int32)), .int x18]) (h2 := rfl) ?_
      refine r_iload (pc := 139) d_Mg_passesApart_139 (x := x18) rfl ?_
      refine r_iconst (pc := 141) d_Mg_passesApart_141 (v := (-1)) (by decide) ?_
      refine r_icmp_ne (pc := 142) d_Mg_passesApart_142 (tgt := 164) (by decide) (fun c19 => ?_) (fun c19 => ?_)
      · replace h := h.1 c19
        refine r_aload_n (pc := 164) d_Mg_passesApart_164 (x := a) rfl ?_
        obtain ⟨r20, er20, h⟩ := h
        refine r_getR (pc := 165) d_Mg_passesApart_165 f_Mg_85 sa (Or.inl ⟨_, rfl⟩) (r := r20) er20 ?_
        refine r_iload (pc := 168) d_Mg_passesApart_168 (x := x18) rfl ?_
        obtain ⟨s21, h⟩ := h
        refine r_callV (pc := 170) (k := r20) (As := [.int x18]) (rest := []) (mc' := 0) (ms' := 0) lk_Mg_409 in_Pl_remove se_Pl_remove s21 rfl d_Mg_passesApart_170 k_Pl_remove rfl rfl (Nat.le_of_ble_eq_true rfl) (by decide) (by decide) (Sp.mono h ?_)
        rintro rS22 shS22 S22 ⟨qS22, uS22, h⟩
        subst uS22
        rw [qS22]
        refine r_iinc (pc := 173) d_Mg_passesApart_173 (hi := by decide) (x := i4) rfl (v := i4 + 1) rfl (ls2 := [.ref a, .ref i1, .int i2, .int i3, .int (i4 + 1), .int ((S.2.1 r5 i4.toNatClampNeg).toInt32), .int v9, .int (((S.2.1 r5 i4.toNatClampNeg).toInt32) &&& (1 : Int32)), .int x18]) rfl ?_
        refine r_goto (pc := 176) d_Mg_passesApart_176 (tgt := 74) (by decide) ?_
        exact r_weak (ls2 := [.ref a, .ref i1, .int i2, .int i3, .int (i4 + 1), .null, .null, .null, .null]) ⟨Or.inr rfl, Or.inr rfl, Or.inr rfl, Or.inr rfl, Or.inr rfl, Or.inl rfl, Or.inl rfl, Or.inl rfl, Or.inl rfl, trivial⟩ h
      · replace h := h.2 c19
        refine r_aload_n (pc := 145) d_Mg_passesApart_145 (x := a) rfl ?_
        obtain ⟨r23, er23, h⟩ := h
        refine r_getR (pc := 146) d_Mg_passesApart_146 f_Mg_85 sa (Or.inl ⟨_, rfl⟩) (r := r23) er23 ?_
        refine r_iload (pc := 149) d_Mg_passesApart_149 (x := v9) rfl ?_
        refine r_iload (pc := 151) d_Mg_passesApart_151 (x := (((S.2.1 r5 i4.toNatClampNeg).toInt32) &&& (1 : Int32))) rfl ?_
        refine r_iconst (pc := 153) d_Mg_passesApart_153 (v := 0) (by decide) ?_
        refine r_iconst (pc := 154) d_Mg_passesApart_154 (v := 0) (by decide) ?_
        refine r_callS (pc := 155) (k := 0) (As := [.int v9, .int (((S.2.1 r5 i4.toNatClampNeg).toInt32) &&& (1 : Int32)), .int 0, .int 0]) (rest := [.ref r23]) (mc' := 0) (ms' := 0) lk_Mg_396 st_Pl_packed d_Mg_passesApart_155 k_Pl_packed rfl rfl (Nat.le_of_ble_eq_true rfl) (by decide) (by decide) (Sp.mono h ?_)
        rintro rS24 shS24 S24 ⟨qS24, x25, uS24, h⟩
        subst uS24
        rw [qS24]
        obtain ⟨s26, h⟩ := h
        refine r_callV (pc := 158) (k := r23) (As := [.int x25]) (rest := []) (mc' := 0) (ms' := 0) lk_Mg_400 in_Pl_add se_Pl_add s26 rfl d_Mg_passesApart_158 k_Pl_add rfl rfl (Nat.le_of_ble_eq_true rfl) (by decide) (by decide) (Sp.mono h ?_)
        rintro rS27 shS27 S27 ⟨qS27, uS27, h⟩
        subst uS27
        rw [qS27]
        refine r_goto (pc := 161) d_Mg_passesApart_161 (tgt := 173) (by decide) ?_
        refine r_iinc (pc := 173) d_Mg_passesApart_173 (hi := by decide) (x := i4) rfl (v := i4 + 1) rfl (ls2 := [.ref a, .ref i1, .int i2, .int i3, .int (i4 + 1), .int ((S.2.1 r5 i4.toNatClampNeg).toInt32), .int v9, .int (((S.2.1 r5 i4.toNatClampNeg).toInt32) &&& (1 : Int32)), .int x18]) rfl ?_
        refine r_goto (pc := 176) d_Mg_passesApart_176 (tgt := 74) (by decide) ?_
        exact r_weak (ls2 := [.ref a, .ref i1, .int i2, .int i3, .int (i4 + 1), .null, .null, .null, .null]) ⟨Or.inr rfl, Or.inr rfl, Or.inr rfl, Or.inr rfl, Or.inr rfl, Or.inl rfl, Or.inl rfl, Or.inl rfl, Or.inl rfl, trivial⟩ h
    · replace h := h.2 c10
      refine r_iconst (pc := 102) d_Mg_passesApart_102 (v := 1) (by decide) ?_
      refine r_iload (pc := 103) d_Mg_passesApart_103 (x := ((S.2.1 r5 i4.toNatClampNeg).toInt32)) rfl ?_
      refine r_iconst (pc := 105) d_Mg_passesApart_105 (v := 1) (by decide) ?_
      refine r_iand (pc := 106) d_Mg_passesApart_106 ?_
      refine r_isub (pc := 107) d_Mg_passesApart_107 ?_
      refine r_goto (pc := 108) d_Mg_passesApart_108 (tgt := 115) (by decide) ?_
      refine r_ni (fun v28 ev28 => ?_)
      replace h := h v28 ev28
      refine r_istore (pc := 115) (hd := d_Mg_passesApart_115) (hi := by decide) (ls2 := [.ref a, .ref i1, .int i2, .int i3, .int i4, .int ((S.2.1 r5 i4.toNatClampNeg).toInt32), .int v9, .int v28, .null]) (h2 := rfl) ?_
      refine r_aload_n (pc := 117) d_Mg_passesApart_117 (x := a) rfl ?_
      obtain ⟨r29, er29, h⟩ := h
      refine r_getR (pc := 118) d_Mg_passesApart_118 f_Mg_85 sa (Or.inl ⟨_, rfl⟩) (r := r29) er29 ?_
      refine r_iload (pc := 121) d_Mg_passesApart_121 (x := v9) rfl ?_
      refine r_iload (pc := 123) d_Mg_passesApart_123 (x := v28) rfl ?_
      refine r_aload_n (pc := 125) d_Mg_passesApart_125 (x := a) rfl ?_
      obtain ⟨r30, er30, h⟩ := h
      refine r_getR (pc := 126) d_Mg_passesApart_126 f_Mg_30 sa (Or.inl ⟨_, rfl⟩) (r := r30) er30 ?_
      refine r_iload (pc := 129) d_Mg_passesApart_129 (x := v9) rfl ?_
      obtain ⟨s31, h⟩ := h
      refine r_callV (pc := 131) (k := r30) (As := [.int v9]) (rest := [.int v28, .int v9, .ref r29]) (mc' := 0) (ms' := 0) lk_Mg_403 in_Gr_touching se_Gr_touching s31 rfl d_Mg_passesApart_131 k_Gr_touching rfl rfl (Nat.le_of_ble_eq_true rfl) (by decide) (by decide) (Sp.mono h ?_)
      rintro rS32 shS32 S32 ⟨qS32, x33, uS32, h⟩
      subst uS32
      rw [qS32]
      obtain ⟨s34, h⟩ := h
      refine r_callV (pc := 134) (k := r29) (As := [.int v9, .int v28, .int x33]) (rest := []) (mc' := 0) (ms' := 0) lk_Mg_406 in_Pl_undoneBy se_Pl_undoneBy s34 rfl d_Mg_passesApart_134 k_Pl_undoneBy rfl rfl (Nat.le_of_ble_eq_true rfl) (by decide) (by decide) (Sp.mono h ?_)
      rintro rS35 shS35 S35 ⟨qS35, x36, uS35, h⟩
      subst uS35
      rw [qS35]
      refine r_istore (pc := 137) (hd := d_Mg_passesApart_137) (hi := by decide) (ls2 := [.ref a, .ref i1, .int i2, .int i3, .int i4, .int ((S.2.1 r5 i4.toNatClampNeg).toInt32), .int v9, .int v28, .int x36]) (h2 := rfl) ?_
      refine r_iload (pc := 139) d_Mg_passesApart_139 (x := x36) rfl ?_
      refine r_iconst (pc := 141) d_Mg_passesApart_141 (v := (-1)) (by decide) ?_
      refine r_icmp_ne (pc := 142) d_Mg_passesApart_142 (tgt := 164) (by decide) (fun c37 => ?_) (fun c37 => ?_)
      · replace h := h.1 c37
        refine r_aload_n (pc := 164) d_Mg_passesApart_164 (x := a) rfl ?_
        obtain ⟨r38, er38, h⟩ := h
        refine r_getR (pc := 165) d_Mg_passesApart_165 f_Mg_85 sa (Or.inl ⟨_, rfl⟩) (r := r38) er38 ?_
        refine r_iload (pc := 168) d_Mg_passesApart_168 (x := x36) rfl ?_
        obtain ⟨s39, h⟩ := h
        refine r_callV (pc := 170) (k := r38) (As := [.int x36]) (rest := []) (mc' := 0) (ms' := 0) lk_Mg_409 in_Pl_remove se_Pl_remove s39 rfl d_Mg_passesApart_170 k_Pl_remove rfl rfl (Nat.le_of_ble_eq_true rfl) (by decide) (by decide) (Sp.mono h ?_)
        rintro rS40 shS40 S40 ⟨qS40, uS40, h⟩
        subst uS40
        rw [qS40]
        refine r_iinc (pc := 173) d_Mg_passesApart_173 (hi := by decide) (x := i4) rfl (v := i4 + 1) rfl (ls2 := [.ref a, .ref i1, .int i2, .int i3, .int (i4 + 1), .int ((S.2.1 r5 i4.toNatClampNeg).toInt32), .int v9, .int v28, .int x36]) rfl ?_
        refine r_goto (pc := 176) d_Mg_passesApart_176 (tgt := 74) (by decide) ?_
        exact r_weak (ls2 := [.ref a, .ref i1, .int i2, .int i3, .int (i4 + 1), .null, .null, .null, .null]) ⟨Or.inr rfl, Or.inr rfl, Or.inr rfl, Or.inr rfl, Or.inr rfl, Or.inl rfl, Or.inl rfl, Or.inl rfl, Or.inl rfl, trivial⟩ h
      · replace h := h.2 c37
        refine r_aload_n (pc := 145) d_Mg_passesApart_145 (x := a) rfl ?_
        obtain ⟨r41, er41, h⟩ := h
        refine r_getR (pc := 146) d_Mg_passesApart_146 f_Mg_85 sa (Or.inl ⟨_, rfl⟩) (r := r41) er41 ?_
        refine r_iload (pc := 149) d_Mg_passesApart_149 (x := v9) rfl ?_
        refine r_iload (pc := 151) d_Mg_passesApart_151 (x := v28) rfl ?_
        refine r_iconst (pc := 153) d_Mg_passesApart_153 (v := 0) (by decide) ?_
        refine r_iconst (pc := 154) d_Mg_passesApart_154 (v := 0) (by decide) ?_
        refine r_callS (pc := 155) (k := 0) (As := [.int v9, .int v28, .int 0, .int 0]) (rest := [.ref r41]) (mc' := 0) (ms' := 0) lk_Mg_396 st_Pl_packed d_Mg_passesApart_155 k_Pl_packed rfl rfl (Nat.le_of_ble_eq_true rfl) (by decide) (by decide) (Sp.mono h ?_)
        rintro rS42 shS42 S42 ⟨qS42, x43, uS42, h⟩
        subst uS42
        rw [qS42]
        obtain ⟨s44, h⟩ := h
        refine r_callV (pc := 158) (k := r41) (As := [.int x43]) (rest := []) (mc' := 0) (ms' := 0) lk_Mg_400 in_Pl_add se_Pl_add s44 rfl d_Mg_passesApart_158 k_Pl_add rfl rfl (Nat.le_of_ble_eq_true rfl) (by decide) (by decide) (Sp.mono h ?_)
        rintro rS45 shS45 S45 ⟨qS45, uS45, h⟩
        subst uS45
        rw [qS45]
        refine r_goto (pc := 161) d_Mg_passesApart_161 (tgt := 173) (by decide) ?_
        refine r_iinc (pc := 173) d_Mg_passesApart_173 (hi := by decide) (x := i4) rfl (v := i4 + 1) rfl (ls2 := [.ref a, .ref i1, .int i2, .int i3, .int (i4 + 1), .int ((S.2.1 r5 i4.toNatClampNeg).toInt32), .int v9, .int v28, .int x36]) rfl ?_
        refine r_goto (pc := 176) d_Mg_passesApart_176 (tgt := 74) (by decide) ?_
        exact r_weak (ls2 := [.ref a, .ref i1, .int i2, .int i3, .int (i4 + 1), .null, .null, .null, .null]) ⟨Or.inr rfl, Or.inr rfl, Or.inr rfl, Or.inr rfl, Or.inr rfl, Or.inl rfl, Or.inl rfl, Or.inl rfl, Or.inl rfl, trivial⟩ h
set_option maxRecDepth 4000 in
theorem e_Mg_apart {l : Launch} {d : Nat} {sh : aw_SH} {S : aw_S} {P : Int32 → aw_S → Prop} {a : Nat} {p0 : Int32} {p1 : Int32} (sa : sh[a]? = some (0, 0)) (h : Sp l m_Mg_danceProblem d 0 0 [.ref a, .int p0, .int p1] sh S (gI sh (fun x2 S1 => ((¬ x2 = 0 → Sp l m_Mg_fail d 0 0 [.ref a, .int x2] sh S1 (gI sh (fun x5 S4 => P x5 S4))) ∧ (x2 = 0 → ∃ r6, S1.2.2 a 0 = some r6 ∧ ∃ n8, sh[r6]? = some (5, n8) ∧ vp_in p0 n8 ∧ ∃ r10, S1.2.2 r6 p0.toNatClampNeg = some r10 ∧ Sp l m_Mg_passesApart d 0 0 [.ref a, .ref r10, .int p1, .int (-1)] sh S1 (gI sh (fun x12 S11 => Sp l m_Mg_give d 0 0 [.ref a, .int x12] sh S11 (gI sh (fun x14 S13 => P x14 S13))))))))) : Sp l m_Mg_apart (d + 1) 0 0 [.ref a, .int p0, .int p1] sh S (gI sh P) := by
  refine Sp.of k_Mg_apart (ls := [.ref a, .int p0, .int p1, .null]) rfl (Nat.le_of_ble_eq_true rfl) ?_
  refine r_aload_n (pc := 0) d_Mg_apart_0 (x := a) rfl ?_
  refine r_iload_n (pc := 1) d_Mg_apart_1 (x := p0) rfl ?_
  refine r_iload_n (pc := 2) d_Mg_apart_2 (x := p1) rfl ?_
  refine r_callV (pc := 3) (k := a) (As := [.int p0, .int p1]) (rest := []) (mc' := 0) (ms' := 0) lk_Mg_311 in_Mg_danceProblem se_Mg_danceProblem sa rfl d_Mg_apart_3 k_Mg_danceProblem rfl rfl (Nat.le_of_ble_eq_true rfl) (by decide) (by decide) (Sp.mono h ?_)
  rintro rS1 shS1 S1 ⟨qS1, x2, uS1, h⟩
  subst uS1
  rw [qS1]
  refine r_istore_n (pc := 6) (hk := rfl) (hd := d_Mg_apart_6) (hi := by decide) (ls2 := [.ref a, .int p0, .int p1, .int x2]) (h2 := rfl) ?_
  refine r_iload_n (pc := 7) d_Mg_apart_7 (x := x2) rfl ?_
  refine r_if_ne (pc := 8) d_Mg_apart_8 (tgt := 30) (by decide) (fun c3 => ?_) (fun c3 => ?_)
  · replace h := h.1 c3
    refine r_aload_n (pc := 30) d_Mg_apart_30 (x := a) rfl ?_
    refine r_iload_n (pc := 31) d_Mg_apart_31 (x := x2) rfl ?_
    refine r_callV (pc := 32) (k := a) (As := [.int x2]) (rest := []) (mc' := 0) (ms' := 0) lk_Mg_133 in_Mg_fail se_Mg_fail sa rfl d_Mg_apart_32 k_Mg_fail rfl rfl (Nat.le_of_ble_eq_true rfl) (by decide) (by decide) (Sp.mono h ?_)
    rintro rS4 shS4 S4 ⟨qS4, x5, uS4, h⟩
    subst uS4
    rw [qS4]
    exact r_ireturn (pc := 35) d_Mg_apart_35 rfl rfl (Nat.le_refl _) ⟨rfl, _, rfl, h⟩
  · replace h := h.2 c3
    refine r_aload_n (pc := 11) d_Mg_apart_11 (x := a) rfl ?_
    refine r_aload_n (pc := 12) d_Mg_apart_12 (x := a) rfl ?_
    refine r_aload_n (pc := 13) d_Mg_apart_13 (x := a) rfl ?_
    obtain ⟨r6, er6, h⟩ := h
    refine r_getR (pc := 14) d_Mg_apart_14 f_Mg_11 sa (Or.inr ⟨_, rfl⟩) (r := r6) er6 ?_
    refine r_iload_n (pc := 17) d_Mg_apart_17 (x := p0) rfl ?_
    obtain ⟨n8, s7, h⟩ := h
    obtain ⟨g9, h⟩ := h
    obtain ⟨r10, er10, h⟩ := h
    refine r_aald5 (pc := 18) d_Mg_apart_18 s7 g9 (r := r10) er10 ?_
    refine r_iload_n (pc := 19) d_Mg_apart_19 (x := p1) rfl ?_
    refine r_iconst (pc := 20) d_Mg_apart_20 (v := (-1)) (by decide) ?_
    refine r_callV (pc := 21) (k := a) (As := [.ref r10, .int p1, .int (-1)]) (rest := [.ref a]) (mc' := 0) (ms' := 0) lk_Mg_314 in_Mg_passesApart se_Mg_passesApart sa rfl d_Mg_apart_21 k_Mg_passesApart rfl rfl (Nat.le_of_ble_eq_true rfl) (by decide) (by decide) (Sp.mono h ?_)
    rintro rS11 shS11 S11 ⟨qS11, x12, uS11, h⟩
    subst uS11
    rw [qS11]
    refine r_callV (pc := 24) (k := a) (As := [.int x12]) (rest := []) (mc' := 0) (ms' := 0) lk_Mg_174 in_Mg_give se_Mg_give sa rfl d_Mg_apart_24 k_Mg_give rfl rfl (Nat.le_of_ble_eq_true rfl) (by decide) (by decide) (Sp.mono h ?_)
    rintro rS13 shS13 S13 ⟨qS13, x14, uS13, h⟩
    subst uS13
    rw [qS13]
    refine r_goto (pc := 27) d_Mg_apart_27 (tgt := 35) (by decide) ?_
    exact r_ireturn (pc := 35) d_Mg_apart_35 rfl rfl (Nat.le_refl _) ⟨rfl, _, rfl, h⟩
set_option maxRecDepth 4000 in
theorem e_Mg_slips {l : Launch} {d : Nat} {sh : aw_SH} {S : aw_S} {P : Int32 → aw_S → Prop} {a : Nat} {p0 : Int32} {p1 : Int32} (sa : sh[a]? = some (0, 0)) (h : Sp l m_Mg_danceProblem d 0 0 [.ref a, .int p0, .int p1] sh S (gI sh (fun x2 S1 => ((x2 = 0 → AW l m_Mg_slips (d + 1) 0 0 (gI sh P) 0 0 23 [.ref a, .int p0, .int p1, .null, .int 0, .int 0] [] sh S1) ∧ (¬ x2 = 0 → Sp l m_Mg_fail d 0 0 [.ref a, .int x2] sh S1 (gI sh (fun x5 S4 => P x5 S4))))))) : Sp l m_Mg_slips (d + 1) 0 0 [.ref a, .int p0, .int p1] sh S (gI sh P) := by
  refine Sp.of k_Mg_slips (ls := [.ref a, .int p0, .int p1, .null, .null, .null]) rfl (Nat.le_of_ble_eq_true rfl) ?_
  refine r_aload_n (pc := 0) d_Mg_slips_0 (x := a) rfl ?_
  refine r_iload_n (pc := 1) d_Mg_slips_1 (x := p0) rfl ?_
  refine r_iload_n (pc := 2) d_Mg_slips_2 (x := p1) rfl ?_
  refine r_callV (pc := 3) (k := a) (As := [.int p0, .int p1]) (rest := []) (mc' := 0) (ms' := 0) lk_Mg_311 in_Mg_danceProblem se_Mg_danceProblem sa rfl d_Mg_slips_3 k_Mg_danceProblem rfl rfl (Nat.le_of_ble_eq_true rfl) (by decide) (by decide) (Sp.mono h ?_)
  rintro rS1 shS1 S1 ⟨qS1, x2, uS1, h⟩
  subst uS1
  rw [qS1]
  refine r_istore_n (pc := 6) (hk := rfl) (hd := d_Mg_slips_6) (hi := by decide) (ls2 := [.ref a, .int p0, .int p1, .int x2, .null, .null]) (h2 := rfl) ?_
  refine r_iload_n (pc := 7) d_Mg_slips_7 (x := x2) rfl ?_
  refine r_if_eq (pc := 8) d_Mg_slips_8 (tgt := 17) (by decide) (fun c3 => ?_) (fun c3 => ?_)
  · replace h := h.1 c3
    refine r_iconst (pc := 17) d_Mg_slips_17 (v := 0) (by decide) ?_
    refine r_istore (pc := 18) (hd := d_Mg_slips_18) (hi := by decide) (ls2 := [.ref a, .int p0, .int p1, .int x2, .int 0, .null]) (h2 := rfl) ?_
    refine r_iconst (pc := 20) d_Mg_slips_20 (v := 0) (by decide) ?_
    refine r_istore (pc := 21) (hd := d_Mg_slips_21) (hi := by decide) (ls2 := [.ref a, .int p0, .int p1, .int x2, .int 0, .int 0]) (h2 := rfl) ?_
    exact r_weak (ls2 := [.ref a, .int p0, .int p1, .null, .int 0, .int 0]) ⟨Or.inr rfl, Or.inr rfl, Or.inr rfl, Or.inl rfl, Or.inr rfl, Or.inr rfl, trivial⟩ h
  · replace h := h.2 c3
    refine r_aload_n (pc := 11) d_Mg_slips_11 (x := a) rfl ?_
    refine r_iload_n (pc := 12) d_Mg_slips_12 (x := x2) rfl ?_
    refine r_callV (pc := 13) (k := a) (As := [.int x2]) (rest := []) (mc' := 0) (ms' := 0) lk_Mg_133 in_Mg_fail se_Mg_fail sa rfl d_Mg_slips_13 k_Mg_fail rfl rfl (Nat.le_of_ble_eq_true rfl) (by decide) (by decide) (Sp.mono h ?_)
    rintro rS4 shS4 S4 ⟨qS4, x5, uS4, h⟩
    subst uS4
    rw [qS4]
    exact r_ireturn (pc := 16) d_Mg_slips_16 rfl rfl (Nat.le_refl _) ⟨rfl, _, rfl, h⟩
set_option maxRecDepth 4000 in
theorem s_Mg_slips_23 {l : Launch} {d : Nat} {sh : aw_SH} {S : aw_S} {P : Int32 → aw_S → Prop} {a : Nat} {i1 : Int32} {i2 : Int32} {i4 : Int32} {i5 : Int32} (sa : sh[a]? = some (0, 0)) (h : ((i2 ≤ i5 → Sp l m_Mg_give d 0 0 [.ref a, .int i4] sh S (gI sh (fun x3 S2 => P x3 S2))) ∧ (¬ i2 ≤ i5 → ∃ r4, S.2.2 a 0 = some r4 ∧ ∃ n6, sh[r4]? = some (5, n6) ∧ vp_in i1 n6 ∧ ∃ r8, S.2.2 r4 i1.toNatClampNeg = some r8 ∧ Sp l m_Mg_passesApart d 0 0 [.ref a, .ref r8, .int i2, .int i5] sh S (gI sh (fun x10 S9 => ((¬ x10 = 0 → AW l m_Mg_slips (d + 1) 0 0 (gI sh P) 0 0 23 [.ref a, .int i1, .int i2, .null, .int i4, .int (i5 + 1)] [] sh S9) ∧ (x10 = 0 → AW l m_Mg_slips (d + 1) 0 0 (gI sh P) 0 0 23 [.ref a, .int i1, .int i2, .null, .int (i4 + 1), .int (i5 + 1)] [] sh S9))))))) : AW l m_Mg_slips (d + 1) 0 0 (gI sh P) 0 0 23 [.ref a, .int i1, .int i2, .null, .int i4, .int i5] [] sh S := by
  refine r_iload (pc := 23) d_Mg_slips_23 (x := i5) rfl ?_
  refine r_iload_n (pc := 25) d_Mg_slips_25 (x := i2) rfl ?_
  refine r_icmp_ge (pc := 26) d_Mg_slips_26 (tgt := 54) (by decide) (fun c1 => ?_) (fun c1 => ?_)
  · replace h := h.1 c1
    refine r_aload_n (pc := 54) d_Mg_slips_54 (x := a) rfl ?_
    refine r_iload (pc := 55) d_Mg_slips_55 (x := i4) rfl ?_
    refine r_callV (pc := 57) (k := a) (As := [.int i4]) (rest := []) (mc' := 0) (ms' := 0) lk_Mg_174 in_Mg_give se_Mg_give sa rfl d_Mg_slips_57 k_Mg_give rfl rfl (Nat.le_of_ble_eq_true rfl) (by decide) (by decide) (Sp.mono h ?_)
    rintro rS2 shS2 S2 ⟨qS2, x3, uS2, h⟩
    subst uS2
    rw [qS2]
    exact r_ireturn (pc := 60) d_Mg_slips_60 rfl rfl (Nat.le_refl _) ⟨rfl, _, rfl, h⟩
  · replace h := h.2 c1
    refine r_aload_n (pc := 29) d_Mg_slips_29 (x := a) rfl ?_
    refine r_aload_n (pc := 30) d_Mg_slips_30 (x := a) rfl ?_
    obtain ⟨r4, er4, h⟩ := h
    refine r_getR (pc := 31) d_Mg_slips_31 f_Mg_11 sa (Or.inr ⟨_, rfl⟩) (r := r4) er4 ?_
    refine r_iload_n (pc := 34) d_Mg_slips_34 (x := i1) rfl ?_
    obtain ⟨n6, s5, h⟩ := h
    obtain ⟨g7, h⟩ := h
    obtain ⟨r8, er8, h⟩ := h
    refine r_aald5 (pc := 35) d_Mg_slips_35 s5 g7 (r := r8) er8 ?_
    refine r_iload_n (pc := 36) d_Mg_slips_36 (x := i2) rfl ?_
    refine r_iload (pc := 37) d_Mg_slips_37 (x := i5) rfl ?_
    refine r_callV (pc := 39) (k := a) (As := [.ref r8, .int i2, .int i5]) (rest := []) (mc' := 0) (ms' := 0) lk_Mg_314 in_Mg_passesApart se_Mg_passesApart sa rfl d_Mg_slips_39 k_Mg_passesApart rfl rfl (Nat.le_of_ble_eq_true rfl) (by decide) (by decide) (Sp.mono h ?_)
    rintro rS9 shS9 S9 ⟨qS9, x10, uS9, h⟩
    subst uS9
    rw [qS9]
    refine r_if_ne (pc := 42) d_Mg_slips_42 (tgt := 48) (by decide) (fun c11 => ?_) (fun c11 => ?_)
    · replace h := h.1 c11
      refine r_iinc (pc := 48) d_Mg_slips_48 (hi := by decide) (x := i5) rfl (v := i5 + 1) rfl (ls2 := [.ref a, .int i1, .int i2, .null, .int i4, .int (i5 + 1)]) rfl ?_
      refine r_goto (pc := 51) d_Mg_slips_51 (tgt := 23) (by decide) ?_
      exact h
    · replace h := h.2 c11
      refine r_iinc (pc := 45) d_Mg_slips_45 (hi := by decide) (x := i4) rfl (v := i4 + 1) rfl (ls2 := [.ref a, .int i1, .int i2, .null, .int (i4 + 1), .int i5]) rfl ?_
      refine r_iinc (pc := 48) d_Mg_slips_48 (hi := by decide) (x := i5) rfl (v := i5 + 1) rfl (ls2 := [.ref a, .int i1, .int i2, .null, .int (i4 + 1), .int (i5 + 1)]) rfl ?_
      refine r_goto (pc := 51) d_Mg_slips_51 (tgt := 23) (by decide) ?_
      exact h
set_option maxRecDepth 4000 in
theorem e_Mg_slipAt {l : Launch} {d : Nat} {sh : aw_SH} {S : aw_S} {P : Int32 → aw_S → Prop} {a : Nat} {p0 : Int32} {p1 : Int32} {p2 : Int32} (sa : sh[a]? = some (0, 0)) (h : ((0 ≤ p2 → Sp l m_Mg_danceProblem d 0 0 [.ref a, .int p0, .int p1] sh S (gI sh (fun x3 S2 => ((x3 = 0 → AW l m_Mg_slipAt (d + 1) 0 0 (gI sh P) 0 0 34 [.ref a, .int p0, .int p1, .int p2, .null, .int 0, .int 0] [] sh S2) ∧ (¬ x3 = 0 → Sp l m_Mg_fail d 0 0 [.ref a, .int x3] sh S2 (gI sh (fun x6 S5 => P x6 S5))))))) ∧ (¬ 0 ≤ p2 → Sp l m_Mg_fail d 0 0 [.ref a, .int 1] sh S (gI sh (fun x9 S8 => P x9 S8))))) : Sp l m_Mg_slipAt (d + 1) 0 0 [.ref a, .int p0, .int p1, .int p2] sh S (gI sh P) := by
  refine Sp.of k_Mg_slipAt (ls := [.ref a, .int p0, .int p1, .int p2, .null, .null, .null]) rfl (Nat.le_of_ble_eq_true rfl) ?_
  refine r_iload_n (pc := 0) d_Mg_slipAt_0 (x := p2) rfl ?_
  refine r_if_ge (pc := 1) d_Mg_slipAt_1 (tgt := 8) (by decide) (fun c1 => ?_) (fun c1 => ?_)
  · replace h := h.1 c1
    refine r_aload_n (pc := 8) d_Mg_slipAt_8 (x := a) rfl ?_
    refine r_iload_n (pc := 9) d_Mg_slipAt_9 (x := p0) rfl ?_
    refine r_iload_n (pc := 10) d_Mg_slipAt_10 (x := p1) rfl ?_
    refine r_callV (pc := 11) (k := a) (As := [.int p0, .int p1]) (rest := []) (mc' := 0) (ms' := 0) lk_Mg_311 in_Mg_danceProblem se_Mg_danceProblem sa rfl d_Mg_slipAt_11 k_Mg_danceProblem rfl rfl (Nat.le_of_ble_eq_true rfl) (by decide) (by decide) (Sp.mono h ?_)
    rintro rS2 shS2 S2 ⟨qS2, x3, uS2, h⟩
    subst uS2
    rw [qS2]
    refine r_istore (pc := 14) (hd := d_Mg_slipAt_14) (hi := by decide) (ls2 := [.ref a, .int p0, .int p1, .int p2, .int x3, .null, .null]) (h2 := rfl) ?_
    refine r_iload (pc := 16) d_Mg_slipAt_16 (x := x3) rfl ?_
    refine r_if_eq (pc := 18) d_Mg_slipAt_18 (tgt := 28) (by decide) (fun c4 => ?_) (fun c4 => ?_)
    · replace h := h.1 c4
      refine r_iconst (pc := 28) d_Mg_slipAt_28 (v := 0) (by decide) ?_
      refine r_istore (pc := 29) (hd := d_Mg_slipAt_29) (hi := by decide) (ls2 := [.ref a, .int p0, .int p1, .int p2, .int x3, .int 0, .null]) (h2 := rfl) ?_
      refine r_iconst (pc := 31) d_Mg_slipAt_31 (v := 0) (by decide) ?_
      refine r_istore (pc := 32) (hd := d_Mg_slipAt_32) (hi := by decide) (ls2 := [.ref a, .int p0, .int p1, .int p2, .int x3, .int 0, .int 0]) (h2 := rfl) ?_
      exact r_weak (ls2 := [.ref a, .int p0, .int p1, .int p2, .null, .int 0, .int 0]) ⟨Or.inr rfl, Or.inr rfl, Or.inr rfl, Or.inr rfl, Or.inl rfl, Or.inr rfl, Or.inr rfl, trivial⟩ h
    · replace h := h.2 c4
      refine r_aload_n (pc := 21) d_Mg_slipAt_21 (x := a) rfl ?_
      refine r_iload (pc := 22) d_Mg_slipAt_22 (x := x3) rfl ?_
      refine r_callV (pc := 24) (k := a) (As := [.int x3]) (rest := []) (mc' := 0) (ms' := 0) lk_Mg_133 in_Mg_fail se_Mg_fail sa rfl d_Mg_slipAt_24 k_Mg_fail rfl rfl (Nat.le_of_ble_eq_true rfl) (by decide) (by decide) (Sp.mono h ?_)
      rintro rS5 shS5 S5 ⟨qS5, x6, uS5, h⟩
      subst uS5
      rw [qS5]
      exact r_ireturn (pc := 27) d_Mg_slipAt_27 rfl rfl (Nat.le_refl _) ⟨rfl, _, rfl, h⟩
  · replace h := h.2 c1
    refine r_iconst (pc := 4) d_Mg_slipAt_4 (v := 1) (by decide) ?_
    refine r_goto (pc := 5) d_Mg_slipAt_5 (tgt := 14) (by decide) ?_
    refine r_istore (pc := 14) (hd := d_Mg_slipAt_14) (hi := by decide) (ls2 := [.ref a, .int p0, .int p1, .int p2, .int 1, .null, .null]) (h2 := rfl) ?_
    refine r_iload (pc := 16) d_Mg_slipAt_16 (x := 1) rfl ?_
    refine r_if_eq (pc := 18) d_Mg_slipAt_18 (tgt := 28) (by decide) (fun q => absurd q (by decide)) (fun _ => ?_)
    refine r_aload_n (pc := 21) d_Mg_slipAt_21 (x := a) rfl ?_
    refine r_iload (pc := 22) d_Mg_slipAt_22 (x := 1) rfl ?_
    refine r_callV (pc := 24) (k := a) (As := [.int 1]) (rest := []) (mc' := 0) (ms' := 0) lk_Mg_133 in_Mg_fail se_Mg_fail sa rfl d_Mg_slipAt_24 k_Mg_fail rfl rfl (Nat.le_of_ble_eq_true rfl) (by decide) (by decide) (Sp.mono h ?_)
    rintro rS8 shS8 S8 ⟨qS8, x9, uS8, h⟩
    subst uS8
    rw [qS8]
    exact r_ireturn (pc := 27) d_Mg_slipAt_27 rfl rfl (Nat.le_refl _) ⟨rfl, _, rfl, h⟩
set_option maxRecDepth 4000 in
theorem s_Mg_slipAt_34 {l : Launch} {d : Nat} {sh : aw_SH} {S : aw_S} {P : Int32 → aw_S → Prop} {a : Nat} {i1 : Int32} {i2 : Int32} {i3 : Int32} {i5 : Int32} {i6 : Int32} (sa : sh[a]? = some (0, 0)) (h : ((i2 ≤ i6 → Sp l m_Mg_fail d 0 0 [.ref a, .int 6] sh S (gI sh (fun x3 S2 => P x3 S2))) ∧ (¬ i2 ≤ i6 → ∃ r4, S.2.2 a 0 = some r4 ∧ ∃ n6, sh[r4]? = some (5, n6) ∧ vp_in i1 n6 ∧ ∃ r8, S.2.2 r4 i1.toNatClampNeg = some r8 ∧ Sp l m_Mg_passesApart d 0 0 [.ref a, .ref r8, .int i2, .int i6] sh S (gI sh (fun x10 S9 => ((¬ x10 = 0 → AW l m_Mg_slipAt (d + 1) 0 0 (gI sh P) 0 0 34 [.ref a, .int i1, .int i2, .int i3, .null, .int i5, .int (i6 + 1)] [] sh S9) ∧ (x10 = 0 → ((¬ i5 = i3 → AW l m_Mg_slipAt (d + 1) 0 0 (gI sh P) 0 0 34 [.ref a, .int i1, .int i2, .int i3, .null, .int (i5 + 1), .int (i6 + 1)] [] sh S9) ∧ (i5 = i3 → Sp l m_Mg_give d 0 0 [.ref a, .int i6] sh S9 (gI sh (fun x14 S13 => P x14 S13))))))))))) : AW l m_Mg_slipAt (d + 1) 0 0 (gI sh P) 0 0 34 [.ref a, .int i1, .int i2, .int i3, .null, .int i5, .int i6] [] sh S := by
  refine r_iload (pc := 34) d_Mg_slipAt_34 (x := i6) rfl ?_
  refine r_iload_n (pc := 36) d_Mg_slipAt_36 (x := i2) rfl ?_
  refine r_icmp_ge (pc := 37) d_Mg_slipAt_37 (tgt := 78) (by decide) (fun c1 => ?_) (fun c1 => ?_)
  · replace h := h.1 c1
    refine r_aload_n (pc := 78) d_Mg_slipAt_78 (x := a) rfl ?_
    refine r_bipush (pc := 79) d_Mg_slipAt_79 (v := 6) (by decide) ?_
    refine r_callV (pc := 81) (k := a) (As := [.int 6]) (rest := []) (mc' := 0) (ms' := 0) lk_Mg_133 in_Mg_fail se_Mg_fail sa rfl d_Mg_slipAt_81 k_Mg_fail rfl rfl (Nat.le_of_ble_eq_true rfl) (by decide) (by decide) (Sp.mono h ?_)
    rintro rS2 shS2 S2 ⟨qS2, x3, uS2, h⟩
    subst uS2
    rw [qS2]
    exact r_ireturn (pc := 84) d_Mg_slipAt_84 rfl rfl (Nat.le_refl _) ⟨rfl, _, rfl, h⟩
  · replace h := h.2 c1
    refine r_aload_n (pc := 40) d_Mg_slipAt_40 (x := a) rfl ?_
    refine r_aload_n (pc := 41) d_Mg_slipAt_41 (x := a) rfl ?_
    obtain ⟨r4, er4, h⟩ := h
    refine r_getR (pc := 42) d_Mg_slipAt_42 f_Mg_11 sa (Or.inr ⟨_, rfl⟩) (r := r4) er4 ?_
    refine r_iload_n (pc := 45) d_Mg_slipAt_45 (x := i1) rfl ?_
    obtain ⟨n6, s5, h⟩ := h
    obtain ⟨g7, h⟩ := h
    obtain ⟨r8, er8, h⟩ := h
    refine r_aald5 (pc := 46) d_Mg_slipAt_46 s5 g7 (r := r8) er8 ?_
    refine r_iload_n (pc := 47) d_Mg_slipAt_47 (x := i2) rfl ?_
    refine r_iload (pc := 48) d_Mg_slipAt_48 (x := i6) rfl ?_
    refine r_callV (pc := 50) (k := a) (As := [.ref r8, .int i2, .int i6]) (rest := []) (mc' := 0) (ms' := 0) lk_Mg_314 in_Mg_passesApart se_Mg_passesApart sa rfl d_Mg_slipAt_50 k_Mg_passesApart rfl rfl (Nat.le_of_ble_eq_true rfl) (by decide) (by decide) (Sp.mono h ?_)
    rintro rS9 shS9 S9 ⟨qS9, x10, uS9, h⟩
    subst uS9
    rw [qS9]
    refine r_if_ne (pc := 53) d_Mg_slipAt_53 (tgt := 72) (by decide) (fun c11 => ?_) (fun c11 => ?_)
    · replace h := h.1 c11
      refine r_iinc (pc := 72) d_Mg_slipAt_72 (hi := by decide) (x := i6) rfl (v := i6 + 1) rfl (ls2 := [.ref a, .int i1, .int i2, .int i3, .null, .int i5, .int (i6 + 1)]) rfl ?_
      refine r_goto (pc := 75) d_Mg_slipAt_75 (tgt := 34) (by decide) ?_
      exact h
    · replace h := h.2 c11
      refine r_iload (pc := 56) d_Mg_slipAt_56 (x := i5) rfl ?_
      refine r_iload_n (pc := 58) d_Mg_slipAt_58 (x := i3) rfl ?_
      refine r_icmp_ne (pc := 59) d_Mg_slipAt_59 (tgt := 69) (by decide) (fun c12 => ?_) (fun c12 => ?_)
      · replace h := h.1 c12
        refine r_iinc (pc := 69) d_Mg_slipAt_69 (hi := by decide) (x := i5) rfl (v := i5 + 1) rfl (ls2 := [.ref a, .int i1, .int i2, .int i3, .null, .int (i5 + 1), .int i6]) rfl ?_
        refine r_iinc (pc := 72) d_Mg_slipAt_72 (hi := by decide) (x := i6) rfl (v := i6 + 1) rfl (ls2 := [.ref a, .int i1, .int i2, .int i3, .null, .int (i5 + 1), .int (i6 + 1)]) rfl ?_
        refine r_goto (pc := 75) d_Mg_slipAt_75 (tgt := 34) (by decide) ?_
        exact h
      · replace h := h.2 c12
        refine r_aload_n (pc := 62) d_Mg_slipAt_62 (x := a) rfl ?_
        refine r_iload (pc := 63) d_Mg_slipAt_63 (x := i6) rfl ?_
        refine r_callV (pc := 65) (k := a) (As := [.int i6]) (rest := []) (mc' := 0) (ms' := 0) lk_Mg_174 in_Mg_give se_Mg_give sa rfl d_Mg_slipAt_65 k_Mg_give rfl rfl (Nat.le_of_ble_eq_true rfl) (by decide) (by decide) (Sp.mono h ?_)
        rintro rS13 shS13 S13 ⟨qS13, x14, uS13, h⟩
        subst uS13
        rw [qS13]
        exact r_ireturn (pc := 68) d_Mg_slipAt_68 rfl rfl (Nat.le_refl _) ⟨rfl, _, rfl, h⟩
set_option maxRecDepth 4000 in
theorem e_Mg_fits {l : Launch} {d : Nat} {sh : aw_SH} {S : aw_S} {P : Int32 → aw_S → Prop} {a : Nat} {p0 : Int32} {p1 : Int32} {p2 : Int32} (sa : sh[a]? = some (0, 0)) (h : Sp l m_Mg_seenProblem d 0 0 [.ref a, .int p0, .int p1, .int p2] sh S (gI sh (fun x2 S1 => ((x2 = 0 → ∃ r4, S1.2.2 a 16 = some r4 ∧ ∃ r5, S1.2.2 a 0 = some r5 ∧ ∃ n7, sh[r5]? = some (5, n7) ∧ vp_in p0 n7 ∧ ∃ r9, S1.2.2 r5 p0.toNatClampNeg = some r9 ∧ Sp l m_Mg_trial d 0 0 [.ref a] sh S1 (gR sh (fun x11 S10 => sh[r4]? = some (0, 9) ∧ Sp l m_Ou_search d 0 0 [.ref r4, .ref r9, .int p1, .ref x11, .int p2] sh S10 (gV sh (fun S13 => ∃ r14, S13.2.2 a 16 = some r14 ∧ sh[r14]? = some (0, 9) ∧ Sp l m_Mg_give d 0 0 [.ref a, .int (S13.1 r14 0)] sh S13 (gI sh (fun x17 S16 => P x17 S16))))))) ∧ (¬ x2 = 0 → Sp l m_Mg_fail d 0 0 [.ref a, .int x2] sh S1 (gI sh (fun x19 S18 => P x19 S18))))))) : Sp l m_Mg_fits (d + 1) 0 0 [.ref a, .int p0, .int p1, .int p2] sh S (gI sh P) := by
  refine Sp.of k_Mg_fits (ls := [.ref a, .int p0, .int p1, .int p2, .null]) rfl (Nat.le_of_ble_eq_true rfl) ?_
  refine r_aload_n (pc := 0) d_Mg_fits_0 (x := a) rfl ?_
  refine r_iload_n (pc := 1) d_Mg_fits_1 (x := p0) rfl ?_
  refine r_iload_n (pc := 2) d_Mg_fits_2 (x := p1) rfl ?_
  refine r_iload_n (pc := 3) d_Mg_fits_3 (x := p2) rfl ?_
  refine r_callV (pc := 4) (k := a) (As := [.int p0, .int p1, .int p2]) (rest := []) (mc' := 0) (ms' := 0) lk_Mg_318 in_Mg_seenProblem se_Mg_seenProblem sa rfl d_Mg_fits_4 k_Mg_seenProblem rfl rfl (Nat.le_of_ble_eq_true rfl) (by decide) (by decide) (Sp.mono h ?_)
  rintro rS1 shS1 S1 ⟨qS1, x2, uS1, h⟩
  subst uS1
  rw [qS1]
  refine r_istore (pc := 7) (hd := d_Mg_fits_7) (hi := by decide) (ls2 := [.ref a, .int p0, .int p1, .int p2, .int x2]) (h2 := rfl) ?_
  refine r_iload (pc := 9) d_Mg_fits_9 (x := x2) rfl ?_
  refine r_if_eq (pc := 11) d_Mg_fits_11 (tgt := 21) (by decide) (fun c3 => ?_) (fun c3 => ?_)
  · replace h := h.1 c3
    refine r_aload_n (pc := 21) d_Mg_fits_21 (x := a) rfl ?_
    obtain ⟨r4, er4, h⟩ := h
    refine r_getR (pc := 22) d_Mg_fits_22 f_Mg_76 sa (Or.inl ⟨_, rfl⟩) (r := r4) er4 ?_
    refine r_aload_n (pc := 25) d_Mg_fits_25 (x := a) rfl ?_
    obtain ⟨r5, er5, h⟩ := h
    refine r_getR (pc := 26) d_Mg_fits_26 f_Mg_11 sa (Or.inr ⟨_, rfl⟩) (r := r5) er5 ?_
    refine r_iload_n (pc := 29) d_Mg_fits_29 (x := p0) rfl ?_
    obtain ⟨n7, s6, h⟩ := h
    obtain ⟨g8, h⟩ := h
    obtain ⟨r9, er9, h⟩ := h
    refine r_aald5 (pc := 30) d_Mg_fits_30 s6 g8 (r := r9) er9 ?_
    refine r_iload_n (pc := 31) d_Mg_fits_31 (x := p1) rfl ?_
    refine r_aload_n (pc := 32) d_Mg_fits_32 (x := a) rfl ?_
    refine r_callV (pc := 33) (k := a) (As := []) (rest := [.int p1, .ref r9, .ref r4]) (mc' := 0) (ms' := 0) lk_Mg_322 in_Mg_trial se_Mg_trial sa rfl d_Mg_fits_33 k_Mg_trial rfl rfl (Nat.le_of_ble_eq_true rfl) (by decide) (by decide) (Sp.mono h ?_)
    rintro rS10 shS10 S10 ⟨qS10, x11, uS10, h⟩
    subst uS10
    rw [qS10]
    refine r_iload_n (pc := 36) d_Mg_fits_36 (x := p2) rfl ?_
    obtain ⟨s12, h⟩ := h
    refine r_callV (pc := 37) (k := r4) (As := [.ref r9, .int p1, .ref x11, .int p2]) (rest := []) (mc' := 0) (ms' := 0) lk_Mg_326 in_Ou_search se_Ou_search s12 rfl d_Mg_fits_37 k_Ou_search rfl rfl (Nat.le_of_ble_eq_true rfl) (by decide) (by decide) (Sp.mono h ?_)
    rintro rS13 shS13 S13 ⟨qS13, uS13, h⟩
    subst uS13
    rw [qS13]
    refine r_aload_n (pc := 40) d_Mg_fits_40 (x := a) rfl ?_
    refine r_aload_n (pc := 41) d_Mg_fits_41 (x := a) rfl ?_
    obtain ⟨r14, er14, h⟩ := h
    refine r_getR (pc := 42) d_Mg_fits_42 f_Mg_76 sa (Or.inl ⟨_, rfl⟩) (r := r14) er14 ?_
    obtain ⟨s15, h⟩ := h
    refine r_getI (pc := 45) d_Mg_fits_45 f_Mg_330 s15 rfl ?_
    refine r_callV (pc := 48) (k := a) (As := [.int (S13.1 r14 0)]) (rest := []) (mc' := 0) (ms' := 0) lk_Mg_174 in_Mg_give se_Mg_give sa rfl d_Mg_fits_48 k_Mg_give rfl rfl (Nat.le_of_ble_eq_true rfl) (by decide) (by decide) (Sp.mono h ?_)
    rintro rS16 shS16 S16 ⟨qS16, x17, uS16, h⟩
    subst uS16
    rw [qS16]
    exact r_ireturn (pc := 51) d_Mg_fits_51 rfl rfl (Nat.le_refl _) ⟨rfl, _, rfl, h⟩
  · replace h := h.2 c3
    refine r_aload_n (pc := 14) d_Mg_fits_14 (x := a) rfl ?_
    refine r_iload (pc := 15) d_Mg_fits_15 (x := x2) rfl ?_
    refine r_callV (pc := 17) (k := a) (As := [.int x2]) (rest := []) (mc' := 0) (ms' := 0) lk_Mg_133 in_Mg_fail se_Mg_fail sa rfl d_Mg_fits_17 k_Mg_fail rfl rfl (Nat.le_of_ble_eq_true rfl) (by decide) (by decide) (Sp.mono h ?_)
    rintro rS18 shS18 S18 ⟨qS18, x19, uS18, h⟩
    subst uS18
    rw [qS18]
    exact r_ireturn (pc := 20) d_Mg_fits_20 rfl rfl (Nat.le_refl _) ⟨rfl, _, rfl, h⟩
set_option maxRecDepth 4000 in
theorem e_Mg_seenProblem {l : Launch} {d : Nat} {sh : aw_SH} {S : aw_S} {P : Int32 → aw_S → Prop} {a : Nat} {p0 : Int32} {p1 : Int32} {p2 : Int32} (sa : sh[a]? = some (0, 0)) (h : Sp l m_Mg_isTray d 0 0 [.int p0] sh S (gI sh (fun x2 S1 => ((x2 = 0 → P 1 S1) ∧ (¬ x2 = 0 → Sp l m_Mg_isWithin d 0 0 [.int p1, .int 0, .int 20] sh S1 (gI sh (fun x5 S4 => ((x5 = 0 → P 1 S4) ∧ (¬ x5 = 0 → Sp l m_Mg_isWithin d 0 0 [.int p2, .int 0, .int 4] sh S4 (gI sh (fun x8 S7 => ((¬ x8 = 0 → ∃ r10, S7.2.2 a 0 = some r10 ∧ ∃ n12, sh[r10]? = some (5, n12) ∧ vp_in p0 n12 ∧ ∃ r14, S7.2.2 r10 p0.toNatClampNeg = some r14 ∧ sh[r14]? = some (0, 1) ∧ ((¬ (S7.1 r14 1) = 0 → ((((2 : Int32) * p1) ≤ (S7.1 r14 3) → ∃ r18, S7.2.2 a 6 = some r18 ∧ sh[r18]? = some (0, 2) ∧ Sp l m_Gr_gaps d 0 0 [.ref r18] sh S7 (gI sh (fun x21 S20 => Sp l m_Tr_areBelow d 0 0 [.ref r14, .int 0, .int ((2 : Int32) * p1), .int 2, .long x21.toInt64] sh S20 (gI sh (fun x23 S22 => Sp l m_Tr_areBelow d 0 0 [.ref r14, .int 1, .int ((2 : Int32) * p1), .int 2, .long 7] sh S22 (gI sh (fun x25 S24 => ((x23 = 0 → P 5 S24) ∧ (¬ x23 = 0 → ((x25 = 0 → P 5 S24) ∧ (¬ x25 = 0 → P 0 S24))))))))))) ∧ (¬ ((2 : Int32) * p1) ≤ (S7.1 r14 3) → P 3 S7))) ∧ ((S7.1 r14 1) = 0 → P 2 S7))) ∧ (x8 = 0 → P 1 S7))))))))))))) : Sp l m_Mg_seenProblem (d + 1) 0 0 [.ref a, .int p0, .int p1, .int p2] sh S (gI sh P) := by
  refine Sp.of k_Mg_seenProblem (ls := [.ref a, .int p0, .int p1, .int p2, .null, .null, .null]) rfl (Nat.le_of_ble_eq_true rfl) ?_
  refine r_iload_n (pc := 0) d_Mg_seenProblem_0 (x := p0) rfl ?_
  refine r_callS (pc := 1) (k := 0) (As := [.int p0]) (rest := []) (mc' := 0) (ms' := 0) lk_Mg_106 st_Mg_isTray d_Mg_seenProblem_1 k_Mg_isTray rfl rfl (Nat.le_of_ble_eq_true rfl) (by decide) (by decide) (Sp.mono h ?_)
  rintro rS1 shS1 S1 ⟨qS1, x2, uS1, h⟩
  subst uS1
  rw [qS1]
  refine r_if_eq (pc := 4) d_Mg_seenProblem_4 (tgt := 26) (by decide) (fun c3 => ?_) (fun c3 => ?_)
  · replace h := h.1 c3
    refine r_iconst (pc := 26) d_Mg_seenProblem_26 (v := 1) (by decide) ?_
    exact r_ireturn (pc := 27) d_Mg_seenProblem_27 rfl rfl (Nat.le_refl _) ⟨rfl, _, rfl, h⟩
  · replace h := h.2 c3
    refine r_iload_n (pc := 7) d_Mg_seenProblem_7 (x := p1) rfl ?_
    refine r_iconst (pc := 8) d_Mg_seenProblem_8 (v := 0) (by decide) ?_
    refine r_bipush (pc := 9) d_Mg_seenProblem_9 (v := 20) (by decide) ?_
    refine r_callS (pc := 11) (k := 0) (As := [.int p1, .int 0, .int 20]) (rest := []) (mc' := 0) (ms' := 0) lk_Mg_110 st_Mg_isWithin d_Mg_seenProblem_11 k_Mg_isWithin rfl rfl (Nat.le_of_ble_eq_true rfl) (by decide) (by decide) (Sp.mono h ?_)
    rintro rS4 shS4 S4 ⟨qS4, x5, uS4, h⟩
    subst uS4
    rw [qS4]
    refine r_if_eq (pc := 14) d_Mg_seenProblem_14 (tgt := 26) (by decide) (fun c6 => ?_) (fun c6 => ?_)
    · replace h := h.1 c6
      refine r_iconst (pc := 26) d_Mg_seenProblem_26 (v := 1) (by decide) ?_
      exact r_ireturn (pc := 27) d_Mg_seenProblem_27 rfl rfl (Nat.le_refl _) ⟨rfl, _, rfl, h⟩
    · replace h := h.2 c6
      refine r_iload_n (pc := 17) d_Mg_seenProblem_17 (x := p2) rfl ?_
      refine r_iconst (pc := 18) d_Mg_seenProblem_18 (v := 0) (by decide) ?_
      refine r_iconst (pc := 19) d_Mg_seenProblem_19 (v := 4) (by decide) ?_
      refine r_callS (pc := 20) (k := 0) (As := [.int p2, .int 0, .int 4]) (rest := []) (mc' := 0) (ms' := 0) lk_Mg_110 st_Mg_isWithin d_Mg_seenProblem_20 k_Mg_isWithin rfl rfl (Nat.le_of_ble_eq_true rfl) (by decide) (by decide) (Sp.mono h ?_)
      rintro rS7 shS7 S7 ⟨qS7, x8, uS7, h⟩
      subst uS7
      rw [qS7]
      refine r_if_ne (pc := 23) d_Mg_seenProblem_23 (tgt := 28) (by decide) (fun c9 => ?_) (fun c9 => ?_)
      · replace h := h.1 c9
        refine r_aload_n (pc := 28) d_Mg_seenProblem_28 (x := a) rfl ?_
        obtain ⟨r10, er10, h⟩ := h
        refine r_getR (pc := 29) d_Mg_seenProblem_29 f_Mg_11 sa (Or.inr ⟨_, rfl⟩) (r := r10) er10 ?_
        refine r_iload_n (pc := 32) d_Mg_seenProblem_32 (x := p0) rfl ?_
        obtain ⟨n12, s11, h⟩ := h
        obtain ⟨g13, h⟩ := h
        obtain ⟨r14, er14, h⟩ := h
        refine r_aald5 (pc := 33) d_Mg_seenProblem_33 s11 g13 (r := r14) er14 ?_
        refine r_astore (pc := 34) (hd := d_Mg_seenProblem_34) (hi := by decide) (ls2 := [.ref a, .int p0, .int p1, .int p2, .ref r14, .null, .null]) (h2 := rfl) ?_
        refine r_aload (pc := 36) d_Mg_seenProblem_36 (x := r14) rfl ?_
        obtain ⟨s15, h⟩ := h
        refine r_getI (pc := 38) d_Mg_seenProblem_38 f_Mg_141 s15 rfl ?_
        refine r_if_ne (pc := 41) d_Mg_seenProblem_41 (tgt := 46) (by decide) (fun c16 => ?_) (fun c16 => ?_)
        · replace h := h.1 c16
          refine r_iconst (pc := 46) d_Mg_seenProblem_46 (v := 2) (by decide) ?_
          refine r_iload_n (pc := 47) d_Mg_seenProblem_47 (x := p1) rfl ?_
          refine r_imul (pc := 48) d_Mg_seenProblem_48 ?_
          refine r_aload (pc := 49) d_Mg_seenProblem_49 (x := r14) rfl ?_
          refine r_getI (pc := 51) d_Mg_seenProblem_51 f_Mg_360 s15 rfl ?_
          refine r_icmp_le (pc := 54) d_Mg_seenProblem_54 (tgt := 59) (by decide) (fun c17 => ?_) (fun c17 => ?_)
          · replace h := h.1 c17
            refine r_aload (pc := 59) d_Mg_seenProblem_59 (x := r14) rfl ?_
            refine r_iconst (pc := 61) d_Mg_seenProblem_61 (v := 0) (by decide) ?_
            refine r_iconst (pc := 62) d_Mg_seenProblem_62 (v := 2) (by decide) ?_
            refine r_iload_n (pc := 63) d_Mg_seenProblem_63 (x := p1) rfl ?_
            refine r_imul (pc := 64) d_Mg_seenProblem_64 ?_
            refine r_iconst (pc := 65) d_Mg_seenProblem_65 (v := 2) (by decide) ?_
            refine r_aload_n (pc := 66) d_Mg_seenProblem_66 (x := a) rfl ?_
            obtain ⟨r18, er18, h⟩ := h
            refine r_getR (pc := 67) d_Mg_seenProblem_67 f_Mg_30 sa (Or.inl ⟨_, rfl⟩) (r := r18) er18 ?_
            obtain ⟨s19, h⟩ := h
            refine r_callV (pc := 70) (k := r18) (As := []) (rest := [.int 2, .int ((2 : Int32) * p1), .int 0, .ref r14]) (mc' := 0) (ms' := 0) lk_Mg_191 in_Gr_gaps se_Gr_gaps s19 rfl d_Mg_seenProblem_70 k_Gr_gaps rfl rfl (Nat.le_of_ble_eq_true rfl) (by decide) (by decide) (Sp.mono h ?_)
            rintro rS20 shS20 S20 ⟨qS20, x21, uS20, h⟩
            subst uS20
            rw [qS20]
            refine r_i2l (pc := 73) d_Mg_seenProblem_73 ?_
            refine r_callV (pc := 74) (k := r14) (As := [.int 0, .int ((2 : Int32) * p1), .int 2, .long x21.toInt64]) (rest := []) (mc' := 0) (ms' := 0) lk_Mg_388 in_Tr_areBelow se_Tr_areBelow s15 rfl d_Mg_seenProblem_74 k_Tr_areBelow rfl rfl (Nat.le_of_ble_eq_true rfl) (by decide) (by decide) (Sp.mono h ?_)
            rintro rS22 shS22 S22 ⟨qS22, x23, uS22, h⟩
            subst uS22
            rw [qS22]
            refine r_istore (pc := 77) (hd := d_Mg_seenProblem_77) (hi := by decide) (ls2 := [.ref a, .int p0, .int p1, .int p2, .ref r14, .int x23, .null]) (h2 := rfl) ?_
            refine r_aload (pc := 79) d_Mg_seenProblem_79 (x := r14) rfl ?_
            refine r_iconst (pc := 81) d_Mg_seenProblem_81 (v := 1) (by decide) ?_
            refine r_iconst (pc := 82) d_Mg_seenProblem_82 (v := 2) (by decide) ?_
            refine r_iload_n (pc := 83) d_Mg_seenProblem_83 (x := p1) rfl ?_
            refine r_imul (pc := 84) d_Mg_seenProblem_84 ?_
            refine r_iconst (pc := 85) d_Mg_seenProblem_85 (v := 2) (by decide) ?_
            refine r_ldc2 (pc := 86) d_Mg_seenProblem_86 cl_Mg_392 ?_
            refine r_callV (pc := 89) (k := r14) (As := [.int 1, .int ((2 : Int32) * p1), .int 2, .long 7]) (rest := []) (mc' := 0) (ms' := 0) lk_Mg_388 in_Tr_areBelow se_Tr_areBelow s15 rfl d_Mg_seenProblem_89 k_Tr_areBelow rfl rfl (Nat.le_of_ble_eq_true rfl) (by decide) (by decide) (Sp.mono h ?_)
            rintro rS24 shS24 S24 ⟨qS24, x25, uS24, h⟩
            subst uS24
            rw [qS24]
            refine r_istore (pc := 92) (hd := d_Mg_seenProblem_92) (hi := by decide) (ls2 := [.ref a, .int p0, .int p1, .int p2, .ref r14, .int x23, .int x25]) (h2 := rfl) ?_
            refine r_iload (pc := 94) d_Mg_seenProblem_94 (x := x23) rfl ?_
            refine r_if_eq (pc := 96) d_Mg_seenProblem_96 (tgt := 108) (by decide) (fun c26 => ?_) (fun c26 => ?_)
            · replace h := h.1 c26
              refine r_iconst (pc := 108) d_Mg_seenProblem_108 (v := 5) (by decide) ?_
              exact r_ireturn (pc := 109) d_Mg_seenProblem_109 rfl rfl (Nat.le_refl _) ⟨rfl, _, rfl, h⟩
            · replace h := h.2 c26
              refine r_iload (pc := 99) d_Mg_seenProblem_99 (x := x25) rfl ?_
              refine r_if_eq (pc := 101) d_Mg_seenProblem_101 (tgt := 108) (by decide) (fun c27 => ?_) (fun c27 => ?_)
              · replace h := h.1 c27
                refine r_iconst (pc := 108) d_Mg_seenProblem_108 (v := 5) (by decide) ?_
                exact r_ireturn (pc := 109) d_Mg_seenProblem_109 rfl rfl (Nat.le_refl _) ⟨rfl, _, rfl, h⟩
              · replace h := h.2 c27
                refine r_iconst (pc := 104) d_Mg_seenProblem_104 (v := 0) (by decide) ?_
                refine r_goto (pc := 105) d_Mg_seenProblem_105 (tgt := 109) (by decide) ?_
                exact r_ireturn (pc := 109) d_Mg_seenProblem_109 rfl rfl (Nat.le_refl _) ⟨rfl, _, rfl, h⟩
          · replace h := h.2 c17
            refine r_iconst (pc := 57) d_Mg_seenProblem_57 (v := 3) (by decide) ?_
            exact r_ireturn (pc := 58) d_Mg_seenProblem_58 rfl rfl (Nat.le_refl _) ⟨rfl, _, rfl, h⟩
        · replace h := h.2 c16
          refine r_iconst (pc := 44) d_Mg_seenProblem_44 (v := 2) (by decide) ?_
          exact r_ireturn (pc := 45) d_Mg_seenProblem_45 rfl rfl (Nat.le_refl _) ⟨rfl, _, rfl, h⟩
      · replace h := h.2 c9
        refine r_iconst (pc := 26) d_Mg_seenProblem_26 (v := 1) (by decide) ?_
        exact r_ireturn (pc := 27) d_Mg_seenProblem_27 rfl rfl (Nat.le_refl _) ⟨rfl, _, rfl, h⟩
set_option maxRecDepth 4000 in
theorem e_Mg_trial {l : Launch} {d : Nat} {sh : aw_SH} {S : aw_S} {P : Nat → aw_S → Prop} {a : Nat} (sa : sh[a]? = some (0, 0)) (h : ∃ r1, S.2.2 a 7 = some r1 ∧ ∃ r2, S.2.2 a 6 = some r2 ∧ sh[r1]? = some (0, 2) ∧ Sp l m_Gr_copyFrom d 0 0 [.ref r1, .ref r2] sh S (gV sh (fun S4 => ∃ r5, S4.2.2 a 7 = some r5 ∧ P r5 S4))) : Sp l m_Mg_trial (d + 1) 0 0 [.ref a] sh S (gR sh P) := by
  refine Sp.of k_Mg_trial (ls := [.ref a]) rfl (Nat.le_of_ble_eq_true rfl) ?_
  refine r_aload_n (pc := 0) d_Mg_trial_0 (x := a) rfl ?_
  obtain ⟨r1, er1, h⟩ := h
  refine r_getR (pc := 1) d_Mg_trial_1 f_Mg_34 sa (Or.inl ⟨_, rfl⟩) (r := r1) er1 ?_
  refine r_aload_n (pc := 4) d_Mg_trial_4 (x := a) rfl ?_
  obtain ⟨r2, er2, h⟩ := h
  refine r_getR (pc := 5) d_Mg_trial_5 f_Mg_30 sa (Or.inl ⟨_, rfl⟩) (r := r2) er2 ?_
  obtain ⟨s3, h⟩ := h
  refine r_callV (pc := 8) (k := r1) (As := [.ref r2]) (rest := []) (mc' := 0) (ms' := 0) lk_Mg_380 in_Gr_copyFrom se_Gr_copyFrom s3 rfl d_Mg_trial_8 k_Gr_copyFrom rfl rfl (Nat.le_of_ble_eq_true rfl) (by decide) (by decide) (Sp.mono h ?_)
  rintro rS4 shS4 S4 ⟨qS4, uS4, h⟩
  subst uS4
  rw [qS4]
  refine r_aload_n (pc := 11) d_Mg_trial_11 (x := a) rfl ?_
  obtain ⟨r5, er5, h⟩ := h
  refine r_getR (pc := 12) d_Mg_trial_12 f_Mg_34 sa (Or.inl ⟨_, rfl⟩) (r := r5) er5 ?_
  exact r_areturn (pc := 15) d_Mg_trial_15 rfl rfl (Nat.le_refl _) ⟨rfl, _, rfl, h⟩
set_option maxRecDepth 4000 in
theorem e_Mg_fitsAt {l : Launch} {d : Nat} {sh : aw_SH} {S : aw_S} {P : Int32 → aw_S → Prop} {a : Nat} {p0 : Int32} {p1 : Int32} {p2 : Int32} {p3 : Int32} (sa : sh[a]? = some (0, 0)) (h : ((0 ≤ p3 → Sp l m_Mg_seenProblem d 0 0 [.ref a, .int p0, .int p1, .int p2] sh S (gI sh (fun x3 S2 => ((x3 = 0 → ((p3 < p2 → ∃ r6, S2.2.2 a 16 = some r6 ∧ ∃ r7, S2.2.2 a 0 = some r7 ∧ ∃ n9, sh[r7]? = some (5, n9) ∧ vp_in p0 n9 ∧ ∃ r11, S2.2.2 r7 p0.toNatClampNeg = some r11 ∧ Sp l m_Mg_trial d 0 0 [.ref a] sh S2 (gR sh (fun x13 S12 => sh[r6]? = some (0, 9) ∧ Sp l m_Ou_search d 0 0 [.ref r6, .ref r11, .int p1, .ref x13, .int p2] sh S12 (gV sh (fun S15 => ∃ r16, S15.2.2 a 16 = some r16 ∧ sh[r16]? = some (0, 9) ∧ ((¬ (S15.1 r16 0) = 0 → ∃ r19, S15.2.2 r16 1 = some r19 ∧ ∃ n21, sh[r19]? = some (3, n21) ∧ vp_in p3 n21 ∧ Sp l m_Mg_give d 0 0 [.ref a, .int (S15.1 r19 p3.toNatClampNeg)] sh S15 (gI sh (fun x24 S23 => P x24 S23))) ∧ ((S15.1 r16 0) = 0 → Sp l m_Mg_fail d 0 0 [.ref a, .int 6] sh S15 (gI sh (fun x26 S25 => P x26 S25))))))))) ∧ (¬ p3 < p2 → Sp l m_Mg_fail d 0 0 [.ref a, .int 6] sh S2 (gI sh (fun x28 S27 => P x28 S27))))) ∧ (¬ x3 = 0 → Sp l m_Mg_fail d 0 0 [.ref a, .int x3] sh S2 (gI sh (fun x30 S29 => P x30 S29))))))) ∧ (¬ 0 ≤ p3 → Sp l m_Mg_fail d 0 0 [.ref a, .int 1] sh S (gI sh (fun x33 S32 => P x33 S32))))) : Sp l m_Mg_fitsAt (d + 1) 0 0 [.ref a, .int p0, .int p1, .int p2, .int p3] sh S (gI sh P) := by
  refine Sp.of k_Mg_fitsAt (ls := [.ref a, .int p0, .int p1, .int p2, .int p3, .null]) rfl (Nat.le_of_ble_eq_true rfl) ?_
  refine r_iload (pc := 0) d_Mg_fitsAt_0 (x := p3) rfl ?_
  refine r_if_ge (pc := 2) d_Mg_fitsAt_2 (tgt := 9) (by decide) (fun c1 => ?_) (fun c1 => ?_)
  · replace h := h.1 c1
    refine r_aload_n (pc := 9) d_Mg_fitsAt_9 (x := a) rfl ?_
    refine r_iload_n (pc := 10) d_Mg_fitsAt_10 (x := p0) rfl ?_
    refine r_iload_n (pc := 11) d_Mg_fitsAt_11 (x := p1) rfl ?_
    refine r_iload_n (pc := 12) d_Mg_fitsAt_12 (x := p2) rfl ?_
    refine r_callV (pc := 13) (k := a) (As := [.int p0, .int p1, .int p2]) (rest := []) (mc' := 0) (ms' := 0) lk_Mg_318 in_Mg_seenProblem se_Mg_seenProblem sa rfl d_Mg_fitsAt_13 k_Mg_seenProblem rfl rfl (Nat.le_of_ble_eq_true rfl) (by decide) (by decide) (Sp.mono h ?_)
    rintro rS2 shS2 S2 ⟨qS2, x3, uS2, h⟩
    subst uS2
    rw [qS2]
    refine r_istore (pc := 16) (hd := d_Mg_fitsAt_16) (hi := by decide) (ls2 := [.ref a, .int p0, .int p1, .int p2, .int p3, .int x3]) (h2 := rfl) ?_
    refine r_iload (pc := 18) d_Mg_fitsAt_18 (x := x3) rfl ?_
    refine r_if_eq (pc := 20) d_Mg_fitsAt_20 (tgt := 30) (by decide) (fun c4 => ?_) (fun c4 => ?_)
    · replace h := h.1 c4
      refine r_iload (pc := 30) d_Mg_fitsAt_30 (x := p3) rfl ?_
      refine r_iload_n (pc := 32) d_Mg_fitsAt_32 (x := p2) rfl ?_
      refine r_icmp_lt (pc := 33) d_Mg_fitsAt_33 (tgt := 43) (by decide) (fun c5 => ?_) (fun c5 => ?_)
      · replace h := h.1 c5
        refine r_aload_n (pc := 43) d_Mg_fitsAt_43 (x := a) rfl ?_
        obtain ⟨r6, er6, h⟩ := h
        refine r_getR (pc := 44) d_Mg_fitsAt_44 f_Mg_76 sa (Or.inl ⟨_, rfl⟩) (r := r6) er6 ?_
        refine r_aload_n (pc := 47) d_Mg_fitsAt_47 (x := a) rfl ?_
        obtain ⟨r7, er7, h⟩ := h
        refine r_getR (pc := 48) d_Mg_fitsAt_48 f_Mg_11 sa (Or.inr ⟨_, rfl⟩) (r := r7) er7 ?_
        refine r_iload_n (pc := 51) d_Mg_fitsAt_51 (x := p0) rfl ?_
        obtain ⟨n9, s8, h⟩ := h
        obtain ⟨g10, h⟩ := h
        obtain ⟨r11, er11, h⟩ := h
        refine r_aald5 (pc := 52) d_Mg_fitsAt_52 s8 g10 (r := r11) er11 ?_
        refine r_iload_n (pc := 53) d_Mg_fitsAt_53 (x := p1) rfl ?_
        refine r_aload_n (pc := 54) d_Mg_fitsAt_54 (x := a) rfl ?_
        refine r_callV (pc := 55) (k := a) (As := []) (rest := [.int p1, .ref r11, .ref r6]) (mc' := 0) (ms' := 0) lk_Mg_322 in_Mg_trial se_Mg_trial sa rfl d_Mg_fitsAt_55 k_Mg_trial rfl rfl (Nat.le_of_ble_eq_true rfl) (by decide) (by decide) (Sp.mono h ?_)
        rintro rS12 shS12 S12 ⟨qS12, x13, uS12, h⟩
        subst uS12
        rw [qS12]
        refine r_iload_n (pc := 58) d_Mg_fitsAt_58 (x := p2) rfl ?_
        obtain ⟨s14, h⟩ := h
        refine r_callV (pc := 59) (k := r6) (As := [.ref r11, .int p1, .ref x13, .int p2]) (rest := []) (mc' := 0) (ms' := 0) lk_Mg_326 in_Ou_search se_Ou_search s14 rfl d_Mg_fitsAt_59 k_Ou_search rfl rfl (Nat.le_of_ble_eq_true rfl) (by decide) (by decide) (Sp.mono h ?_)
        rintro rS15 shS15 S15 ⟨qS15, uS15, h⟩
        subst uS15
        rw [qS15]
        refine r_aload_n (pc := 62) d_Mg_fitsAt_62 (x := a) rfl ?_
        obtain ⟨r16, er16, h⟩ := h
        refine r_getR (pc := 63) d_Mg_fitsAt_63 f_Mg_76 sa (Or.inl ⟨_, rfl⟩) (r := r16) er16 ?_
        obtain ⟨s17, h⟩ := h
        refine r_getI (pc := 66) d_Mg_fitsAt_66 f_Mg_330 s17 rfl ?_
        refine r_if_ne (pc := 69) d_Mg_fitsAt_69 (tgt := 81) (by decide) (fun c18 => ?_) (fun c18 => ?_)
        · replace h := h.1 c18
          refine r_aload_n (pc := 81) d_Mg_fitsAt_81 (x := a) rfl ?_
          refine r_aload_n (pc := 82) d_Mg_fitsAt_82 (x := a) rfl ?_
          refine r_getR (pc := 83) d_Mg_fitsAt_83 f_Mg_76 sa (Or.inl ⟨_, rfl⟩) (r := r16) er16 ?_
          obtain ⟨r19, er19, h⟩ := h
          refine r_getR (pc := 86) d_Mg_fitsAt_86 f_Mg_333 s17 (Or.inr ⟨_, rfl⟩) (r := r19) er19 ?_
          refine r_iload (pc := 89) d_Mg_fitsAt_89 (x := p3) rfl ?_
          obtain ⟨n21, s20, h⟩ := h
          obtain ⟨g22, h⟩ := h
          refine r_iald (pc := 91) d_Mg_fitsAt_91 s20 g22 ?_
          refine r_callV (pc := 92) (k := a) (As := [.int (S15.1 r19 p3.toNatClampNeg)]) (rest := []) (mc' := 0) (ms' := 0) lk_Mg_174 in_Mg_give se_Mg_give sa rfl d_Mg_fitsAt_92 k_Mg_give rfl rfl (Nat.le_of_ble_eq_true rfl) (by decide) (by decide) (Sp.mono h ?_)
          rintro rS23 shS23 S23 ⟨qS23, x24, uS23, h⟩
          subst uS23
          rw [qS23]
          exact r_ireturn (pc := 95) d_Mg_fitsAt_95 rfl rfl (Nat.le_refl _) ⟨rfl, _, rfl, h⟩
        · replace h := h.2 c18
          refine r_aload_n (pc := 72) d_Mg_fitsAt_72 (x := a) rfl ?_
          refine r_bipush (pc := 73) d_Mg_fitsAt_73 (v := 6) (by decide) ?_
          refine r_callV (pc := 75) (k := a) (As := [.int 6]) (rest := []) (mc' := 0) (ms' := 0) lk_Mg_133 in_Mg_fail se_Mg_fail sa rfl d_Mg_fitsAt_75 k_Mg_fail rfl rfl (Nat.le_of_ble_eq_true rfl) (by decide) (by decide) (Sp.mono h ?_)
          rintro rS25 shS25 S25 ⟨qS25, x26, uS25, h⟩
          subst uS25
          rw [qS25]
          refine r_goto (pc := 78) d_Mg_fitsAt_78 (tgt := 95) (by decide) ?_
          exact r_ireturn (pc := 95) d_Mg_fitsAt_95 rfl rfl (Nat.le_refl _) ⟨rfl, _, rfl, h⟩
      · replace h := h.2 c5
        refine r_aload_n (pc := 36) d_Mg_fitsAt_36 (x := a) rfl ?_
        refine r_bipush (pc := 37) d_Mg_fitsAt_37 (v := 6) (by decide) ?_
        refine r_callV (pc := 39) (k := a) (As := [.int 6]) (rest := []) (mc' := 0) (ms' := 0) lk_Mg_133 in_Mg_fail se_Mg_fail sa rfl d_Mg_fitsAt_39 k_Mg_fail rfl rfl (Nat.le_of_ble_eq_true rfl) (by decide) (by decide) (Sp.mono h ?_)
        rintro rS27 shS27 S27 ⟨qS27, x28, uS27, h⟩
        subst uS27
        rw [qS27]
        exact r_ireturn (pc := 42) d_Mg_fitsAt_42 rfl rfl (Nat.le_refl _) ⟨rfl, _, rfl, h⟩
    · replace h := h.2 c4
      refine r_aload_n (pc := 23) d_Mg_fitsAt_23 (x := a) rfl ?_
      refine r_iload (pc := 24) d_Mg_fitsAt_24 (x := x3) rfl ?_
      refine r_callV (pc := 26) (k := a) (As := [.int x3]) (rest := []) (mc' := 0) (ms' := 0) lk_Mg_133 in_Mg_fail se_Mg_fail sa rfl d_Mg_fitsAt_26 k_Mg_fail rfl rfl (Nat.le_of_ble_eq_true rfl) (by decide) (by decide) (Sp.mono h ?_)
      rintro rS29 shS29 S29 ⟨qS29, x30, uS29, h⟩
      subst uS29
      rw [qS29]
      exact r_ireturn (pc := 29) d_Mg_fitsAt_29 rfl rfl (Nat.le_refl _) ⟨rfl, _, rfl, h⟩
  · replace h := h.2 c1
    refine r_iconst (pc := 5) d_Mg_fitsAt_5 (v := 1) (by decide) ?_
    refine r_goto (pc := 6) d_Mg_fitsAt_6 (tgt := 16) (by decide) ?_
    refine r_istore (pc := 16) (hd := d_Mg_fitsAt_16) (hi := by decide) (ls2 := [.ref a, .int p0, .int p1, .int p2, .int p3, .int 1]) (h2 := rfl) ?_
    refine r_iload (pc := 18) d_Mg_fitsAt_18 (x := 1) rfl ?_
    refine r_if_eq (pc := 20) d_Mg_fitsAt_20 (tgt := 30) (by decide) (fun q => absurd q (by decide)) (fun _ => ?_)
    refine r_aload_n (pc := 23) d_Mg_fitsAt_23 (x := a) rfl ?_
    refine r_iload (pc := 24) d_Mg_fitsAt_24 (x := 1) rfl ?_
    refine r_callV (pc := 26) (k := a) (As := [.int 1]) (rest := []) (mc' := 0) (ms' := 0) lk_Mg_133 in_Mg_fail se_Mg_fail sa rfl d_Mg_fitsAt_26 k_Mg_fail rfl rfl (Nat.le_of_ble_eq_true rfl) (by decide) (by decide) (Sp.mono h ?_)
    rintro rS32 shS32 S32 ⟨qS32, x33, uS32, h⟩
    subst uS32
    rw [qS32]
    exact r_ireturn (pc := 29) d_Mg_fitsAt_29 rfl rfl (Nat.le_refl _) ⟨rfl, _, rfl, h⟩
set_option maxRecDepth 4000 in
theorem e_Mg_ask {l : Launch} {d : Nat} {sh : aw_SH} {S : aw_S} {P : Int32 → aw_S → Prop} {a : Nat} {p0 : Int32} {p1 : Int32} {p2 : Int32} (sa : sh[a]? = some (0, 0)) (h : Sp l m_Mg_seenProblem d 0 0 [.ref a, .int p0, .int p1, .int p2] sh S (gI sh (fun x2 S1 => ((x2 = 0 → ∃ r4, S1.2.2 a 16 = some r4 ∧ ∃ r5, S1.2.2 a 0 = some r5 ∧ ∃ n7, sh[r5]? = some (5, n7) ∧ vp_in p0 n7 ∧ ∃ r9, S1.2.2 r5 p0.toNatClampNeg = some r9 ∧ Sp l m_Mg_trial d 0 0 [.ref a] sh S1 (gR sh (fun x11 S10 => sh[r4]? = some (0, 9) ∧ Sp l m_Ou_search d 0 0 [.ref r4, .ref r9, .int p1, .ref x11, .int p2] sh S10 (gV sh (fun S13 => ∃ r14, S13.2.2 a 16 = some r14 ∧ sh[r14]? = some (0, 9) ∧ Sp l m_Ou_partingGap d 0 0 [.ref r14] sh S13 (gI sh (fun x17 S16 => ((¬ x17 = (-1) → Sp l m_Mg_give d 0 0 [.ref a, .int x17] sh S16 (gI sh (fun x20 S19 => P x20 S19))) ∧ (x17 = (-1) → Sp l m_Mg_fail d 0 0 [.ref a, .int 6] sh S16 (gI sh (fun x22 S21 => P x22 S21))))))))))) ∧ (¬ x2 = 0 → Sp l m_Mg_fail d 0 0 [.ref a, .int x2] sh S1 (gI sh (fun x24 S23 => P x24 S23))))))) : Sp l m_Mg_ask (d + 1) 0 0 [.ref a, .int p0, .int p1, .int p2] sh S (gI sh P) := by
  refine Sp.of k_Mg_ask (ls := [.ref a, .int p0, .int p1, .int p2, .null, .null]) rfl (Nat.le_of_ble_eq_true rfl) ?_
  refine r_aload_n (pc := 0) d_Mg_ask_0 (x := a) rfl ?_
  refine r_iload_n (pc := 1) d_Mg_ask_1 (x := p0) rfl ?_
  refine r_iload_n (pc := 2) d_Mg_ask_2 (x := p1) rfl ?_
  refine r_iload_n (pc := 3) d_Mg_ask_3 (x := p2) rfl ?_
  refine r_callV (pc := 4) (k := a) (As := [.int p0, .int p1, .int p2]) (rest := []) (mc' := 0) (ms' := 0) lk_Mg_318 in_Mg_seenProblem se_Mg_seenProblem sa rfl d_Mg_ask_4 k_Mg_seenProblem rfl rfl (Nat.le_of_ble_eq_true rfl) (by decide) (by decide) (Sp.mono h ?_)
  rintro rS1 shS1 S1 ⟨qS1, x2, uS1, h⟩
  subst uS1
  rw [qS1]
  refine r_istore (pc := 7) (hd := d_Mg_ask_7) (hi := by decide) (ls2 := [.ref a, .int p0, .int p1, .int p2, .int x2, .null]) (h2 := rfl) ?_
  refine r_iload (pc := 9) d_Mg_ask_9 (x := x2) rfl ?_
  refine r_if_eq (pc := 11) d_Mg_ask_11 (tgt := 21) (by decide) (fun c3 => ?_) (fun c3 => ?_)
  · replace h := h.1 c3
    refine r_aload_n (pc := 21) d_Mg_ask_21 (x := a) rfl ?_
    obtain ⟨r4, er4, h⟩ := h
    refine r_getR (pc := 22) d_Mg_ask_22 f_Mg_76 sa (Or.inl ⟨_, rfl⟩) (r := r4) er4 ?_
    refine r_aload_n (pc := 25) d_Mg_ask_25 (x := a) rfl ?_
    obtain ⟨r5, er5, h⟩ := h
    refine r_getR (pc := 26) d_Mg_ask_26 f_Mg_11 sa (Or.inr ⟨_, rfl⟩) (r := r5) er5 ?_
    refine r_iload_n (pc := 29) d_Mg_ask_29 (x := p0) rfl ?_
    obtain ⟨n7, s6, h⟩ := h
    obtain ⟨g8, h⟩ := h
    obtain ⟨r9, er9, h⟩ := h
    refine r_aald5 (pc := 30) d_Mg_ask_30 s6 g8 (r := r9) er9 ?_
    refine r_iload_n (pc := 31) d_Mg_ask_31 (x := p1) rfl ?_
    refine r_aload_n (pc := 32) d_Mg_ask_32 (x := a) rfl ?_
    refine r_callV (pc := 33) (k := a) (As := []) (rest := [.int p1, .ref r9, .ref r4]) (mc' := 0) (ms' := 0) lk_Mg_322 in_Mg_trial se_Mg_trial sa rfl d_Mg_ask_33 k_Mg_trial rfl rfl (Nat.le_of_ble_eq_true rfl) (by decide) (by decide) (Sp.mono h ?_)
    rintro rS10 shS10 S10 ⟨qS10, x11, uS10, h⟩
    subst uS10
    rw [qS10]
    refine r_iload_n (pc := 36) d_Mg_ask_36 (x := p2) rfl ?_
    obtain ⟨s12, h⟩ := h
    refine r_callV (pc := 37) (k := r4) (As := [.ref r9, .int p1, .ref x11, .int p2]) (rest := []) (mc' := 0) (ms' := 0) lk_Mg_326 in_Ou_search se_Ou_search s12 rfl d_Mg_ask_37 k_Ou_search rfl rfl (Nat.le_of_ble_eq_true rfl) (by decide) (by decide) (Sp.mono h ?_)
    rintro rS13 shS13 S13 ⟨qS13, uS13, h⟩
    subst uS13
    rw [qS13]
    refine r_aload_n (pc := 40) d_Mg_ask_40 (x := a) rfl ?_
    obtain ⟨r14, er14, h⟩ := h
    refine r_getR (pc := 41) d_Mg_ask_41 f_Mg_76 sa (Or.inl ⟨_, rfl⟩) (r := r14) er14 ?_
    obtain ⟨s15, h⟩ := h
    refine r_callV (pc := 44) (k := r14) (As := []) (rest := []) (mc' := 0) (ms' := 0) lk_Mg_336 in_Ou_partingGap se_Ou_partingGap s15 rfl d_Mg_ask_44 k_Ou_partingGap rfl rfl (Nat.le_of_ble_eq_true rfl) (by decide) (by decide) (Sp.mono h ?_)
    rintro rS16 shS16 S16 ⟨qS16, x17, uS16, h⟩
    subst uS16
    rw [qS16]
    refine r_istore (pc := 47) (hd := d_Mg_ask_47) (hi := by decide) (ls2 := [.ref a, .int p0, .int p1, .int p2, .int x2, .int x17]) (h2 := rfl) ?_
    refine r_iload (pc := 49) d_Mg_ask_49 (x := x17) rfl ?_
    refine r_iconst (pc := 51) d_Mg_ask_51 (v := (-1)) (by decide) ?_
    refine r_icmp_ne (pc := 52) d_Mg_ask_52 (tgt := 64) (by decide) (fun c18 => ?_) (fun c18 => ?_)
    · replace h := h.1 c18
      refine r_aload_n (pc := 64) d_Mg_ask_64 (x := a) rfl ?_
      refine r_iload (pc := 65) d_Mg_ask_65 (x := x17) rfl ?_
      refine r_callV (pc := 67) (k := a) (As := [.int x17]) (rest := []) (mc' := 0) (ms' := 0) lk_Mg_174 in_Mg_give se_Mg_give sa rfl d_Mg_ask_67 k_Mg_give rfl rfl (Nat.le_of_ble_eq_true rfl) (by decide) (by decide) (Sp.mono h ?_)
      rintro rS19 shS19 S19 ⟨qS19, x20, uS19, h⟩
      subst uS19
      rw [qS19]
      exact r_ireturn (pc := 70) d_Mg_ask_70 rfl rfl (Nat.le_refl _) ⟨rfl, _, rfl, h⟩
    · replace h := h.2 c18
      refine r_aload_n (pc := 55) d_Mg_ask_55 (x := a) rfl ?_
      refine r_bipush (pc := 56) d_Mg_ask_56 (v := 6) (by decide) ?_
      refine r_callV (pc := 58) (k := a) (As := [.int 6]) (rest := []) (mc' := 0) (ms' := 0) lk_Mg_133 in_Mg_fail se_Mg_fail sa rfl d_Mg_ask_58 k_Mg_fail rfl rfl (Nat.le_of_ble_eq_true rfl) (by decide) (by decide) (Sp.mono h ?_)
      rintro rS21 shS21 S21 ⟨qS21, x22, uS21, h⟩
      subst uS21
      rw [qS21]
      refine r_goto (pc := 61) d_Mg_ask_61 (tgt := 70) (by decide) ?_
      exact r_ireturn (pc := 70) d_Mg_ask_70 rfl rfl (Nat.le_refl _) ⟨rfl, _, rfl, h⟩
  · replace h := h.2 c3
    refine r_aload_n (pc := 14) d_Mg_ask_14 (x := a) rfl ?_
    refine r_iload (pc := 15) d_Mg_ask_15 (x := x2) rfl ?_
    refine r_callV (pc := 17) (k := a) (As := [.int x2]) (rest := []) (mc' := 0) (ms' := 0) lk_Mg_133 in_Mg_fail se_Mg_fail sa rfl d_Mg_ask_17 k_Mg_fail rfl rfl (Nat.le_of_ble_eq_true rfl) (by decide) (by decide) (Sp.mono h ?_)
    rintro rS23 shS23 S23 ⟨qS23, x24, uS23, h⟩
    subst uS23
    rw [qS23]
    exact r_ireturn (pc := 20) d_Mg_ask_20 rfl rfl (Nat.le_refl _) ⟨rfl, _, rfl, h⟩
set_option maxRecDepth 4000 in
theorem e_Mg_game {l : Launch} {d : Nat} {sh : aw_SH} {S : aw_S} {P : Int32 → aw_S → Prop} {a : Nat} {p0 : Int32} (sa : sh[a]? = some (0, 0)) (h : Sp l m_Mg_isWithin d 0 0 [.int p0, .int 0, .int 3] sh S (gI sh (fun x2 S1 => ((¬ x2 = 0 → Sp l m_Mg_trial d 0 0 [.ref a] sh S1 (gR sh (fun x5 S4 => Sp l m_Py_worth d 0 0 [.ref x5, .int p0, .int 1] sh S4 (gI sh (fun x7 S6 => Sp l m_Mg_give d 0 0 [.ref a, .int x7] sh S6 (gI sh (fun x9 S8 => P x9 S8))))))) ∧ (x2 = 0 → Sp l m_Mg_fail d 0 0 [.ref a, .int 1] sh S1 (gI sh (fun x11 S10 => P x11 S10))))))) : Sp l m_Mg_game (d + 1) 0 0 [.ref a, .int p0] sh S (gI sh P) := by
  refine Sp.of k_Mg_game (ls := [.ref a, .int p0]) rfl (Nat.le_of_ble_eq_true rfl) ?_
  refine r_iload_n (pc := 0) d_Mg_game_0 (x := p0) rfl ?_
  refine r_iconst (pc := 1) d_Mg_game_1 (v := 0) (by decide) ?_
  refine r_iconst (pc := 2) d_Mg_game_2 (v := 3) (by decide) ?_
  refine r_callS (pc := 3) (k := 0) (As := [.int p0, .int 0, .int 3]) (rest := []) (mc' := 0) (ms' := 0) lk_Mg_110 st_Mg_isWithin d_Mg_game_3 k_Mg_isWithin rfl rfl (Nat.le_of_ble_eq_true rfl) (by decide) (by decide) (Sp.mono h ?_)
  rintro rS1 shS1 S1 ⟨qS1, x2, uS1, h⟩
  subst uS1
  rw [qS1]
  refine r_if_ne (pc := 6) d_Mg_game_6 (tgt := 15) (by decide) (fun c3 => ?_) (fun c3 => ?_)
  · replace h := h.1 c3
    refine r_aload_n (pc := 15) d_Mg_game_15 (x := a) rfl ?_
    refine r_aload_n (pc := 16) d_Mg_game_16 (x := a) rfl ?_
    refine r_callV (pc := 17) (k := a) (As := []) (rest := [.ref a]) (mc' := 0) (ms' := 0) lk_Mg_322 in_Mg_trial se_Mg_trial sa rfl d_Mg_game_17 k_Mg_trial rfl rfl (Nat.le_of_ble_eq_true rfl) (by decide) (by decide) (Sp.mono h ?_)
    rintro rS4 shS4 S4 ⟨qS4, x5, uS4, h⟩
    subst uS4
    rw [qS4]
    refine r_iload_n (pc := 20) d_Mg_game_20 (x := p0) rfl ?_
    refine r_iconst (pc := 21) d_Mg_game_21 (v := 1) (by decide) ?_
    refine r_callSN (pc := 22) (k := 0) (As := [.ref x5, .int p0, .int 1]) (rest := [.ref a]) (mc' := 0) (ms' := 0) ln_Mg_339 st_Py_worth d_Mg_game_22 k_Py_worth rfl rfl (Nat.le_of_ble_eq_true rfl) (by decide) (by decide) (Sp.mono h ?_)
    rintro rS6 shS6 S6 ⟨qS6, x7, uS6, h⟩
    subst uS6
    rw [qS6]
    refine r_callV (pc := 25) (k := a) (As := [.int x7]) (rest := []) (mc' := 0) (ms' := 0) lk_Mg_174 in_Mg_give se_Mg_give sa rfl d_Mg_game_25 k_Mg_give rfl rfl (Nat.le_of_ble_eq_true rfl) (by decide) (by decide) (Sp.mono h ?_)
    rintro rS8 shS8 S8 ⟨qS8, x9, uS8, h⟩
    subst uS8
    rw [qS8]
    exact r_ireturn (pc := 28) d_Mg_game_28 rfl rfl (Nat.le_refl _) ⟨rfl, _, rfl, h⟩
  · replace h := h.2 c3
    refine r_aload_n (pc := 9) d_Mg_game_9 (x := a) rfl ?_
    refine r_iconst (pc := 10) d_Mg_game_10 (v := 1) (by decide) ?_
    refine r_callV (pc := 11) (k := a) (As := [.int 1]) (rest := []) (mc' := 0) (ms' := 0) lk_Mg_133 in_Mg_fail se_Mg_fail sa rfl d_Mg_game_11 k_Mg_fail rfl rfl (Nat.le_of_ble_eq_true rfl) (by decide) (by decide) (Sp.mono h ?_)
    rintro rS10 shS10 S10 ⟨qS10, x11, uS10, h⟩
    subst uS10
    rw [qS10]
    exact r_ireturn (pc := 14) d_Mg_game_14 rfl rfl (Nat.le_refl _) ⟨rfl, _, rfl, h⟩
set_option maxRecDepth 4000 in
theorem e_Mg_moveOf {l : Launch} {d : Nat} {sh : aw_SH} {S : aw_S} {P : Int32 → aw_S → Prop} {a : Nat} {p0 : Int32} (sa : sh[a]? = some (0, 0)) (h : Sp l m_Mg_isWithin d 0 0 [.int p0, .int 1, .int 3] sh S (gI sh (fun x2 S1 => ((¬ x2 = 0 → Sp l m_Mg_trial d 0 0 [.ref a] sh S1 (gR sh (fun x5 S4 => Sp l m_Py_opening d 0 0 [.ref x5, .int p0] sh S4 (gI sh (fun x7 S6 => ((¬ x7 = (-1) → Sp l m_Mg_give d 0 0 [.ref a, .int x7] sh S6 (gI sh (fun x10 S9 => P x10 S9))) ∧ (x7 = (-1) → Sp l m_Mg_fail d 0 0 [.ref a, .int 6] sh S6 (gI sh (fun x12 S11 => P x12 S11))))))))) ∧ (x2 = 0 → Sp l m_Mg_fail d 0 0 [.ref a, .int 1] sh S1 (gI sh (fun x14 S13 => P x14 S13))))))) : Sp l m_Mg_moveOf (d + 1) 0 0 [.ref a, .int p0] sh S (gI sh P) := by
  refine Sp.of k_Mg_moveOf (ls := [.ref a, .int p0, .null]) rfl (Nat.le_of_ble_eq_true rfl) ?_
  refine r_iload_n (pc := 0) d_Mg_moveOf_0 (x := p0) rfl ?_
  refine r_iconst (pc := 1) d_Mg_moveOf_1 (v := 1) (by decide) ?_
  refine r_iconst (pc := 2) d_Mg_moveOf_2 (v := 3) (by decide) ?_
  refine r_callS (pc := 3) (k := 0) (As := [.int p0, .int 1, .int 3]) (rest := []) (mc' := 0) (ms' := 0) lk_Mg_110 st_Mg_isWithin d_Mg_moveOf_3 k_Mg_isWithin rfl rfl (Nat.le_of_ble_eq_true rfl) (by decide) (by decide) (Sp.mono h ?_)
  rintro rS1 shS1 S1 ⟨qS1, x2, uS1, h⟩
  subst uS1
  rw [qS1]
  refine r_if_ne (pc := 6) d_Mg_moveOf_6 (tgt := 15) (by decide) (fun c3 => ?_) (fun c3 => ?_)
  · replace h := h.1 c3
    refine r_aload_n (pc := 15) d_Mg_moveOf_15 (x := a) rfl ?_
    refine r_callV (pc := 16) (k := a) (As := []) (rest := []) (mc' := 0) (ms' := 0) lk_Mg_322 in_Mg_trial se_Mg_trial sa rfl d_Mg_moveOf_16 k_Mg_trial rfl rfl (Nat.le_of_ble_eq_true rfl) (by decide) (by decide) (Sp.mono h ?_)
    rintro rS4 shS4 S4 ⟨qS4, x5, uS4, h⟩
    subst uS4
    rw [qS4]
    refine r_iload_n (pc := 19) d_Mg_moveOf_19 (x := p0) rfl ?_
    refine r_callS (pc := 20) (k := 0) (As := [.ref x5, .int p0]) (rest := []) (mc' := 0) (ms' := 0) lk_Mg_345 st_Py_opening d_Mg_moveOf_20 k_Py_opening rfl rfl (Nat.le_of_ble_eq_true rfl) (by decide) (by decide) (Sp.mono h ?_)
    rintro rS6 shS6 S6 ⟨qS6, x7, uS6, h⟩
    subst uS6
    rw [qS6]
    refine r_istore_n (pc := 23) (hk := rfl) (hd := d_Mg_moveOf_23) (hi := by decide) (ls2 := [.ref a, .int p0, .int x7]) (h2 := rfl) ?_
    refine r_iload_n (pc := 24) d_Mg_moveOf_24 (x := x7) rfl ?_
    refine r_iconst (pc := 25) d_Mg_moveOf_25 (v := (-1)) (by decide) ?_
    refine r_icmp_ne (pc := 26) d_Mg_moveOf_26 (tgt := 38) (by decide) (fun c8 => ?_) (fun c8 => ?_)
    · replace h := h.1 c8
      refine r_aload_n (pc := 38) d_Mg_moveOf_38 (x := a) rfl ?_
      refine r_iload_n (pc := 39) d_Mg_moveOf_39 (x := x7) rfl ?_
      refine r_callV (pc := 40) (k := a) (As := [.int x7]) (rest := []) (mc' := 0) (ms' := 0) lk_Mg_174 in_Mg_give se_Mg_give sa rfl d_Mg_moveOf_40 k_Mg_give rfl rfl (Nat.le_of_ble_eq_true rfl) (by decide) (by decide) (Sp.mono h ?_)
      rintro rS9 shS9 S9 ⟨qS9, x10, uS9, h⟩
      subst uS9
      rw [qS9]
      exact r_ireturn (pc := 43) d_Mg_moveOf_43 rfl rfl (Nat.le_refl _) ⟨rfl, _, rfl, h⟩
    · replace h := h.2 c8
      refine r_aload_n (pc := 29) d_Mg_moveOf_29 (x := a) rfl ?_
      refine r_bipush (pc := 30) d_Mg_moveOf_30 (v := 6) (by decide) ?_
      refine r_callV (pc := 32) (k := a) (As := [.int 6]) (rest := []) (mc' := 0) (ms' := 0) lk_Mg_133 in_Mg_fail se_Mg_fail sa rfl d_Mg_moveOf_32 k_Mg_fail rfl rfl (Nat.le_of_ble_eq_true rfl) (by decide) (by decide) (Sp.mono h ?_)
      rintro rS11 shS11 S11 ⟨qS11, x12, uS11, h⟩
      subst uS11
      rw [qS11]
      refine r_goto (pc := 35) d_Mg_moveOf_35 (tgt := 43) (by decide) ?_
      exact r_ireturn (pc := 43) d_Mg_moveOf_43 rfl rfl (Nat.le_refl _) ⟨rfl, _, rfl, h⟩
  · replace h := h.2 c3
    refine r_aload_n (pc := 9) d_Mg_moveOf_9 (x := a) rfl ?_
    refine r_iconst (pc := 10) d_Mg_moveOf_10 (v := 1) (by decide) ?_
    refine r_callV (pc := 11) (k := a) (As := [.int 1]) (rest := []) (mc' := 0) (ms' := 0) lk_Mg_133 in_Mg_fail se_Mg_fail sa rfl d_Mg_moveOf_11 k_Mg_fail rfl rfl (Nat.le_of_ble_eq_true rfl) (by decide) (by decide) (Sp.mono h ?_)
    rintro rS13 shS13 S13 ⟨qS13, x14, uS13, h⟩
    subst uS13
    rw [qS13]
    exact r_ireturn (pc := 14) d_Mg_moveOf_14 rfl rfl (Nat.le_refl _) ⟨rfl, _, rfl, h⟩
set_option maxRecDepth 4000 in
theorem e_Mg_slipped {l : Launch} {d : Nat} {sh : aw_SH} {S : aw_S} {P : Int32 → aw_S → Prop} {a : Nat} {p0 : Int32} {p1 : Int32} (sa : sh[a]? = some (0, 0)) (h : Sp l m_Mg_isWithin d 0 0 [.int p0, .int 0, .int 12] sh S (gI sh (fun x2 S1 => ((x2 = 0 → Sp l m_Mg_refuse d 0 0 [.ref a, .int 1] sh S1 (gI sh (fun x5 S4 => ((x5 = 0 ∨ x5 = 1) ∧ P x5 S4)))) ∧ (¬ x2 = 0 → Sp l m_Mg_isWithin d 0 0 [.int p1, .int 0, .int 12] sh S1 (gI sh (fun x8 S7 => ((¬ x8 = 0 → ∃ r10, S7.2.2 a 18 = some r10 ∧ ∃ r11, S7.2.2 a 6 = some r11 ∧ sh[r11]? = some (0, 2) ∧ sh[r10]? = some (0, 10) ∧ Sp l m_Ch_setSlips d 0 0 [.ref r10, .int (S7.1 r11 1), .int p0, .int p1] sh S7 (gV sh (fun S14 => Sp l m_Mg_grant d 0 0 [.ref a] sh S14 (gI sh (fun x16 S15 => ((x16 = 0 ∨ x16 = 1) ∧ P x16 S15)))))) ∧ (x8 = 0 → Sp l m_Mg_refuse d 0 0 [.ref a, .int 1] sh S7 (gI sh (fun x19 S18 => ((x19 = 0 ∨ x19 = 1) ∧ P x19 S18)))))))))))) : Sp l m_Mg_slipped (d + 1) 0 0 [.ref a, .int p0, .int p1] sh S (gI sh P) := by
  refine Sp.of k_Mg_slipped (ls := [.ref a, .int p0, .int p1]) rfl (Nat.le_of_ble_eq_true rfl) ?_
  refine r_iload_n (pc := 0) d_Mg_slipped_0 (x := p0) rfl ?_
  refine r_iconst (pc := 1) d_Mg_slipped_1 (v := 0) (by decide) ?_
  refine r_bipush (pc := 2) d_Mg_slipped_2 (v := 12) (by decide) ?_
  refine r_callS (pc := 4) (k := 0) (As := [.int p0, .int 0, .int 12]) (rest := []) (mc' := 0) (ms' := 0) lk_Mg_110 st_Mg_isWithin d_Mg_slipped_4 k_Mg_isWithin rfl rfl (Nat.le_of_ble_eq_true rfl) (by decide) (by decide) (Sp.mono h ?_)
  rintro rS1 shS1 S1 ⟨qS1, x2, uS1, h⟩
  subst uS1
  rw [qS1]
  refine r_if_eq (pc := 7) d_Mg_slipped_7 (tgt := 20) (by decide) (fun c3 => ?_) (fun c3 => ?_)
  · replace h := h.1 c3
    refine r_aload_n (pc := 20) d_Mg_slipped_20 (x := a) rfl ?_
    refine r_iconst (pc := 21) d_Mg_slipped_21 (v := 1) (by decide) ?_
    refine r_callV (pc := 22) (k := a) (As := [.int 1]) (rest := []) (mc' := 0) (ms' := 0) lk_Mg_114 in_Mg_refuse se_Mg_refuse sa rfl d_Mg_slipped_22 k_Mg_refuse rfl rfl (Nat.le_of_ble_eq_true rfl) (by decide) (by decide) (Sp.mono h ?_)
    rintro rS4 shS4 S4 ⟨qS4, x5, uS4, h⟩
    subst uS4
    rw [qS4]
    obtain ⟨g6, h⟩ := h
    exact r_zreturn (pc := 25) d_Mg_slipped_25 rfl (aw_nb g6) rfl (Nat.le_refl _) ⟨rfl, _, rfl, h⟩
  · replace h := h.2 c3
    refine r_iload_n (pc := 10) d_Mg_slipped_10 (x := p1) rfl ?_
    refine r_iconst (pc := 11) d_Mg_slipped_11 (v := 0) (by decide) ?_
    refine r_bipush (pc := 12) d_Mg_slipped_12 (v := 12) (by decide) ?_
    refine r_callS (pc := 14) (k := 0) (As := [.int p1, .int 0, .int 12]) (rest := []) (mc' := 0) (ms' := 0) lk_Mg_110 st_Mg_isWithin d_Mg_slipped_14 k_Mg_isWithin rfl rfl (Nat.le_of_ble_eq_true rfl) (by decide) (by decide) (Sp.mono h ?_)
    rintro rS7 shS7 S7 ⟨qS7, x8, uS7, h⟩
    subst uS7
    rw [qS7]
    refine r_if_ne (pc := 17) d_Mg_slipped_17 (tgt := 26) (by decide) (fun c9 => ?_) (fun c9 => ?_)
    · replace h := h.1 c9
      refine r_aload_n (pc := 26) d_Mg_slipped_26 (x := a) rfl ?_
      obtain ⟨r10, er10, h⟩ := h
      refine r_getR (pc := 27) d_Mg_slipped_27 f_Mg_92 sa (Or.inl ⟨_, rfl⟩) (r := r10) er10 ?_
      refine r_aload_n (pc := 30) d_Mg_slipped_30 (x := a) rfl ?_
      obtain ⟨r11, er11, h⟩ := h
      refine r_getR (pc := 31) d_Mg_slipped_31 f_Mg_30 sa (Or.inl ⟨_, rfl⟩) (r := r11) er11 ?_
      obtain ⟨s12, h⟩ := h
      refine r_getI (pc := 34) d_Mg_slipped_34 f_Mg_201 s12 rfl ?_
      refine r_iload_n (pc := 37) d_Mg_slipped_37 (x := p0) rfl ?_
      refine r_iload_n (pc := 38) d_Mg_slipped_38 (x := p1) rfl ?_
      obtain ⟨s13, h⟩ := h
      refine r_callV (pc := 39) (k := r10) (As := [.int (S7.1 r11 1), .int p0, .int p1]) (rest := []) (mc' := 0) (ms' := 0) lk_Mg_348 in_Ch_setSlips se_Ch_setSlips s13 rfl d_Mg_slipped_39 k_Ch_setSlips rfl rfl (Nat.le_of_ble_eq_true rfl) (by decide) (by decide) (Sp.mono h ?_)
      rintro rS14 shS14 S14 ⟨qS14, uS14, h⟩
      subst uS14
      rw [qS14]
      refine r_aload_n (pc := 42) d_Mg_slipped_42 (x := a) rfl ?_
      refine r_callV (pc := 43) (k := a) (As := []) (rest := []) (mc' := 0) (ms' := 0) lk_Mg_121 in_Mg_grant se_Mg_grant sa rfl d_Mg_slipped_43 k_Mg_grant rfl rfl (Nat.le_of_ble_eq_true rfl) (by decide) (by decide) (Sp.mono h ?_)
      rintro rS15 shS15 S15 ⟨qS15, x16, uS15, h⟩
      subst uS15
      rw [qS15]
      obtain ⟨g17, h⟩ := h
      exact r_zreturn (pc := 46) d_Mg_slipped_46 rfl (aw_nb g17) rfl (Nat.le_refl _) ⟨rfl, _, rfl, h⟩
    · replace h := h.2 c9
      refine r_aload_n (pc := 20) d_Mg_slipped_20 (x := a) rfl ?_
      refine r_iconst (pc := 21) d_Mg_slipped_21 (v := 1) (by decide) ?_
      refine r_callV (pc := 22) (k := a) (As := [.int 1]) (rest := []) (mc' := 0) (ms' := 0) lk_Mg_114 in_Mg_refuse se_Mg_refuse sa rfl d_Mg_slipped_22 k_Mg_refuse rfl rfl (Nat.le_of_ble_eq_true rfl) (by decide) (by decide) (Sp.mono h ?_)
      rintro rS18 shS18 S18 ⟨qS18, x19, uS18, h⟩
      subst uS18
      rw [qS18]
      obtain ⟨g20, h⟩ := h
      exact r_zreturn (pc := 25) d_Mg_slipped_25 rfl (aw_nb g20) rfl (Nat.le_refl _) ⟨rfl, _, rfl, h⟩
set_option maxRecDepth 4000 in
theorem e_Mg_drift {l : Launch} {d : Nat} {sh : aw_SH} {S : aw_S} {P : Int32 → aw_S → Prop} {a : Nat} {p0 : Int32} {p1 : Int32} {p2 : Int32} (sa : sh[a]? = some (0, 0)) (h : Sp l m_Mg_isDancer d 0 0 [.ref a, .int p0] sh S (gI sh (fun x2 S1 => ((x2 = 0 → Sp l m_Mg_refuse d 0 0 [.ref a, .int 1] sh S1 (gI sh (fun x5 S4 => ((x5 = 0 ∨ x5 = 1) ∧ P x5 S4)))) ∧ (¬ x2 = 0 → Sp l m_Mg_isPlace d 0 0 [.ref a, .int p1] sh S1 (gI sh (fun x8 S7 => ((x8 = 0 → Sp l m_Mg_refuse d 0 0 [.ref a, .int 1] sh S7 (gI sh (fun x11 S10 => ((x11 = 0 ∨ x11 = 1) ∧ P x11 S10)))) ∧ (¬ x8 = 0 → Sp l m_Mg_isWithin d 0 0 [.int p2, .int 0, .int 5] sh S7 (gI sh (fun x14 S13 => ((¬ x14 = 0 → ∃ r16, S13.2.2 a 6 = some r16 ∧ sh[r16]? = some (0, 2) ∧ Sp l m_Gr_gaps d 0 0 [.ref r16] sh S13 (gI sh (fun x19 S18 => ((¬ x19 = 0 → ∃ r21, S18.2.2 a 18 = some r21 ∧ ∃ r22, S18.2.2 a 6 = some r22 ∧ sh[r22]? = some (0, 2) ∧ ∃ r24, S18.2.2 r22 7 = some r24 ∧ ∃ n26, sh[r24]? = some (3, n26) ∧ vp_in p0 n26 ∧ sh[r21]? = some (0, 10) ∧ Sp l m_Ch_setDrift d 0 0 [.ref r21, .ref r22, .int (S18.1 r24 p0.toNatClampNeg), .int p1, .int p2] sh S18 (gV sh (fun S29 => Sp l m_Mg_grant d 0 0 [.ref a] sh S29 (gI sh (fun x31 S30 => ((x31 = 0 ∨ x31 = 1) ∧ P x31 S30)))))) ∧ (x19 = 0 → ((p2 ≤ 0 → ∃ r34, S18.2.2 a 18 = some r34 ∧ ∃ r35, S18.2.2 a 6 = some r35 ∧ sh[r35]? = some (0, 2) ∧ ∃ r37, S18.2.2 r35 7 = some r37 ∧ ∃ n39, sh[r37]? = some (3, n39) ∧ vp_in p0 n39 ∧ sh[r34]? = some (0, 10) ∧ Sp l m_Ch_setDrift d 0 0 [.ref r34, .ref r35, .int (S18.1 r37 p0.toNatClampNeg), .int p1, .int p2] sh S18 (gV sh (fun S42 => Sp l m_Mg_grant d 0 0 [.ref a] sh S42 (gI sh (fun x44 S43 => ((x44 = 0 ∨ x44 = 1) ∧ P x44 S43)))))) ∧ (¬ p2 ≤ 0 → Sp l m_Mg_refuse d 0 0 [.ref a, .int 6] sh S18 (gI sh (fun x47 S46 => ((x47 = 0 ∨ x47 = 1) ∧ P x47 S46)))))))))) ∧ (x14 = 0 → Sp l m_Mg_refuse d 0 0 [.ref a, .int 1] sh S13 (gI sh (fun x50 S49 => ((x50 = 0 ∨ x50 = 1) ∧ P x50 S49)))))))))))))))) : Sp l m_Mg_drift (d + 1) 0 0 [.ref a, .int p0, .int p1, .int p2] sh S (gI sh P) := by
  refine Sp.of k_Mg_drift (ls := [.ref a, .int p0, .int p1, .int p2]) rfl (Nat.le_of_ble_eq_true rfl) ?_
  refine r_aload_n (pc := 0) d_Mg_drift_0 (x := a) rfl ?_
  refine r_iload_n (pc := 1) d_Mg_drift_1 (x := p0) rfl ?_
  refine r_callV (pc := 2) (k := a) (As := [.int p0]) (rest := []) (mc' := 0) (ms' := 0) lk_Mg_225 in_Mg_isDancer se_Mg_isDancer sa rfl d_Mg_drift_2 k_Mg_isDancer rfl rfl (Nat.le_of_ble_eq_true rfl) (by decide) (by decide) (Sp.mono h ?_)
  rintro rS1 shS1 S1 ⟨qS1, x2, uS1, h⟩
  subst uS1
  rw [qS1]
  refine r_if_eq (pc := 5) d_Mg_drift_5 (tgt := 25) (by decide) (fun c3 => ?_) (fun c3 => ?_)
  · replace h := h.1 c3
    refine r_aload_n (pc := 25) d_Mg_drift_25 (x := a) rfl ?_
    refine r_iconst (pc := 26) d_Mg_drift_26 (v := 1) (by decide) ?_
    refine r_callV (pc := 27) (k := a) (As := [.int 1]) (rest := []) (mc' := 0) (ms' := 0) lk_Mg_114 in_Mg_refuse se_Mg_refuse sa rfl d_Mg_drift_27 k_Mg_refuse rfl rfl (Nat.le_of_ble_eq_true rfl) (by decide) (by decide) (Sp.mono h ?_)
    rintro rS4 shS4 S4 ⟨qS4, x5, uS4, h⟩
    subst uS4
    rw [qS4]
    obtain ⟨g6, h⟩ := h
    exact r_zreturn (pc := 30) d_Mg_drift_30 rfl (aw_nb g6) rfl (Nat.le_refl _) ⟨rfl, _, rfl, h⟩
  · replace h := h.2 c3
    refine r_aload_n (pc := 8) d_Mg_drift_8 (x := a) rfl ?_
    refine r_iload_n (pc := 9) d_Mg_drift_9 (x := p1) rfl ?_
    refine r_callV (pc := 10) (k := a) (As := [.int p1]) (rest := []) (mc' := 0) (ms' := 0) lk_Mg_243 in_Mg_isPlace se_Mg_isPlace sa rfl d_Mg_drift_10 k_Mg_isPlace rfl rfl (Nat.le_of_ble_eq_true rfl) (by decide) (by decide) (Sp.mono h ?_)
    rintro rS7 shS7 S7 ⟨qS7, x8, uS7, h⟩
    subst uS7
    rw [qS7]
    refine r_if_eq (pc := 13) d_Mg_drift_13 (tgt := 25) (by decide) (fun c9 => ?_) (fun c9 => ?_)
    · replace h := h.1 c9
      refine r_aload_n (pc := 25) d_Mg_drift_25 (x := a) rfl ?_
      refine r_iconst (pc := 26) d_Mg_drift_26 (v := 1) (by decide) ?_
      refine r_callV (pc := 27) (k := a) (As := [.int 1]) (rest := []) (mc' := 0) (ms' := 0) lk_Mg_114 in_Mg_refuse se_Mg_refuse sa rfl d_Mg_drift_27 k_Mg_refuse rfl rfl (Nat.le_of_ble_eq_true rfl) (by decide) (by decide) (Sp.mono h ?_)
      rintro rS10 shS10 S10 ⟨qS10, x11, uS10, h⟩
      subst uS10
      rw [qS10]
      obtain ⟨g12, h⟩ := h
      exact r_zreturn (pc := 30) d_Mg_drift_30 rfl (aw_nb g12) rfl (Nat.le_refl _) ⟨rfl, _, rfl, h⟩
    · replace h := h.2 c9
      refine r_iload_n (pc := 16) d_Mg_drift_16 (x := p2) rfl ?_
      refine r_iconst (pc := 17) d_Mg_drift_17 (v := 0) (by decide) ?_
      refine r_iconst (pc := 18) d_Mg_drift_18 (v := 5) (by decide) ?_
      refine r_callS (pc := 19) (k := 0) (As := [.int p2, .int 0, .int 5]) (rest := []) (mc' := 0) (ms' := 0) lk_Mg_110 st_Mg_isWithin d_Mg_drift_19 k_Mg_isWithin rfl rfl (Nat.le_of_ble_eq_true rfl) (by decide) (by decide) (Sp.mono h ?_)
      rintro rS13 shS13 S13 ⟨qS13, x14, uS13, h⟩
      subst uS13
      rw [qS13]
      refine r_if_ne (pc := 22) d_Mg_drift_22 (tgt := 31) (by decide) (fun c15 => ?_) (fun c15 => ?_)
      · replace h := h.1 c15
        refine r_aload_n (pc := 31) d_Mg_drift_31 (x := a) rfl ?_
        obtain ⟨r16, er16, h⟩ := h
        refine r_getR (pc := 32) d_Mg_drift_32 f_Mg_30 sa (Or.inl ⟨_, rfl⟩) (r := r16) er16 ?_
        obtain ⟨s17, h⟩ := h
        refine r_callV (pc := 35) (k := r16) (As := []) (rest := []) (mc' := 0) (ms' := 0) lk_Mg_191 in_Gr_gaps se_Gr_gaps s17 rfl d_Mg_drift_35 k_Gr_gaps rfl rfl (Nat.le_of_ble_eq_true rfl) (by decide) (by decide) (Sp.mono h ?_)
        rintro rS18 shS18 S18 ⟨qS18, x19, uS18, h⟩
        subst uS18
        rw [qS18]
        refine r_if_ne (pc := 38) d_Mg_drift_38 (tgt := 52) (by decide) (fun c20 => ?_) (fun c20 => ?_)
        · replace h := h.1 c20
          refine r_aload_n (pc := 52) d_Mg_drift_52 (x := a) rfl ?_
          obtain ⟨r21, er21, h⟩ := h
          refine r_getR (pc := 53) d_Mg_drift_53 f_Mg_92 sa (Or.inl ⟨_, rfl⟩) (r := r21) er21 ?_
          refine r_aload_n (pc := 56) d_Mg_drift_56 (x := a) rfl ?_
          obtain ⟨r22, er22, h⟩ := h
          refine r_getR (pc := 57) d_Mg_drift_57 f_Mg_30 sa (Or.inl ⟨_, rfl⟩) (r := r22) er22 ?_
          refine r_aload_n (pc := 60) d_Mg_drift_60 (x := a) rfl ?_
          refine r_getR (pc := 61) d_Mg_drift_61 f_Mg_30 sa (Or.inl ⟨_, rfl⟩) (r := r22) er22 ?_
          obtain ⟨s23, h⟩ := h
          obtain ⟨r24, er24, h⟩ := h
          refine r_getR (pc := 64) d_Mg_drift_64 f_Mg_228 s23 (Or.inr ⟨_, rfl⟩) (r := r24) er24 ?_
          refine r_iload_n (pc := 67) d_Mg_drift_67 (x := p0) rfl ?_
          obtain ⟨n26, s25, h⟩ := h
          obtain ⟨g27, h⟩ := h
          refine r_iald (pc := 68) d_Mg_drift_68 s25 g27 ?_
          refine r_iload_n (pc := 69) d_Mg_drift_69 (x := p1) rfl ?_
          refine r_iload_n (pc := 70) d_Mg_drift_70 (x := p2) rfl ?_
          obtain ⟨s28, h⟩ := h
          refine r_callV (pc := 71) (k := r21) (As := [.ref r22, .int (S18.1 r24 p0.toNatClampNeg), .int p1, .int p2]) (rest := []) (mc' := 0) (ms' := 0) lk_Mg_352 in_Ch_setDrift se_Ch_setDrift s28 rfl d_Mg_drift_71 k_Ch_setDrift rfl rfl (Nat.le_of_ble_eq_true rfl) (by decide) (by decide) (Sp.mono h ?_)
          rintro rS29 shS29 S29 ⟨qS29, uS29, h⟩
          subst uS29
          rw [qS29]
          refine r_aload_n (pc := 74) d_Mg_drift_74 (x := a) rfl ?_
          refine r_callV (pc := 75) (k := a) (As := []) (rest := []) (mc' := 0) (ms' := 0) lk_Mg_121 in_Mg_grant se_Mg_grant sa rfl d_Mg_drift_75 k_Mg_grant rfl rfl (Nat.le_of_ble_eq_true rfl) (by decide) (by decide) (Sp.mono h ?_)
          rintro rS30 shS30 S30 ⟨qS30, x31, uS30, h⟩
          subst uS30
          rw [qS30]
          obtain ⟨g32, h⟩ := h
          exact r_zreturn (pc := 78) d_Mg_drift_78 rfl (aw_nb g32) rfl (Nat.le_refl _) ⟨rfl, _, rfl, h⟩
        · replace h := h.2 c20
          refine r_iload_n (pc := 41) d_Mg_drift_41 (x := p2) rfl ?_
          refine r_if_le (pc := 42) d_Mg_drift_42 (tgt := 52) (by decide) (fun c33 => ?_) (fun c33 => ?_)
          · replace h := h.1 c33
            refine r_aload_n (pc := 52) d_Mg_drift_52 (x := a) rfl ?_
            obtain ⟨r34, er34, h⟩ := h
            refine r_getR (pc := 53) d_Mg_drift_53 f_Mg_92 sa (Or.inl ⟨_, rfl⟩) (r := r34) er34 ?_
            refine r_aload_n (pc := 56) d_Mg_drift_56 (x := a) rfl ?_
            obtain ⟨r35, er35, h⟩ := h
            refine r_getR (pc := 57) d_Mg_drift_57 f_Mg_30 sa (Or.inl ⟨_, rfl⟩) (r := r35) er35 ?_
            refine r_aload_n (pc := 60) d_Mg_drift_60 (x := a) rfl ?_
            refine r_getR (pc := 61) d_Mg_drift_61 f_Mg_30 sa (Or.inl ⟨_, rfl⟩) (r := r35) er35 ?_
            obtain ⟨s36, h⟩ := h
            obtain ⟨r37, er37, h⟩ := h
            refine r_getR (pc := 64) d_Mg_drift_64 f_Mg_228 s36 (Or.inr ⟨_, rfl⟩) (r := r37) er37 ?_
            refine r_iload_n (pc := 67) d_Mg_drift_67 (x := p0) rfl ?_
            obtain ⟨n39, s38, h⟩ := h
            obtain ⟨g40, h⟩ := h
            refine r_iald (pc := 68) d_Mg_drift_68 s38 g40 ?_
            refine r_iload_n (pc := 69) d_Mg_drift_69 (x := p1) rfl ?_
            refine r_iload_n (pc := 70) d_Mg_drift_70 (x := p2) rfl ?_
            obtain ⟨s41, h⟩ := h
            refine r_callV (pc := 71) (k := r34) (As := [.ref r35, .int (S18.1 r37 p0.toNatClampNeg), .int p1, .int p2]) (rest := []) (mc' := 0) (ms' := 0) lk_Mg_352 in_Ch_setDrift se_Ch_setDrift s41 rfl d_Mg_drift_71 k_Ch_setDrift rfl rfl (Nat.le_of_ble_eq_true rfl) (by decide) (by decide) (Sp.mono h ?_)
            rintro rS42 shS42 S42 ⟨qS42, uS42, h⟩
            subst uS42
            rw [qS42]
            refine r_aload_n (pc := 74) d_Mg_drift_74 (x := a) rfl ?_
            refine r_callV (pc := 75) (k := a) (As := []) (rest := []) (mc' := 0) (ms' := 0) lk_Mg_121 in_Mg_grant se_Mg_grant sa rfl d_Mg_drift_75 k_Mg_grant rfl rfl (Nat.le_of_ble_eq_true rfl) (by decide) (by decide) (Sp.mono h ?_)
            rintro rS43 shS43 S43 ⟨qS43, x44, uS43, h⟩
            subst uS43
            rw [qS43]
            obtain ⟨g45, h⟩ := h
            exact r_zreturn (pc := 78) d_Mg_drift_78 rfl (aw_nb g45) rfl (Nat.le_refl _) ⟨rfl, _, rfl, h⟩
          · replace h := h.2 c33
            refine r_aload_n (pc := 45) d_Mg_drift_45 (x := a) rfl ?_
            refine r_bipush (pc := 46) d_Mg_drift_46 (v := 6) (by decide) ?_
            refine r_callV (pc := 48) (k := a) (As := [.int 6]) (rest := []) (mc' := 0) (ms' := 0) lk_Mg_114 in_Mg_refuse se_Mg_refuse sa rfl d_Mg_drift_48 k_Mg_refuse rfl rfl (Nat.le_of_ble_eq_true rfl) (by decide) (by decide) (Sp.mono h ?_)
            rintro rS46 shS46 S46 ⟨qS46, x47, uS46, h⟩
            subst uS46
            rw [qS46]
            obtain ⟨g48, h⟩ := h
            exact r_zreturn (pc := 51) d_Mg_drift_51 rfl (aw_nb g48) rfl (Nat.le_refl _) ⟨rfl, _, rfl, h⟩
      · replace h := h.2 c15
        refine r_aload_n (pc := 25) d_Mg_drift_25 (x := a) rfl ?_
        refine r_iconst (pc := 26) d_Mg_drift_26 (v := 1) (by decide) ?_
        refine r_callV (pc := 27) (k := a) (As := [.int 1]) (rest := []) (mc' := 0) (ms' := 0) lk_Mg_114 in_Mg_refuse se_Mg_refuse sa rfl d_Mg_drift_27 k_Mg_refuse rfl rfl (Nat.le_of_ble_eq_true rfl) (by decide) (by decide) (Sp.mono h ?_)
        rintro rS49 shS49 S49 ⟨qS49, x50, uS49, h⟩
        subst uS49
        rw [qS49]
        obtain ⟨g51, h⟩ := h
        exact r_zreturn (pc := 30) d_Mg_drift_30 rfl (aw_nb g51) rfl (Nat.le_refl _) ⟨rfl, _, rfl, h⟩
set_option maxRecDepth 4000 in
theorem e_Mg_share {l : Launch} {d : Nat} {sh : aw_SH} {S : aw_S} {P : Int32 → aw_S → Prop} {a : Nat} {p0 : Int32} (sa : sh[a]? = some (0, 0)) (h : Sp l m_Mg_isDancer d 0 0 [.ref a, .int p0] sh S (gI sh (fun x2 S1 => ((¬ x2 = 0 → ∃ r4, S1.2.2 a 6 = some r4 ∧ sh[r4]? = some (0, 2) ∧ ∃ r6, S1.2.2 r4 10 = some r6 ∧ sh[r6]? = some (0, 3) ∧ ((¬ (S1.1 r6 1) = 0 → ∃ r9, S1.2.2 a 18 = some r9 ∧ Sp l m_Pl_timesOver d 0 0 [.ref r6, .int p0] sh S1 (gI sh (fun x11 S10 => ∃ r12, S10.2.2 a 6 = some r12 ∧ sh[r12]? = some (0, 2) ∧ ∃ r14, S10.2.2 r12 10 = some r14 ∧ sh[r14]? = some (0, 3) ∧ sh[r9]? = some (0, 10) ∧ Sp l m_Ch_set d 0 0 [.ref r9, .long x11.toInt64, .long ((S10.1 r14 1).toInt64)] sh S10 (gV sh (fun S17 => Sp l m_Mg_grant d 0 0 [.ref a] sh S17 (gI sh (fun x19 S18 => ((x19 = 0 ∨ x19 = 1) ∧ P x19 S18)))))))) ∧ ((S1.1 r6 1) = 0 → Sp l m_Mg_refuse d 0 0 [.ref a, .int 6] sh S1 (gI sh (fun x22 S21 => ((x22 = 0 ∨ x22 = 1) ∧ P x22 S21)))))) ∧ (x2 = 0 → Sp l m_Mg_refuse d 0 0 [.ref a, .int 1] sh S1 (gI sh (fun x25 S24 => ((x25 = 0 ∨ x25 = 1) ∧ P x25 S24)))))))) : Sp l m_Mg_share (d + 1) 0 0 [.ref a, .int p0] sh S (gI sh P) := by
  refine Sp.of k_Mg_share (ls := [.ref a, .int p0]) rfl (Nat.le_of_ble_eq_true rfl) ?_
  refine r_aload_n (pc := 0) d_Mg_share_0 (x := a) rfl ?_
  refine r_iload_n (pc := 1) d_Mg_share_1 (x := p0) rfl ?_
  refine r_callV (pc := 2) (k := a) (As := [.int p0]) (rest := []) (mc' := 0) (ms' := 0) lk_Mg_225 in_Mg_isDancer se_Mg_isDancer sa rfl d_Mg_share_2 k_Mg_isDancer rfl rfl (Nat.le_of_ble_eq_true rfl) (by decide) (by decide) (Sp.mono h ?_)
  rintro rS1 shS1 S1 ⟨qS1, x2, uS1, h⟩
  subst uS1
  rw [qS1]
  refine r_if_ne (pc := 5) d_Mg_share_5 (tgt := 14) (by decide) (fun c3 => ?_) (fun c3 => ?_)
  · replace h := h.1 c3
    refine r_aload_n (pc := 14) d_Mg_share_14 (x := a) rfl ?_
    obtain ⟨r4, er4, h⟩ := h
    refine r_getR (pc := 15) d_Mg_share_15 f_Mg_30 sa (Or.inl ⟨_, rfl⟩) (r := r4) er4 ?_
    obtain ⟨s5, h⟩ := h
    obtain ⟨r6, er6, h⟩ := h
    refine r_getR (pc := 18) d_Mg_share_18 f_Mg_195 s5 (Or.inl ⟨_, rfl⟩) (r := r6) er6 ?_
    obtain ⟨s7, h⟩ := h
    refine r_getI (pc := 21) d_Mg_share_21 f_Mg_198 s7 rfl ?_
    refine r_if_ne (pc := 24) d_Mg_share_24 (tgt := 34) (by decide) (fun c8 => ?_) (fun c8 => ?_)
    · replace h := h.1 c8
      refine r_aload_n (pc := 34) d_Mg_share_34 (x := a) rfl ?_
      obtain ⟨r9, er9, h⟩ := h
      refine r_getR (pc := 35) d_Mg_share_35 f_Mg_92 sa (Or.inl ⟨_, rfl⟩) (r := r9) er9 ?_
      refine r_aload_n (pc := 38) d_Mg_share_38 (x := a) rfl ?_
      refine r_getR (pc := 39) d_Mg_share_39 f_Mg_30 sa (Or.inl ⟨_, rfl⟩) (r := r4) er4 ?_
      refine r_getR (pc := 42) d_Mg_share_42 f_Mg_195 s5 (Or.inl ⟨_, rfl⟩) (r := r6) er6 ?_
      refine r_iload_n (pc := 45) d_Mg_share_45 (x := p0) rfl ?_
      refine r_callV (pc := 46) (k := r6) (As := [.int p0]) (rest := [.ref r9]) (mc' := 0) (ms' := 0) lk_Mg_237 in_Pl_timesOver se_Pl_timesOver s7 rfl d_Mg_share_46 k_Pl_timesOver rfl rfl (Nat.le_of_ble_eq_true rfl) (by decide) (by decide) (Sp.mono h ?_)
      rintro rS10 shS10 S10 ⟨qS10, x11, uS10, h⟩
      subst uS10
      rw [qS10]
      refine r_i2l (pc := 49) d_Mg_share_49 ?_
      refine r_aload_n (pc := 50) d_Mg_share_50 (x := a) rfl ?_
      obtain ⟨r12, er12, h⟩ := h
      refine r_getR (pc := 51) d_Mg_share_51 f_Mg_30 sa (Or.inl ⟨_, rfl⟩) (r := r12) er12 ?_
      obtain ⟨s13, h⟩ := h
      obtain ⟨r14, er14, h⟩ := h
      refine r_getR (pc := 54) d_Mg_share_54 f_Mg_195 s13 (Or.inl ⟨_, rfl⟩) (r := r14) er14 ?_
      obtain ⟨s15, h⟩ := h
      refine r_getI (pc := 57) d_Mg_share_57 f_Mg_198 s15 rfl ?_
      refine r_i2l (pc := 60) d_Mg_share_60 ?_
      obtain ⟨s16, h⟩ := h
      refine r_callV (pc := 61) (k := r9) (As := [.long x11.toInt64, .long ((S10.1 r14 1).toInt64)]) (rest := []) (mc' := 0) (ms' := 0) lk_Mg_356 in_Ch_set se_Ch_set s16 rfl d_Mg_share_61 k_Ch_set rfl rfl (Nat.le_of_ble_eq_true rfl) (by decide) (by decide) (Sp.mono h ?_)
      rintro rS17 shS17 S17 ⟨qS17, uS17, h⟩
      subst uS17
      rw [qS17]
      refine r_aload_n (pc := 64) d_Mg_share_64 (x := a) rfl ?_
      refine r_callV (pc := 65) (k := a) (As := []) (rest := []) (mc' := 0) (ms' := 0) lk_Mg_121 in_Mg_grant se_Mg_grant sa rfl d_Mg_share_65 k_Mg_grant rfl rfl (Nat.le_of_ble_eq_true rfl) (by decide) (by decide) (Sp.mono h ?_)
      rintro rS18 shS18 S18 ⟨qS18, x19, uS18, h⟩
      subst uS18
      rw [qS18]
      obtain ⟨g20, h⟩ := h
      exact r_zreturn (pc := 68) d_Mg_share_68 rfl (aw_nb g20) rfl (Nat.le_refl _) ⟨rfl, _, rfl, h⟩
    · replace h := h.2 c8
      refine r_aload_n (pc := 27) d_Mg_share_27 (x := a) rfl ?_
      refine r_bipush (pc := 28) d_Mg_share_28 (v := 6) (by decide) ?_
      refine r_callV (pc := 30) (k := a) (As := [.int 6]) (rest := []) (mc' := 0) (ms' := 0) lk_Mg_114 in_Mg_refuse se_Mg_refuse sa rfl d_Mg_share_30 k_Mg_refuse rfl rfl (Nat.le_of_ble_eq_true rfl) (by decide) (by decide) (Sp.mono h ?_)
      rintro rS21 shS21 S21 ⟨qS21, x22, uS21, h⟩
      subst uS21
      rw [qS21]
      obtain ⟨g23, h⟩ := h
      exact r_zreturn (pc := 33) d_Mg_share_33 rfl (aw_nb g23) rfl (Nat.le_refl _) ⟨rfl, _, rfl, h⟩
  · replace h := h.2 c3
    refine r_aload_n (pc := 8) d_Mg_share_8 (x := a) rfl ?_
    refine r_iconst (pc := 9) d_Mg_share_9 (v := 1) (by decide) ?_
    refine r_callV (pc := 10) (k := a) (As := [.int 1]) (rest := []) (mc' := 0) (ms' := 0) lk_Mg_114 in_Mg_refuse se_Mg_refuse sa rfl d_Mg_share_10 k_Mg_refuse rfl rfl (Nat.le_of_ble_eq_true rfl) (by decide) (by decide) (Sp.mono h ?_)
    rintro rS24 shS24 S24 ⟨qS24, x25, uS24, h⟩
    subst uS24
    rw [qS24]
    obtain ⟨g26, h⟩ := h
    exact r_zreturn (pc := 13) d_Mg_share_13 rfl (aw_nb g26) rfl (Nat.le_refl _) ⟨rfl, _, rfl, h⟩
set_option maxRecDepth 4000 in
theorem e_Mg_copyShows {l : Launch} {d : Nat} {sh : aw_SH} {S : aw_S} {P : Int32 → aw_S → Prop} {a : Nat} {p0 : Int32} (sa : sh[a]? = some (0, 0)) (h : Sp l m_Mg_isTray d 0 0 [.int p0] sh S (gI sh (fun x2 S1 => ((¬ x2 = 0 → ∃ r4, S1.2.2 a 0 = some r4 ∧ ∃ n6, sh[r4]? = some (5, n6) ∧ vp_in p0 n6 ∧ ∃ r8, S1.2.2 r4 p0.toNatClampNeg = some r8 ∧ sh[r8]? = some (0, 1) ∧ ((¬ (S1.1 r8 1) = 0 → ∃ r11, S1.2.2 a 6 = some r11 ∧ sh[r11]? = some (0, 2) ∧ Sp l m_Gr_gaps d 0 0 [.ref r11] sh S1 (gI sh (fun x14 S13 => ((x14 ≤ (S13.1 r8 3) → AW l m_Mg_copyShows (d + 1) 0 0 (gI sh P) 0 0 58 [.ref a, .null, .ref r8, .int x14, .int 0] [] sh S13) ∧ (¬ x14 ≤ (S13.1 r8 3) → Sp l m_Mg_fail d 0 0 [.ref a, .int 3] sh S13 (gI sh (fun x17 S16 => P x17 S16))))))) ∧ ((S1.1 r8 1) = 0 → Sp l m_Mg_fail d 0 0 [.ref a, .int 2] sh S1 (gI sh (fun x19 S18 => P x19 S18))))) ∧ (x2 = 0 → Sp l m_Mg_fail d 0 0 [.ref a, .int 1] sh S1 (gI sh (fun x21 S20 => P x21 S20))))))) : Sp l m_Mg_copyShows (d + 1) 0 0 [.ref a, .int p0] sh S (gI sh P) := by
  refine Sp.of k_Mg_copyShows (ls := [.ref a, .int p0, .null, .null, .null]) rfl (Nat.le_of_ble_eq_true rfl) ?_
  refine r_iload_n (pc := 0) d_Mg_copyShows_0 (x := p0) rfl ?_
  refine r_callS (pc := 1) (k := 0) (As := [.int p0]) (rest := []) (mc' := 0) (ms' := 0) lk_Mg_106 st_Mg_isTray d_Mg_copyShows_1 k_Mg_isTray rfl rfl (Nat.le_of_ble_eq_true rfl) (by decide) (by decide) (Sp.mono h ?_)
  rintro rS1 shS1 S1 ⟨qS1, x2, uS1, h⟩
  subst uS1
  rw [qS1]
  refine r_if_ne (pc := 4) d_Mg_copyShows_4 (tgt := 13) (by decide) (fun c3 => ?_) (fun c3 => ?_)
  · replace h := h.1 c3
    refine r_aload_n (pc := 13) d_Mg_copyShows_13 (x := a) rfl ?_
    obtain ⟨r4, er4, h⟩ := h
    refine r_getR (pc := 14) d_Mg_copyShows_14 f_Mg_11 sa (Or.inr ⟨_, rfl⟩) (r := r4) er4 ?_
    refine r_iload_n (pc := 17) d_Mg_copyShows_17 (x := p0) rfl ?_
    obtain ⟨n6, s5, h⟩ := h
    obtain ⟨g7, h⟩ := h
    obtain ⟨r8, er8, h⟩ := h
    refine r_aald5 (pc := 18) d_Mg_copyShows_18 s5 g7 (r := r8) er8 ?_
    refine r_astore_n (pc := 19) (hk := rfl) (hd := d_Mg_copyShows_19) (hi := by decide) (ls2 := [.ref a, .int p0, .ref r8, .null, .null]) (h2 := rfl) ?_
    refine r_aload_n (pc := 20) d_Mg_copyShows_20 (x := r8) rfl ?_
    obtain ⟨s9, h⟩ := h
    refine r_getI (pc := 21) d_Mg_copyShows_21 f_Mg_141 s9 rfl ?_
    refine r_if_ne (pc := 24) d_Mg_copyShows_24 (tgt := 33) (by decide) (fun c10 => ?_) (fun c10 => ?_)
    · replace h := h.1 c10
      refine r_aload_n (pc := 33) d_Mg_copyShows_33 (x := a) rfl ?_
      obtain ⟨r11, er11, h⟩ := h
      refine r_getR (pc := 34) d_Mg_copyShows_34 f_Mg_30 sa (Or.inl ⟨_, rfl⟩) (r := r11) er11 ?_
      obtain ⟨s12, h⟩ := h
      refine r_callV (pc := 37) (k := r11) (As := []) (rest := []) (mc' := 0) (ms' := 0) lk_Mg_191 in_Gr_gaps se_Gr_gaps s12 rfl d_Mg_copyShows_37 k_Gr_gaps rfl rfl (Nat.le_of_ble_eq_true rfl) (by decide) (by decide) (Sp.mono h ?_)
      rintro rS13 shS13 S13 ⟨qS13, x14, uS13, h⟩
      subst uS13
      rw [qS13]
      refine r_istore_n (pc := 40) (hk := rfl) (hd := d_Mg_copyShows_40) (hi := by decide) (ls2 := [.ref a, .int p0, .ref r8, .int x14, .null]) (h2 := rfl) ?_
      refine r_iload_n (pc := 41) d_Mg_copyShows_41 (x := x14) rfl ?_
      refine r_aload_n (pc := 42) d_Mg_copyShows_42 (x := r8) rfl ?_
      refine r_getI (pc := 43) d_Mg_copyShows_43 f_Mg_360 s9 rfl ?_
      refine r_icmp_le (pc := 46) d_Mg_copyShows_46 (tgt := 55) (by decide) (fun c15 => ?_) (fun c15 => ?_)
      · replace h := h.1 c15
        refine r_iconst (pc := 55) d_Mg_copyShows_55 (v := 0) (by decide) ?_
        refine r_istore (pc := 56) (hd := d_Mg_copyShows_56) (hi := by decide) (ls2 := [.ref a, .int p0, .ref r8, .int x14, .int 0]) (h2 := rfl) ?_
        exact r_weak (ls2 := [.ref a, .null, .ref r8, .int x14, .int 0]) ⟨Or.inr rfl, Or.inl rfl, Or.inr rfl, Or.inr rfl, Or.inr rfl, trivial⟩ h
      · replace h := h.2 c15
        refine r_aload_n (pc := 49) d_Mg_copyShows_49 (x := a) rfl ?_
        refine r_iconst (pc := 50) d_Mg_copyShows_50 (v := 3) (by decide) ?_
        refine r_callV (pc := 51) (k := a) (As := [.int 3]) (rest := []) (mc' := 0) (ms' := 0) lk_Mg_133 in_Mg_fail se_Mg_fail sa rfl d_Mg_copyShows_51 k_Mg_fail rfl rfl (Nat.le_of_ble_eq_true rfl) (by decide) (by decide) (Sp.mono h ?_)
        rintro rS16 shS16 S16 ⟨qS16, x17, uS16, h⟩
        subst uS16
        rw [qS16]
        exact r_ireturn (pc := 54) d_Mg_copyShows_54 rfl rfl (Nat.le_refl _) ⟨rfl, _, rfl, h⟩
    · replace h := h.2 c10
      refine r_aload_n (pc := 27) d_Mg_copyShows_27 (x := a) rfl ?_
      refine r_iconst (pc := 28) d_Mg_copyShows_28 (v := 2) (by decide) ?_
      refine r_callV (pc := 29) (k := a) (As := [.int 2]) (rest := []) (mc' := 0) (ms' := 0) lk_Mg_133 in_Mg_fail se_Mg_fail sa rfl d_Mg_copyShows_29 k_Mg_fail rfl rfl (Nat.le_of_ble_eq_true rfl) (by decide) (by decide) (Sp.mono h ?_)
      rintro rS18 shS18 S18 ⟨qS18, x19, uS18, h⟩
      subst uS18
      rw [qS18]
      exact r_ireturn (pc := 32) d_Mg_copyShows_32 rfl rfl (Nat.le_refl _) ⟨rfl, _, rfl, h⟩
  · replace h := h.2 c3
    refine r_aload_n (pc := 7) d_Mg_copyShows_7 (x := a) rfl ?_
    refine r_iconst (pc := 8) d_Mg_copyShows_8 (v := 1) (by decide) ?_
    refine r_callV (pc := 9) (k := a) (As := [.int 1]) (rest := []) (mc' := 0) (ms' := 0) lk_Mg_133 in_Mg_fail se_Mg_fail sa rfl d_Mg_copyShows_9 k_Mg_fail rfl rfl (Nat.le_of_ble_eq_true rfl) (by decide) (by decide) (Sp.mono h ?_)
    rintro rS20 shS20 S20 ⟨qS20, x21, uS20, h⟩
    subst uS20
    rw [qS20]
    exact r_ireturn (pc := 12) d_Mg_copyShows_12 rfl rfl (Nat.le_refl _) ⟨rfl, _, rfl, h⟩
set_option maxRecDepth 4000 in
theorem s_Mg_copyShows_58 {l : Launch} {d : Nat} {sh : aw_SH} {S : aw_S} {P : Int32 → aw_S → Prop} {a : Nat} {i2 : Nat} {i3 : Int32} {i4 : Int32} (sa : sh[a]? = some (0, 0)) (h : ((i3 ≤ i4 → Sp l m_Mg_give d 0 0 [.ref a, .int i3] sh S (gI sh (fun x3 S2 => P x3 S2))) ∧ (¬ i3 ≤ i4 → ∃ r4, S.2.2 a 6 = some r4 ∧ sh[r4]? = some (0, 2) ∧ ∃ r6, S.2.2 r4 10 = some r6 ∧ sh[r6]? = some (0, 3) ∧ Sp l m_Gr_colourIn d 0 0 [.ref r4, .int i4, .int (S.1 r6 1)] sh S (gI sh (fun x9 S8 => sh[i2]? = some (0, 1) ∧ Sp l m_Tr_put d 0 0 [.ref i2, .int i4, .long x9.toInt64] sh S8 (gV sh (fun S11 => AW l m_Mg_copyShows (d + 1) 0 0 (gI sh P) 0 0 58 [.ref a, .null, .ref i2, .int i3, .int (i4 + 1)] [] sh S11))))))) : AW l m_Mg_copyShows (d + 1) 0 0 (gI sh P) 0 0 58 [.ref a, .null, .ref i2, .int i3, .int i4] [] sh S := by
  refine r_iload (pc := 58) d_Mg_copyShows_58 (x := i4) rfl ?_
  refine r_iload_n (pc := 60) d_Mg_copyShows_60 (x := i3) rfl ?_
  refine r_icmp_ge (pc := 61) d_Mg_copyShows_61 (tgt := 96) (by decide) (fun c1 => ?_) (fun c1 => ?_)
  · replace h := h.1 c1
    refine r_aload_n (pc := 96) d_Mg_copyShows_96 (x := a) rfl ?_
    refine r_iload_n (pc := 97) d_Mg_copyShows_97 (x := i3) rfl ?_
    refine r_callV (pc := 98) (k := a) (As := [.int i3]) (rest := []) (mc' := 0) (ms' := 0) lk_Mg_174 in_Mg_give se_Mg_give sa rfl d_Mg_copyShows_98 k_Mg_give rfl rfl (Nat.le_of_ble_eq_true rfl) (by decide) (by decide) (Sp.mono h ?_)
    rintro rS2 shS2 S2 ⟨qS2, x3, uS2, h⟩
    subst uS2
    rw [qS2]
    exact r_ireturn (pc := 101) d_Mg_copyShows_101 rfl rfl (Nat.le_refl _) ⟨rfl, _, rfl, h⟩
  · replace h := h.2 c1
    refine r_aload_n (pc := 64) d_Mg_copyShows_64 (x := i2) rfl ?_
    refine r_iload (pc := 65) d_Mg_copyShows_65 (x := i4) rfl ?_
    refine r_aload_n (pc := 67) d_Mg_copyShows_67 (x := a) rfl ?_
    obtain ⟨r4, er4, h⟩ := h
    refine r_getR (pc := 68) d_Mg_copyShows_68 f_Mg_30 sa (Or.inl ⟨_, rfl⟩) (r := r4) er4 ?_
    refine r_iload (pc := 71) d_Mg_copyShows_71 (x := i4) rfl ?_
    refine r_aload_n (pc := 73) d_Mg_copyShows_73 (x := a) rfl ?_
    refine r_getR (pc := 74) d_Mg_copyShows_74 f_Mg_30 sa (Or.inl ⟨_, rfl⟩) (r := r4) er4 ?_
    obtain ⟨s5, h⟩ := h
    obtain ⟨r6, er6, h⟩ := h
    refine r_getR (pc := 77) d_Mg_copyShows_77 f_Mg_195 s5 (Or.inl ⟨_, rfl⟩) (r := r6) er6 ?_
    obtain ⟨s7, h⟩ := h
    refine r_getI (pc := 80) d_Mg_copyShows_80 f_Mg_198 s7 rfl ?_
    refine r_callV (pc := 83) (k := r4) (As := [.int i4, .int (S.1 r6 1)]) (rest := [.int i4, .ref i2]) (mc' := 0) (ms' := 0) lk_Mg_273 in_Gr_colourIn se_Gr_colourIn s5 rfl d_Mg_copyShows_83 k_Gr_colourIn rfl rfl (Nat.le_of_ble_eq_true rfl) (by decide) (by decide) (Sp.mono h ?_)
    rintro rS8 shS8 S8 ⟨qS8, x9, uS8, h⟩
    subst uS8
    rw [qS8]
    refine r_i2l (pc := 86) d_Mg_copyShows_86 ?_
    obtain ⟨s10, h⟩ := h
    refine r_callV (pc := 87) (k := i2) (As := [.int i4, .long x9.toInt64]) (rest := []) (mc' := 0) (ms' := 0) lk_Mg_129 in_Tr_put se_Tr_put s10 rfl d_Mg_copyShows_87 k_Tr_put rfl rfl (Nat.le_of_ble_eq_true rfl) (by decide) (by decide) (Sp.mono h ?_)
    rintro rS11 shS11 S11 ⟨qS11, uS11, h⟩
    subst uS11
    rw [qS11]
    refine r_iinc (pc := 90) d_Mg_copyShows_90 (hi := by decide) (x := i4) rfl (v := i4 + 1) rfl (ls2 := [.ref a, .null, .ref i2, .int i3, .int (i4 + 1)]) rfl ?_
    refine r_goto (pc := 93) d_Mg_copyShows_93 (tgt := 58) (by decide) ?_
    exact h
set_option maxRecDepth 4000 in
theorem e_Mg_live {l : Launch} {d : Nat} {sh : aw_SH} {S : aw_S} {P : Int32 → aw_S → Prop} {a : Nat} {p0 : Int32} (sa : sh[a]? = some (0, 0)) (h : Sp l m_Mg_isWithin d 0 0 [.int p0, .int 0, .int 9999] sh S (gI sh (fun x2 S1 => ((¬ x2 = 0 → ∃ r4, S1.2.2 a 6 = some r4 ∧ sh[r4]? = some (0, 2) ∧ ∃ r6, S1.2.2 r4 11 = some r6 ∧ sh[r6]? = some (0, 4) ∧ ((¬ (S1.1 r6 0) = 0 → ∃ r9, S1.2.2 a 12 = some r9 ∧ sh[r9]? = some (0, 7) ∧ Sp l m_Li_begin d 0 0 [.ref r9, .ref r4, .ref r6, .int p0] sh S1 (gV sh (fun S11 => ∃ r12, S11.2.2 a 12 = some r12 ∧ ∃ r13, S11.2.2 a 6 = some r13 ∧ sh[r13]? = some (0, 2) ∧ ∃ r15, S11.2.2 r13 11 = some r15 ∧ sh[r15]? = some (0, 4) ∧ sh[r12]? = some (0, 7) ∧ Sp l m_Li_doBlock d 0 0 [.ref r12, .int 0, .int (S11.1 r15 1), .int 0] sh S11 (gV sh (fun S18 => ∃ r19, S18.2.2 a 13 = some r19 ∧ ∃ r20, S18.2.2 a 12 = some r20 ∧ sh[r20]? = some (0, 7) ∧ ∃ n23, sh[r19]? = some (3, n23) ∧ vp_in 0 n23 ∧ ∃ r25, (aw_uI S18 r19 ((0 : Int32).toNatClampNeg) (S18.1 r20 1)).2.2 a 6 = some r25 ∧ sh[r25]? = some (0, 2) ∧ vp_in 2 n23 ∧ vp_in 3 n23 ∧ vp_in 2 n23 ∧ vp_in 3 n23 ∧ vp_in 1 n23 ∧ vp_in 4 n23 ∧ Sp l m_Mg_give d 0 0 [.ref a, .int ((aw_uI (aw_uI (aw_uI (aw_uI (aw_uI (aw_uI S18 r19 ((0 : Int32).toNatClampNeg) (S18.1 r20 1)) r19 ((2 : Int32).toNatClampNeg) (((aw_uI S18 r19 ((0 : Int32).toNatClampNeg) (S18.1 r20 1)).1 r25 3) - (S1.1 r4 3))) r19 ((3 : Int32).toNatClampNeg) (((aw_uI (aw_uI S18 r19 ((0 : Int32).toNatClampNeg) (S18.1 r20 1)) r19 ((2 : Int32).toNatClampNeg) (((aw_uI S18 r19 ((0 : Int32).toNatClampNeg) (S18.1 r20 1)).1 r25 3) - (S1.1 r4 3))).1 r25 4) - (S1.1 r4 4))) r19 ((1 : Int32).toNatClampNeg) (((aw_uI (aw_uI (aw_uI S18 r19 ((0 : Int32).toNatClampNeg) (S18.1 r20 1)) r19 ((2 : Int32).toNatClampNeg) (((aw_uI S18 r19 ((0 : Int32).toNatClampNeg) (S18.1 r20 1)).1 r25 3) - (S1.1 r4 3))) r19 ((3 : Int32).toNatClampNeg) (((aw_uI (aw_uI S18 r19 ((0 : Int32).toNatClampNeg) (S18.1 r20 1)) r19 ((2 : Int32).toNatClampNeg) (((aw_uI S18 r19 ((0 : Int32).toNatClampNeg) (S18.1 r20 1)).1 r25 3) - (S1.1 r4 3))).1 r25 4) - (S1.1 r4 4))).1 r19 (2 : Int32).toNatClampNeg) + ((aw_uI (aw_uI (aw_uI S18 r19 ((0 : Int32).toNatClampNeg) (S18.1 r20 1)) r19 ((2 : Int32).toNatClampNeg) (((aw_uI S18 r19 ((0 : Int32).toNatClampNeg) (S18.1 r20 1)).1 r25 3) - (S1.1 r4 3))) r19 ((3 : Int32).toNatClampNeg) (((aw_uI (aw_uI S18 r19 ((0 : Int32).toNatClampNeg) (S18.1 r20 1)) r19 ((2 : Int32).toNatClampNeg) (((aw_uI S18 r19 ((0 : Int32).toNatClampNeg) (S18.1 r20 1)).1 r25 3) - (S1.1 r4 3))).1 r25 4) - (S1.1 r4 4))).1 r19 (3 : Int32).toNatClampNeg))) r19 ((4 : Int32).toNatClampNeg) ((aw_uI (aw_uI (aw_uI (aw_uI S18 r19 ((0 : Int32).toNatClampNeg) (S18.1 r20 1)) r19 ((2 : Int32).toNatClampNeg) (((aw_uI S18 r19 ((0 : Int32).toNatClampNeg) (S18.1 r20 1)).1 r25 3) - (S1.1 r4 3))) r19 ((3 : Int32).toNatClampNeg) (((aw_uI (aw_uI S18 r19 ((0 : Int32).toNatClampNeg) (S18.1 r20 1)) r19 ((2 : Int32).toNatClampNeg) (((aw_uI S18 r19 ((0 : Int32).toNatClampNeg) (S18.1 r20 1)).1 r25 3) - (S1.1 r4 3))).1 r25 4) - (S1.1 r4 4))) r19 ((1 : Int32).toNatClampNeg) (((aw_uI (aw_uI (aw_uI S18 r19 ((0 : Int32).toNatClampNeg) (S18.1 r20 1)) r19 ((2 : Int32).toNatClampNeg) (((aw_uI S18 r19 ((0 : Int32).toNatClampNeg) (S18.1 r20 1)).1 r25 3) - (S1.1 r4 3))) r19 ((3 : Int32).toNatClampNeg) (((aw_uI (aw_uI S18 r19 ((0 : Int32).toNatClampNeg) (S18.1 r20 1)) r19 ((2 : Int32).toNatClampNeg) (((aw_uI S18 r19 ((0 : Int32).toNatClampNeg) (S18.1 r20 1)).1 r25 3) - (S1.1 r4 3))).1 r25 4) - (S1.1 r4 4))).1 r19 (2 : Int32).toNatClampNeg) + ((aw_uI (aw_uI (aw_uI S18 r19 ((0 : Int32).toNatClampNeg) (S18.1 r20 1)) r19 ((2 : Int32).toNatClampNeg) (((aw_uI S18 r19 ((0 : Int32).toNatClampNeg) (S18.1 r20 1)).1 r25 3) - (S1.1 r4 3))) r19 ((3 : Int32).toNatClampNeg) (((aw_uI (aw_uI S18 r19 ((0 : Int32).toNatClampNeg) (S18.1 r20 1)) r19 ((2 : Int32).toNatClampNeg) (((aw_uI S18 r19 ((0 : Int32).toNatClampNeg) (S18.1 r20 1)).1 r25 3) - (S1.1 r4 3))).1 r25 4) - (S1.1 r4 4))).1 r19 (3 : Int32).toNatClampNeg))).1 r20 2)) a 14 1).1 r20 0)] sh (aw_uI (aw_uI (aw_uI (aw_uI (aw_uI (aw_uI S18 r19 ((0 : Int32).toNatClampNeg) (S18.1 r20 1)) r19 ((2 : Int32).toNatClampNeg) (((aw_uI S18 r19 ((0 : Int32).toNatClampNeg) (S18.1 r20 1)).1 r25 3) - (S1.1 r4 3))) r19 ((3 : Int32).toNatClampNeg) (((aw_uI (aw_uI S18 r19 ((0 : Int32).toNatClampNeg) (S18.1 r20 1)) r19 ((2 : Int32).toNatClampNeg) (((aw_uI S18 r19 ((0 : Int32).toNatClampNeg) (S18.1 r20 1)).1 r25 3) - (S1.1 r4 3))).1 r25 4) - (S1.1 r4 4))) r19 ((1 : Int32).toNatClampNeg) (((aw_uI (aw_uI (aw_uI S18 r19 ((0 : Int32).toNatClampNeg) (S18.1 r20 1)) r19 ((2 : Int32).toNatClampNeg) (((aw_uI S18 r19 ((0 : Int32).toNatClampNeg) (S18.1 r20 1)).1 r25 3) - (S1.1 r4 3))) r19 ((3 : Int32).toNatClampNeg) (((aw_uI (aw_uI S18 r19 ((0 : Int32).toNatClampNeg) (S18.1 r20 1)) r19 ((2 : Int32).toNatClampNeg) (((aw_uI S18 r19 ((0 : Int32).toNatClampNeg) (S18.1 r20 1)).1 r25 3) - (S1.1 r4 3))).1 r25 4) - (S1.1 r4 4))).1 r19 (2 : Int32).toNatClampNeg) + ((aw_uI (aw_uI (aw_uI S18 r19 ((0 : Int32).toNatClampNeg) (S18.1 r20 1)) r19 ((2 : Int32).toNatClampNeg) (((aw_uI S18 r19 ((0 : Int32).toNatClampNeg) (S18.1 r20 1)).1 r25 3) - (S1.1 r4 3))) r19 ((3 : Int32).toNatClampNeg) (((aw_uI (aw_uI S18 r19 ((0 : Int32).toNatClampNeg) (S18.1 r20 1)) r19 ((2 : Int32).toNatClampNeg) (((aw_uI S18 r19 ((0 : Int32).toNatClampNeg) (S18.1 r20 1)).1 r25 3) - (S1.1 r4 3))).1 r25 4) - (S1.1 r4 4))).1 r19 (3 : Int32).toNatClampNeg))) r19 ((4 : Int32).toNatClampNeg) ((aw_uI (aw_uI (aw_uI (aw_uI S18 r19 ((0 : Int32).toNatClampNeg) (S18.1 r20 1)) r19 ((2 : Int32).toNatClampNeg) (((aw_uI S18 r19 ((0 : Int32).toNatClampNeg) (S18.1 r20 1)).1 r25 3) - (S1.1 r4 3))) r19 ((3 : Int32).toNatClampNeg) (((aw_uI (aw_uI S18 r19 ((0 : Int32).toNatClampNeg) (S18.1 r20 1)) r19 ((2 : Int32).toNatClampNeg) (((aw_uI S18 r19 ((0 : Int32).toNatClampNeg) (S18.1 r20 1)).1 r25 3) - (S1.1 r4 3))).1 r25 4) - (S1.1 r4 4))) r19 ((1 : Int32).toNatClampNeg) (((aw_uI (aw_uI (aw_uI S18 r19 ((0 : Int32).toNatClampNeg) (S18.1 r20 1)) r19 ((2 : Int32).toNatClampNeg) (((aw_uI S18 r19 ((0 : Int32).toNatClampNeg) (S18.1 r20 1)).1 r25 3) - (S1.1 r4 3))) r19 ((3 : Int32).toNatClampNeg) (((aw_uI (aw_uI S18 r19 ((0 : Int32).toNatClampNeg) (S18.1 r20 1)) r19 ((2 : Int32).toNatClampNeg) (((aw_uI S18 r19 ((0 : Int32).toNatClampNeg) (S18.1 r20 1)).1 r25 3) - (S1.1 r4 3))).1 r25 4) - (S1.1 r4 4))).1 r19 (2 : Int32).toNatClampNeg) + ((aw_uI (aw_uI (aw_uI S18 r19 ((0 : Int32).toNatClampNeg) (S18.1 r20 1)) r19 ((2 : Int32).toNatClampNeg) (((aw_uI S18 r19 ((0 : Int32).toNatClampNeg) (S18.1 r20 1)).1 r25 3) - (S1.1 r4 3))) r19 ((3 : Int32).toNatClampNeg) (((aw_uI (aw_uI S18 r19 ((0 : Int32).toNatClampNeg) (S18.1 r20 1)) r19 ((2 : Int32).toNatClampNeg) (((aw_uI S18 r19 ((0 : Int32).toNatClampNeg) (S18.1 r20 1)).1 r25 3) - (S1.1 r4 3))).1 r25 4) - (S1.1 r4 4))).1 r19 (3 : Int32).toNatClampNeg))).1 r20 2)) a 14 1) (gI sh (fun x34 S33 => P x34 S33))))))) ∧ ((S1.1 r6 0) = 0 → Sp l m_Mg_fail d 0 0 [.ref a, .int 6] sh S1 (gI sh (fun x36 S35 => P x36 S35))))) ∧ (x2 = 0 → Sp l m_Mg_fail d 0 0 [.ref a, .int 1] sh S1 (gI sh (fun x38 S37 => P x38 S37))))))) : Sp l m_Mg_live (d + 1) 0 0 [.ref a, .int p0] sh S (gI sh P) := by
  refine Sp.of k_Mg_live (ls := [.ref a, .int p0, .null, .null]) rfl (Nat.le_of_ble_eq_true rfl) ?_
  refine r_iload_n (pc := 0) d_Mg_live_0 (x := p0) rfl ?_
  refine r_iconst (pc := 1) d_Mg_live_1 (v := 0) (by decide) ?_
  refine r_sipush (pc := 2) d_Mg_live_2 (v := 9999) (by decide) ?_
  refine r_callS (pc := 5) (k := 0) (As := [.int p0, .int 0, .int 9999]) (rest := []) (mc' := 0) (ms' := 0) lk_Mg_110 st_Mg_isWithin d_Mg_live_5 k_Mg_isWithin rfl rfl (Nat.le_of_ble_eq_true rfl) (by decide) (by decide) (Sp.mono h ?_)
  rintro rS1 shS1 S1 ⟨qS1, x2, uS1, h⟩
  subst uS1
  rw [qS1]
  refine r_if_ne (pc := 8) d_Mg_live_8 (tgt := 17) (by decide) (fun c3 => ?_) (fun c3 => ?_)
  · replace h := h.1 c3
    refine r_aload_n (pc := 17) d_Mg_live_17 (x := a) rfl ?_
    obtain ⟨r4, er4, h⟩ := h
    refine r_getR (pc := 18) d_Mg_live_18 f_Mg_30 sa (Or.inl ⟨_, rfl⟩) (r := r4) er4 ?_
    obtain ⟨s5, h⟩ := h
    obtain ⟨r6, er6, h⟩ := h
    refine r_getR (pc := 21) d_Mg_live_21 f_Mg_181 s5 (Or.inl ⟨_, rfl⟩) (r := r6) er6 ?_
    obtain ⟨s7, h⟩ := h
    refine r_getI (pc := 24) d_Mg_live_24 f_Mg_361 s7 rfl ?_
    refine r_if_ne (pc := 27) d_Mg_live_27 (tgt := 37) (by decide) (fun c8 => ?_) (fun c8 => ?_)
    · replace h := h.1 c8
      refine r_aload_n (pc := 37) d_Mg_live_37 (x := a) rfl ?_
      refine r_getR (pc := 38) d_Mg_live_38 f_Mg_30 sa (Or.inl ⟨_, rfl⟩) (r := r4) er4 ?_
      refine r_getI (pc := 41) d_Mg_live_41 f_Mg_210 s5 rfl ?_
      refine r_istore_n (pc := 44) (hk := rfl) (hd := d_Mg_live_44) (hi := by decide) (ls2 := [.ref a, .int p0, .int (S1.1 r4 3), .null]) (h2 := rfl) ?_
      refine r_aload_n (pc := 45) d_Mg_live_45 (x := a) rfl ?_
      refine r_getR (pc := 46) d_Mg_live_46 f_Mg_30 sa (Or.inl ⟨_, rfl⟩) (r := r4) er4 ?_
      refine r_getI (pc := 49) d_Mg_live_49 f_Mg_213 s5 rfl ?_
      refine r_istore_n (pc := 52) (hk := rfl) (hd := d_Mg_live_52) (hi := by decide) (ls2 := [.ref a, .int p0, .int (S1.1 r4 3), .int (S1.1 r4 4)]) (h2 := rfl) ?_
      refine r_aload_n (pc := 53) d_Mg_live_53 (x := a) rfl ?_
      obtain ⟨r9, er9, h⟩ := h
      refine r_getR (pc := 54) d_Mg_live_54 f_Mg_58 sa (Or.inl ⟨_, rfl⟩) (r := r9) er9 ?_
      refine r_aload_n (pc := 57) d_Mg_live_57 (x := a) rfl ?_
      refine r_getR (pc := 58) d_Mg_live_58 f_Mg_30 sa (Or.inl ⟨_, rfl⟩) (r := r4) er4 ?_
      refine r_aload_n (pc := 61) d_Mg_live_61 (x := a) rfl ?_
      refine r_getR (pc := 62) d_Mg_live_62 f_Mg_30 sa (Or.inl ⟨_, rfl⟩) (r := r4) er4 ?_
      refine r_getR (pc := 65) d_Mg_live_65 f_Mg_181 s5 (Or.inl ⟨_, rfl⟩) (r := r6) er6 ?_
      refine r_iload_n (pc := 68) d_Mg_live_68 (x := p0) rfl ?_
      obtain ⟨s10, h⟩ := h
      refine r_callV (pc := 69) (k := r9) (As := [.ref r4, .ref r6, .int p0]) (rest := []) (mc' := 0) (ms' := 0) lk_Mg_362 in_Li_begin se_Li_begin s10 rfl d_Mg_live_69 k_Li_begin rfl rfl (Nat.le_of_ble_eq_true rfl) (by decide) (by decide) (Sp.mono h ?_)
      rintro rS11 shS11 S11 ⟨qS11, uS11, h⟩
      subst uS11
      rw [qS11]
      refine r_aload_n (pc := 72) d_Mg_live_72 (x := a) rfl ?_
      obtain ⟨r12, er12, h⟩ := h
      refine r_getR (pc := 73) d_Mg_live_73 f_Mg_58 sa (Or.inl ⟨_, rfl⟩) (r := r12) er12 ?_
      refine r_iconst (pc := 76) d_Mg_live_76 (v := 0) (by decide) ?_
      refine r_aload_n (pc := 77) d_Mg_live_77 (x := a) rfl ?_
      obtain ⟨r13, er13, h⟩ := h
      refine r_getR (pc := 78) d_Mg_live_78 f_Mg_30 sa (Or.inl ⟨_, rfl⟩) (r := r13) er13 ?_
      obtain ⟨s14, h⟩ := h
      obtain ⟨r15, er15, h⟩ := h
      refine r_getR (pc := 81) d_Mg_live_81 f_Mg_181 s14 (Or.inl ⟨_, rfl⟩) (r := r15) er15 ?_
      obtain ⟨s16, h⟩ := h
      refine r_getI (pc := 84) d_Mg_live_84 f_Mg_188 s16 rfl ?_
      refine r_iconst (pc := 87) d_Mg_live_87 (v := 0) (by decide) ?_
      obtain ⟨s17, h⟩ := h
      refine r_callVN (pc := 88) (k := r12) (As := [.int 0, .int (S11.1 r15 1), .int 0]) (rest := []) (mc' := 0) (ms' := 0) ln_Mg_366 in_Li_doBlock se_Li_doBlock s17 rfl d_Mg_live_88 k_Li_doBlock rfl rfl (Nat.le_of_ble_eq_true rfl) (by decide) (by decide) (Sp.mono h ?_)
      rintro rS18 shS18 S18 ⟨qS18, uS18, h⟩
      subst uS18
      rw [qS18]
      refine r_aload_n (pc := 91) d_Mg_live_91 (x := a) rfl ?_
      obtain ⟨r19, er19, h⟩ := h
      refine r_getR (pc := 92) d_Mg_live_92 f_Mg_62 sa (Or.inr ⟨_, rfl⟩) (r := r19) er19 ?_
      refine r_iconst (pc := 95) d_Mg_live_95 (v := 0) (by decide) ?_
      refine r_aload_n (pc := 96) d_Mg_live_96 (x := a) rfl ?_
      obtain ⟨r20, er20, h⟩ := h
      refine r_getR (pc := 97) d_Mg_live_97 f_Mg_58 sa (Or.inl ⟨_, rfl⟩) (r := r20) er20 ?_
      obtain ⟨s21, h⟩ := h
      refine r_getI (pc := 100) d_Mg_live_100 f_Mg_369 s21 rfl ?_
      obtain ⟨n23, s22, h⟩ := h
      obtain ⟨g24, h⟩ := h
      refine r_iast (pc := 103) d_Mg_live_103 s22 g24 ?_
      refine r_aload_n (pc := 104) d_Mg_live_104 (x := a) rfl ?_
      refine r_getR (pc := 105) d_Mg_live_105 f_Mg_62 sa (Or.inr ⟨_, rfl⟩) (r := r19) er19 ?_
      refine r_iconst (pc := 108) d_Mg_live_108 (v := 2) (by decide) ?_
      refine r_aload_n (pc := 109) d_Mg_live_109 (x := a) rfl ?_
      obtain ⟨r25, er25, h⟩ := h
      refine r_getR (pc := 110) d_Mg_live_110 f_Mg_30 sa (Or.inl ⟨_, rfl⟩) (r := r25) er25 ?_
      obtain ⟨s26, h⟩ := h
      refine r_getI (pc := 113) d_Mg_live_113 f_Mg_210 s26 rfl ?_
      refine r_iload_n (pc := 116) d_Mg_live_116 (x := (S1.1 r4 3)) rfl ?_
      refine r_isub (pc := 117) d_Mg_live_117 ?_
      obtain ⟨g27, h⟩ := h
      refine r_iast (pc := 118) d_Mg_live_118 s22 g27 ?_
      refine r_aload_n (pc := 119) d_Mg_live_119 (x := a) rfl ?_
      refine r_getR (pc := 120) d_Mg_live_120 f_Mg_62 sa (Or.inr ⟨_, rfl⟩) (r := r19) er19 ?_
      refine r_iconst (pc := 123) d_Mg_live_123 (v := 3) (by decide) ?_
      refine r_aload_n (pc := 124) d_Mg_live_124 (x := a) rfl ?_
      refine r_getR (pc := 125) d_Mg_live_125 f_Mg_30 sa (Or.inl ⟨_, rfl⟩) (r := r25) er25 ?_
      refine r_getI (pc := 128) d_Mg_live_128 f_Mg_213 s26 rfl ?_
      refine r_iload_n (pc := 131) d_Mg_live_131 (x := (S1.1 r4 4)) rfl ?_
      refine r_isub (pc := 132) d_Mg_live_132 ?_
      obtain ⟨g28, h⟩ := h
      refine r_iast (pc := 133) d_Mg_live_133 s22 g28 ?_
      refine r_aload_n (pc := 134) d_Mg_live_134 (x := a) rfl ?_
      refine r_getR (pc := 135) d_Mg_live_135 f_Mg_62 sa (Or.inr ⟨_, rfl⟩) (r := r19) er19 ?_
      refine r_iconst (pc := 138) d_Mg_live_138 (v := 1) (by decide) ?_
      refine r_aload_n (pc := 139) d_Mg_live_139 (x := a) rfl ?_
      refine r_getR (pc := 140) d_Mg_live_140 f_Mg_62 sa (Or.inr ⟨_, rfl⟩) (r := r19) er19 ?_
      refine r_iconst (pc := 143) d_Mg_live_143 (v := 2) (by decide) ?_
      obtain ⟨g29, h⟩ := h
      refine r_iald (pc := 144) d_Mg_live_144 s22 g29 ?_
      refine r_aload_n (pc := 145) d_Mg_live_145 (x := a) rfl ?_
      refine r_getR (pc := 146) d_Mg_live_146 f_Mg_62 sa (Or.inr ⟨_, rfl⟩) (r := r19) er19 ?_
      refine r_iconst (pc := 149) d_Mg_live_149 (v := 3) (by decide) ?_
      obtain ⟨g30, h⟩ := h
      refine r_iald (pc := 150) d_Mg_live_150 s22 g30 ?_
      refine r_iadd (pc := 151) d_Mg_live_151 ?_
      obtain ⟨g31, h⟩ := h
      refine r_iast (pc := 152) d_Mg_live_152 s22 g31 ?_
      refine r_aload_n (pc := 153) d_Mg_live_153 (x := a) rfl ?_
      refine r_getR (pc := 154) d_Mg_live_154 f_Mg_62 sa (Or.inr ⟨_, rfl⟩) (r := r19) er19 ?_
      refine r_iconst (pc := 157) d_Mg_live_157 (v := 4) (by decide) ?_
      refine r_aload_n (pc := 158) d_Mg_live_158 (x := a) rfl ?_
      refine r_getR (pc := 159) d_Mg_live_159 f_Mg_58 sa (Or.inl ⟨_, rfl⟩) (r := r20) er20 ?_
      refine r_getI (pc := 162) d_Mg_live_162 f_Mg_372 s21 rfl ?_
      obtain ⟨g32, h⟩ := h
      refine r_iast (pc := 165) d_Mg_live_165 s22 g32 ?_
      refine r_aload_n (pc := 166) d_Mg_live_166 (x := a) rfl ?_
      refine r_iconst (pc := 167) d_Mg_live_167 (v := 1) (by decide) ?_
      refine r_putZ (pc := 168) d_Mg_live_168 f_Mg_374 sa rfl (by decide) ?_
      refine r_aload_n (pc := 171) d_Mg_live_171 (x := a) rfl ?_
      refine r_aload_n (pc := 172) d_Mg_live_172 (x := a) rfl ?_
      refine r_getR (pc := 173) d_Mg_live_173 f_Mg_58 sa (Or.inl ⟨_, rfl⟩) (r := r20) er20 ?_
      refine r_getI (pc := 176) d_Mg_live_176 f_Mg_377 s21 rfl ?_
      refine r_callV (pc := 179) (k := a) (As := [.int ((aw_uI (aw_uI (aw_uI (aw_uI (aw_uI (aw_uI S18 r19 ((0 : Int32).toNatClampNeg) (S18.1 r20 1)) r19 ((2 : Int32).toNatClampNeg) (((aw_uI S18 r19 ((0 : Int32).toNatClampNeg) (S18.1 r20 1)).1 r25 3) - (S1.1 r4 3))) r19 ((3 : Int32).toNatClampNeg) (((aw_uI (aw_uI S18 r19 ((0 : Int32).toNatClampNeg) (S18.1 r20 1)) r19 ((2 : Int32).toNatClampNeg) (((aw_uI S18 r19 ((0 : Int32).toNatClampNeg) (S18.1 r20 1)).1 r25 3) - (S1.1 r4 3))).1 r25 4) - (S1.1 r4 4))) r19 ((1 : Int32).toNatClampNeg) (((aw_uI (aw_uI (aw_uI S18 r19 ((0 : Int32).toNatClampNeg) (S18.1 r20 1)) r19 ((2 : Int32).toNatClampNeg) (((aw_uI S18 r19 ((0 : Int32).toNatClampNeg) (S18.1 r20 1)).1 r25 3) - (S1.1 r4 3))) r19 ((3 : Int32).toNatClampNeg) (((aw_uI (aw_uI S18 r19 ((0 : Int32).toNatClampNeg) (S18.1 r20 1)) r19 ((2 : Int32).toNatClampNeg) (((aw_uI S18 r19 ((0 : Int32).toNatClampNeg) (S18.1 r20 1)).1 r25 3) - (S1.1 r4 3))).1 r25 4) - (S1.1 r4 4))).1 r19 (2 : Int32).toNatClampNeg) + ((aw_uI (aw_uI (aw_uI S18 r19 ((0 : Int32).toNatClampNeg) (S18.1 r20 1)) r19 ((2 : Int32).toNatClampNeg) (((aw_uI S18 r19 ((0 : Int32).toNatClampNeg) (S18.1 r20 1)).1 r25 3) - (S1.1 r4 3))) r19 ((3 : Int32).toNatClampNeg) (((aw_uI (aw_uI S18 r19 ((0 : Int32).toNatClampNeg) (S18.1 r20 1)) r19 ((2 : Int32).toNatClampNeg) (((aw_uI S18 r19 ((0 : Int32).toNatClampNeg) (S18.1 r20 1)).1 r25 3) - (S1.1 r4 3))).1 r25 4) - (S1.1 r4 4))).1 r19 (3 : Int32).toNatClampNeg))) r19 ((4 : Int32).toNatClampNeg) ((aw_uI (aw_uI (aw_uI (aw_uI S18 r19 ((0 : Int32).toNatClampNeg) (S18.1 r20 1)) r19 ((2 : Int32).toNatClampNeg) (((aw_uI S18 r19 ((0 : Int32).toNatClampNeg) (S18.1 r20 1)).1 r25 3) - (S1.1 r4 3))) r19 ((3 : Int32).toNatClampNeg) (((aw_uI (aw_uI S18 r19 ((0 : Int32).toNatClampNeg) (S18.1 r20 1)) r19 ((2 : Int32).toNatClampNeg) (((aw_uI S18 r19 ((0 : Int32).toNatClampNeg) (S18.1 r20 1)).1 r25 3) - (S1.1 r4 3))).1 r25 4) - (S1.1 r4 4))) r19 ((1 : Int32).toNatClampNeg) (((aw_uI (aw_uI (aw_uI S18 r19 ((0 : Int32).toNatClampNeg) (S18.1 r20 1)) r19 ((2 : Int32).toNatClampNeg) (((aw_uI S18 r19 ((0 : Int32).toNatClampNeg) (S18.1 r20 1)).1 r25 3) - (S1.1 r4 3))) r19 ((3 : Int32).toNatClampNeg) (((aw_uI (aw_uI S18 r19 ((0 : Int32).toNatClampNeg) (S18.1 r20 1)) r19 ((2 : Int32).toNatClampNeg) (((aw_uI S18 r19 ((0 : Int32).toNatClampNeg) (S18.1 r20 1)).1 r25 3) - (S1.1 r4 3))).1 r25 4) - (S1.1 r4 4))).1 r19 (2 : Int32).toNatClampNeg) + ((aw_uI (aw_uI (aw_uI S18 r19 ((0 : Int32).toNatClampNeg) (S18.1 r20 1)) r19 ((2 : Int32).toNatClampNeg) (((aw_uI S18 r19 ((0 : Int32).toNatClampNeg) (S18.1 r20 1)).1 r25 3) - (S1.1 r4 3))) r19 ((3 : Int32).toNatClampNeg) (((aw_uI (aw_uI S18 r19 ((0 : Int32).toNatClampNeg) (S18.1 r20 1)) r19 ((2 : Int32).toNatClampNeg) (((aw_uI S18 r19 ((0 : Int32).toNatClampNeg) (S18.1 r20 1)).1 r25 3) - (S1.1 r4 3))).1 r25 4) - (S1.1 r4 4))).1 r19 (3 : Int32).toNatClampNeg))).1 r20 2)) a 14 1).1 r20 0)]) (rest := []) (mc' := 0) (ms' := 0) lk_Mg_174 in_Mg_give se_Mg_give sa rfl d_Mg_live_179 k_Mg_give rfl rfl (Nat.le_of_ble_eq_true rfl) (by decide) (by decide) (Sp.mono h ?_)
      rintro rS33 shS33 S33 ⟨qS33, x34, uS33, h⟩
      subst uS33
      rw [qS33]
      exact r_ireturn (pc := 182) d_Mg_live_182 rfl rfl (Nat.le_refl _) ⟨rfl, _, rfl, h⟩
    · replace h := h.2 c8
      refine r_aload_n (pc := 30) d_Mg_live_30 (x := a) rfl ?_
      refine r_bipush (pc := 31) d_Mg_live_31 (v := 6) (by decide) ?_
      refine r_callV (pc := 33) (k := a) (As := [.int 6]) (rest := []) (mc' := 0) (ms' := 0) lk_Mg_133 in_Mg_fail se_Mg_fail sa rfl d_Mg_live_33 k_Mg_fail rfl rfl (Nat.le_of_ble_eq_true rfl) (by decide) (by decide) (Sp.mono h ?_)
      rintro rS35 shS35 S35 ⟨qS35, x36, uS35, h⟩
      subst uS35
      rw [qS35]
      exact r_ireturn (pc := 36) d_Mg_live_36 rfl rfl (Nat.le_refl _) ⟨rfl, _, rfl, h⟩
  · replace h := h.2 c3
    refine r_aload_n (pc := 11) d_Mg_live_11 (x := a) rfl ?_
    refine r_iconst (pc := 12) d_Mg_live_12 (v := 1) (by decide) ?_
    refine r_callV (pc := 13) (k := a) (As := [.int 1]) (rest := []) (mc' := 0) (ms' := 0) lk_Mg_133 in_Mg_fail se_Mg_fail sa rfl d_Mg_live_13 k_Mg_fail rfl rfl (Nat.le_of_ble_eq_true rfl) (by decide) (by decide) (Sp.mono h ?_)
    rintro rS37 shS37 S37 ⟨qS37, x38, uS37, h⟩
    subst uS37
    rw [qS37]
    exact r_ireturn (pc := 16) d_Mg_live_16 rfl rfl (Nat.le_refl _) ⟨rfl, _, rfl, h⟩
set_option maxRecDepth 4000 in
theorem e_Mg_lived {l : Launch} {d : Nat} {sh : aw_SH} {S : aw_S} {P : Int32 → aw_S → Prop} {a : Nat} {p0 : Int32} (sa : sh[a]? = some (0, 0)) (h : Sp l m_Mg_isWithin d 0 0 [.int p0, .int 0, .int 4] sh S (gI sh (fun x2 S1 => ((¬ x2 = 0 → (((S1.1 a 14) = 0 → Sp l m_Mg_fail d 0 0 [.ref a, .int 6] sh S1 (gI sh (fun x6 S5 => P x6 S5))) ∧ (¬ (S1.1 a 14) = 0 → ∃ r7, S1.2.2 a 13 = some r7 ∧ ∃ n9, sh[r7]? = some (3, n9) ∧ vp_in p0 n9 ∧ Sp l m_Mg_give d 0 0 [.ref a, .int (S1.1 r7 p0.toNatClampNeg)] sh S1 (gI sh (fun x12 S11 => P x12 S11))))) ∧ (x2 = 0 → Sp l m_Mg_fail d 0 0 [.ref a, .int 1] sh S1 (gI sh (fun x14 S13 => P x14 S13))))))) : Sp l m_Mg_lived (d + 1) 0 0 [.ref a, .int p0] sh S (gI sh P) := by
  refine Sp.of k_Mg_lived (ls := [.ref a, .int p0]) rfl (Nat.le_of_ble_eq_true rfl) ?_
  refine r_iload_n (pc := 0) d_Mg_lived_0 (x := p0) rfl ?_
  refine r_iconst (pc := 1) d_Mg_lived_1 (v := 0) (by decide) ?_
  refine r_iconst (pc := 2) d_Mg_lived_2 (v := 4) (by decide) ?_
  refine r_callS (pc := 3) (k := 0) (As := [.int p0, .int 0, .int 4]) (rest := []) (mc' := 0) (ms' := 0) lk_Mg_110 st_Mg_isWithin d_Mg_lived_3 k_Mg_isWithin rfl rfl (Nat.le_of_ble_eq_true rfl) (by decide) (by decide) (Sp.mono h ?_)
  rintro rS1 shS1 S1 ⟨qS1, x2, uS1, h⟩
  subst uS1
  rw [qS1]
  refine r_if_ne (pc := 6) d_Mg_lived_6 (tgt := 15) (by decide) (fun c3 => ?_) (fun c3 => ?_)
  · replace h := h.1 c3
    refine r_aload_n (pc := 15) d_Mg_lived_15 (x := a) rfl ?_
    refine r_getI (pc := 16) d_Mg_lived_16 f_Mg_374 sa rfl ?_
    refine r_if_eq (pc := 19) d_Mg_lived_19 (tgt := 35) (by decide) (fun c4 => ?_) (fun c4 => ?_)
    · replace h := h.1 c4
      refine r_aload_n (pc := 35) d_Mg_lived_35 (x := a) rfl ?_
      refine r_bipush (pc := 36) d_Mg_lived_36 (v := 6) (by decide) ?_
      refine r_callV (pc := 38) (k := a) (As := [.int 6]) (rest := []) (mc' := 0) (ms' := 0) lk_Mg_133 in_Mg_fail se_Mg_fail sa rfl d_Mg_lived_38 k_Mg_fail rfl rfl (Nat.le_of_ble_eq_true rfl) (by decide) (by decide) (Sp.mono h ?_)
      rintro rS5 shS5 S5 ⟨qS5, x6, uS5, h⟩
      subst uS5
      rw [qS5]
      exact r_ireturn (pc := 41) d_Mg_lived_41 rfl rfl (Nat.le_refl _) ⟨rfl, _, rfl, h⟩
    · replace h := h.2 c4
      refine r_aload_n (pc := 22) d_Mg_lived_22 (x := a) rfl ?_
      refine r_aload_n (pc := 23) d_Mg_lived_23 (x := a) rfl ?_
      obtain ⟨r7, er7, h⟩ := h
      refine r_getR (pc := 24) d_Mg_lived_24 f_Mg_62 sa (Or.inr ⟨_, rfl⟩) (r := r7) er7 ?_
      refine r_iload_n (pc := 27) d_Mg_lived_27 (x := p0) rfl ?_
      obtain ⟨n9, s8, h⟩ := h
      obtain ⟨g10, h⟩ := h
      refine r_iald (pc := 28) d_Mg_lived_28 s8 g10 ?_
      refine r_callV (pc := 29) (k := a) (As := [.int (S1.1 r7 p0.toNatClampNeg)]) (rest := []) (mc' := 0) (ms' := 0) lk_Mg_174 in_Mg_give se_Mg_give sa rfl d_Mg_lived_29 k_Mg_give rfl rfl (Nat.le_of_ble_eq_true rfl) (by decide) (by decide) (Sp.mono h ?_)
      rintro rS11 shS11 S11 ⟨qS11, x12, uS11, h⟩
      subst uS11
      rw [qS11]
      refine r_goto (pc := 32) d_Mg_lived_32 (tgt := 41) (by decide) ?_
      exact r_ireturn (pc := 41) d_Mg_lived_41 rfl rfl (Nat.le_refl _) ⟨rfl, _, rfl, h⟩
  · replace h := h.2 c3
    refine r_aload_n (pc := 9) d_Mg_lived_9 (x := a) rfl ?_
    refine r_iconst (pc := 10) d_Mg_lived_10 (v := 1) (by decide) ?_
    refine r_callV (pc := 11) (k := a) (As := [.int 1]) (rest := []) (mc' := 0) (ms' := 0) lk_Mg_133 in_Mg_fail se_Mg_fail sa rfl d_Mg_lived_11 k_Mg_fail rfl rfl (Nat.le_of_ble_eq_true rfl) (by decide) (by decide) (Sp.mono h ?_)
    rintro rS13 shS13 S13 ⟨qS13, x14, uS13, h⟩
    subst uS13
    rw [qS13]
    exact r_ireturn (pc := 14) d_Mg_lived_14 rfl rfl (Nat.le_refl _) ⟨rfl, _, rfl, h⟩
set_option maxRecDepth 4000 in
theorem e_Mg_mean {l : Launch} {d : Nat} {sh : aw_SH} {S : aw_S} {P : Int32 → aw_S → Prop} {a : Nat} {p0 : Int32} {p1 : Int32} (sa : sh[a]? = some (0, 0)) (h : Sp l m_Mg_isWithin d 0 0 [.int p0, .int 0, .int 9999] sh S (gI sh (fun x2 S1 => ((x2 = 0 → Sp l m_Mg_refuse d 0 0 [.ref a, .int 1] sh S1 (gI sh (fun x5 S4 => ((x5 = 0 ∨ x5 = 1) ∧ P x5 S4)))) ∧ (¬ x2 = 0 → Sp l m_Mg_isWithin d 0 0 [.int p1, .int 1, .int 20] sh S1 (gI sh (fun x8 S7 => ((x8 = 0 → Sp l m_Mg_refuse d 0 0 [.ref a, .int 1] sh S7 (gI sh (fun x11 S10 => ((x11 = 0 ∨ x11 = 1) ∧ P x11 S10)))) ∧ (¬ x8 = 0 → ((((p0 + p1) - (1 : Int32)) ≤ 9999 → ∃ r14, S7.2.2 a 6 = some r14 ∧ sh[r14]? = some (0, 2) ∧ ∃ r16, S7.2.2 r14 11 = some r16 ∧ sh[r16]? = some (0, 4) ∧ ((¬ (S7.1 r16 0) = 0 → AW l m_Mg_mean (d + 1) 0 0 (gI sh P) 0 0 63 [.ref a, .int p0, .int p1, .int 0, .int 0] [] sh S7) ∧ ((S7.1 r16 0) = 0 → Sp l m_Mg_refuse d 0 0 [.ref a, .int 6] sh S7 (gI sh (fun x20 S19 => ((x20 = 0 ∨ x20 = 1) ∧ P x20 S19)))))) ∧ (¬ ((p0 + p1) - (1 : Int32)) ≤ 9999 → Sp l m_Mg_refuse d 0 0 [.ref a, .int 1] sh S7 (gI sh (fun x23 S22 => ((x23 = 0 ∨ x23 = 1) ∧ P x23 S22)))))))))))))) : Sp l m_Mg_mean (d + 1) 0 0 [.ref a, .int p0, .int p1] sh S (gI sh P) := by
  refine Sp.of k_Mg_mean (ls := [.ref a, .int p0, .int p1, .null, .null]) rfl (Nat.le_of_ble_eq_true rfl) ?_
  refine r_iload_n (pc := 0) d_Mg_mean_0 (x := p0) rfl ?_
  refine r_iconst (pc := 1) d_Mg_mean_1 (v := 0) (by decide) ?_
  refine r_sipush (pc := 2) d_Mg_mean_2 (v := 9999) (by decide) ?_
  refine r_callS (pc := 5) (k := 0) (As := [.int p0, .int 0, .int 9999]) (rest := []) (mc' := 0) (ms' := 0) lk_Mg_110 st_Mg_isWithin d_Mg_mean_5 k_Mg_isWithin rfl rfl (Nat.le_of_ble_eq_true rfl) (by decide) (by decide) (Sp.mono h ?_)
  rintro rS1 shS1 S1 ⟨qS1, x2, uS1, h⟩
  subst uS1
  rw [qS1]
  refine r_if_eq (pc := 8) d_Mg_mean_8 (tgt := 32) (by decide) (fun c3 => ?_) (fun c3 => ?_)
  · replace h := h.1 c3
    refine r_aload_n (pc := 32) d_Mg_mean_32 (x := a) rfl ?_
    refine r_iconst (pc := 33) d_Mg_mean_33 (v := 1) (by decide) ?_
    refine r_callV (pc := 34) (k := a) (As := [.int 1]) (rest := []) (mc' := 0) (ms' := 0) lk_Mg_114 in_Mg_refuse se_Mg_refuse sa rfl d_Mg_mean_34 k_Mg_refuse rfl rfl (Nat.le_of_ble_eq_true rfl) (by decide) (by decide) (Sp.mono h ?_)
    rintro rS4 shS4 S4 ⟨qS4, x5, uS4, h⟩
    subst uS4
    rw [qS4]
    obtain ⟨g6, h⟩ := h
    exact r_zreturn (pc := 37) d_Mg_mean_37 rfl (aw_nb g6) rfl (Nat.le_refl _) ⟨rfl, _, rfl, h⟩
  · replace h := h.2 c3
    refine r_iload_n (pc := 11) d_Mg_mean_11 (x := p1) rfl ?_
    refine r_iconst (pc := 12) d_Mg_mean_12 (v := 1) (by decide) ?_
    refine r_bipush (pc := 13) d_Mg_mean_13 (v := 20) (by decide) ?_
    refine r_callS (pc := 15) (k := 0) (As := [.int p1, .int 1, .int 20]) (rest := []) (mc' := 0) (ms' := 0) lk_Mg_110 st_Mg_isWithin d_Mg_mean_15 k_Mg_isWithin rfl rfl (Nat.le_of_ble_eq_true rfl) (by decide) (by decide) (Sp.mono h ?_)
    rintro rS7 shS7 S7 ⟨qS7, x8, uS7, h⟩
    subst uS7
    rw [qS7]
    refine r_if_eq (pc := 18) d_Mg_mean_18 (tgt := 32) (by decide) (fun c9 => ?_) (fun c9 => ?_)
    · replace h := h.1 c9
      refine r_aload_n (pc := 32) d_Mg_mean_32 (x := a) rfl ?_
      refine r_iconst (pc := 33) d_Mg_mean_33 (v := 1) (by decide) ?_
      refine r_callV (pc := 34) (k := a) (As := [.int 1]) (rest := []) (mc' := 0) (ms' := 0) lk_Mg_114 in_Mg_refuse se_Mg_refuse sa rfl d_Mg_mean_34 k_Mg_refuse rfl rfl (Nat.le_of_ble_eq_true rfl) (by decide) (by decide) (Sp.mono h ?_)
      rintro rS10 shS10 S10 ⟨qS10, x11, uS10, h⟩
      subst uS10
      rw [qS10]
      obtain ⟨g12, h⟩ := h
      exact r_zreturn (pc := 37) d_Mg_mean_37 rfl (aw_nb g12) rfl (Nat.le_refl _) ⟨rfl, _, rfl, h⟩
    · replace h := h.2 c9
      refine r_iload_n (pc := 21) d_Mg_mean_21 (x := p0) rfl ?_
      refine r_iload_n (pc := 22) d_Mg_mean_22 (x := p1) rfl ?_
      refine r_iadd (pc := 23) d_Mg_mean_23 ?_
      refine r_iconst (pc := 24) d_Mg_mean_24 (v := 1) (by decide) ?_
      refine r_isub (pc := 25) d_Mg_mean_25 ?_
      refine r_sipush (pc := 26) d_Mg_mean_26 (v := 9999) (by decide) ?_
      refine r_icmp_le (pc := 29) d_Mg_mean_29 (tgt := 38) (by decide) (fun c13 => ?_) (fun c13 => ?_)
      · replace h := h.1 c13
        refine r_aload_n (pc := 38) d_Mg_mean_38 (x := a) rfl ?_
        obtain ⟨r14, er14, h⟩ := h
        refine r_getR (pc := 39) d_Mg_mean_39 f_Mg_30 sa (Or.inl ⟨_, rfl⟩) (r := r14) er14 ?_
        obtain ⟨s15, h⟩ := h
        obtain ⟨r16, er16, h⟩ := h
        refine r_getR (pc := 42) d_Mg_mean_42 f_Mg_181 s15 (Or.inl ⟨_, rfl⟩) (r := r16) er16 ?_
        obtain ⟨s17, h⟩ := h
        refine r_getI (pc := 45) d_Mg_mean_45 f_Mg_361 s17 rfl ?_
        refine r_if_ne (pc := 48) d_Mg_mean_48 (tgt := 58) (by decide) (fun c18 => ?_) (fun c18 => ?_)
        · replace h := h.1 c18
          refine r_iconst (pc := 58) d_Mg_mean_58 (v := 0) (by decide) ?_
          refine r_istore_n (pc := 59) (hk := rfl) (hd := d_Mg_mean_59) (hi := by decide) (ls2 := [.ref a, .int p0, .int p1, .int 0, .null]) (h2 := rfl) ?_
          refine r_iconst (pc := 60) d_Mg_mean_60 (v := 0) (by decide) ?_
          refine r_istore (pc := 61) (hd := d_Mg_mean_61) (hi := by decide) (ls2 := [.ref a, .int p0, .int p1, .int 0, .int 0]) (h2 := rfl) ?_
          exact h
        · replace h := h.2 c18
          refine r_aload_n (pc := 51) d_Mg_mean_51 (x := a) rfl ?_
          refine r_bipush (pc := 52) d_Mg_mean_52 (v := 6) (by decide) ?_
          refine r_callV (pc := 54) (k := a) (As := [.int 6]) (rest := []) (mc' := 0) (ms' := 0) lk_Mg_114 in_Mg_refuse se_Mg_refuse sa rfl d_Mg_mean_54 k_Mg_refuse rfl rfl (Nat.le_of_ble_eq_true rfl) (by decide) (by decide) (Sp.mono h ?_)
          rintro rS19 shS19 S19 ⟨qS19, x20, uS19, h⟩
          subst uS19
          rw [qS19]
          obtain ⟨g21, h⟩ := h
          exact r_zreturn (pc := 57) d_Mg_mean_57 rfl (aw_nb g21) rfl (Nat.le_refl _) ⟨rfl, _, rfl, h⟩
      · replace h := h.2 c13
        refine r_aload_n (pc := 32) d_Mg_mean_32 (x := a) rfl ?_
        refine r_iconst (pc := 33) d_Mg_mean_33 (v := 1) (by decide) ?_
        refine r_callV (pc := 34) (k := a) (As := [.int 1]) (rest := []) (mc' := 0) (ms' := 0) lk_Mg_114 in_Mg_refuse se_Mg_refuse sa rfl d_Mg_mean_34 k_Mg_refuse rfl rfl (Nat.le_of_ble_eq_true rfl) (by decide) (by decide) (Sp.mono h ?_)
        rintro rS22 shS22 S22 ⟨qS22, x23, uS22, h⟩
        subst uS22
        rw [qS22]
        obtain ⟨g24, h⟩ := h
        exact r_zreturn (pc := 37) d_Mg_mean_37 rfl (aw_nb g24) rfl (Nat.le_refl _) ⟨rfl, _, rfl, h⟩
set_option maxRecDepth 4000 in
theorem s_Mg_mean_63 {l : Launch} {d : Nat} {sh : aw_SH} {S : aw_S} {P : Int32 → aw_S → Prop} {a : Nat} {i1 : Int32} {i2 : Int32} {i3 : Int32} {i4 : Int32} (sa : sh[a]? = some (0, 0)) (h : ((i2 ≤ i4 → ∃ r2, S.2.2 a 18 = some r2 ∧ sh[r2]? = some (0, 10) ∧ Sp l m_Ch_set d 0 0 [.ref r2, .long i3.toInt64, .long i2.toInt64] sh S (gV sh (fun S4 => Sp l m_Mg_grant d 0 0 [.ref a] sh S4 (gI sh (fun x6 S5 => ((x6 = 0 ∨ x6 = 1) ∧ P x6 S5)))))) ∧ (¬ i2 ≤ i4 → ∃ r8, S.2.2 a 7 = some r8 ∧ ∃ r9, S.2.2 a 6 = some r9 ∧ sh[r8]? = some (0, 2) ∧ Sp l m_Gr_copyFrom d 0 0 [.ref r8, .ref r9] sh S (gV sh (fun S11 => ∃ r12, S11.2.2 a 12 = some r12 ∧ ∃ r13, S11.2.2 a 7 = some r13 ∧ ∃ r14, S11.2.2 a 6 = some r14 ∧ sh[r14]? = some (0, 2) ∧ ∃ r16, S11.2.2 r14 11 = some r16 ∧ sh[r12]? = some (0, 7) ∧ Sp l m_Li_begin d 0 0 [.ref r12, .ref r13, .ref r16, .int (i1 + i4)] sh S11 (gV sh (fun S18 => ∃ r19, S18.2.2 a 12 = some r19 ∧ ∃ r20, S18.2.2 a 6 = some r20 ∧ sh[r20]? = some (0, 2) ∧ ∃ r22, S18.2.2 r20 11 = some r22 ∧ sh[r22]? = some (0, 4) ∧ sh[r19]? = some (0, 7) ∧ Sp l m_Li_doBlock d 0 0 [.ref r19, .int 0, .int (S18.1 r22 1), .int 0] sh S18 (gV sh (fun S25 => ∃ r26, S25.2.2 a 7 = some r26 ∧ sh[r26]? = some (0, 2) ∧ ∃ r28, S25.2.2 r26 10 = some r28 ∧ sh[r28]? = some (0, 3) ∧ AW l m_Mg_mean (d + 1) 0 0 (gI sh P) 0 0 63 [.ref a, .int i1, .int i2, .int (i3 + (S25.1 r28 1)), .int (i4 + 1)] [] sh S25))))))))) : AW l m_Mg_mean (d + 1) 0 0 (gI sh P) 0 0 63 [.ref a, .int i1, .int i2, .int i3, .int i4] [] sh S := by
  refine r_iload (pc := 63) d_Mg_mean_63 (x := i4) rfl ?_
  refine r_iload_n (pc := 65) d_Mg_mean_65 (x := i2) rfl ?_
  refine r_icmp_ge (pc := 66) d_Mg_mean_66 (tgt := 140) (by decide) (fun c1 => ?_) (fun c1 => ?_)
  · replace h := h.1 c1
    refine r_aload_n (pc := 140) d_Mg_mean_140 (x := a) rfl ?_
    obtain ⟨r2, er2, h⟩ := h
    refine r_getR (pc := 141) d_Mg_mean_141 f_Mg_92 sa (Or.inl ⟨_, rfl⟩) (r := r2) er2 ?_
    refine r_iload_n (pc := 144) d_Mg_mean_144 (x := i3) rfl ?_
    refine r_i2l (pc := 145) d_Mg_mean_145 ?_
    refine r_iload_n (pc := 146) d_Mg_mean_146 (x := i2) rfl ?_
    refine r_i2l (pc := 147) d_Mg_mean_147 ?_
    obtain ⟨s3, h⟩ := h
    refine r_callV (pc := 148) (k := r2) (As := [.long i3.toInt64, .long i2.toInt64]) (rest := []) (mc' := 0) (ms' := 0) lk_Mg_356 in_Ch_set se_Ch_set s3 rfl d_Mg_mean_148 k_Ch_set rfl rfl (Nat.le_of_ble_eq_true rfl) (by decide) (by decide) (Sp.mono h ?_)
    rintro rS4 shS4 S4 ⟨qS4, uS4, h⟩
    subst uS4
    rw [qS4]
    refine r_aload_n (pc := 151) d_Mg_mean_151 (x := a) rfl ?_
    refine r_callV (pc := 152) (k := a) (As := []) (rest := []) (mc' := 0) (ms' := 0) lk_Mg_121 in_Mg_grant se_Mg_grant sa rfl d_Mg_mean_152 k_Mg_grant rfl rfl (Nat.le_of_ble_eq_true rfl) (by decide) (by decide) (Sp.mono h ?_)
    rintro rS5 shS5 S5 ⟨qS5, x6, uS5, h⟩
    subst uS5
    rw [qS5]
    obtain ⟨g7, h⟩ := h
    exact r_zreturn (pc := 155) d_Mg_mean_155 rfl (aw_nb g7) rfl (Nat.le_refl _) ⟨rfl, _, rfl, h⟩
  · replace h := h.2 c1
    refine r_aload_n (pc := 69) d_Mg_mean_69 (x := a) rfl ?_
    obtain ⟨r8, er8, h⟩ := h
    refine r_getR (pc := 70) d_Mg_mean_70 f_Mg_34 sa (Or.inl ⟨_, rfl⟩) (r := r8) er8 ?_
    refine r_aload_n (pc := 73) d_Mg_mean_73 (x := a) rfl ?_
    obtain ⟨r9, er9, h⟩ := h
    refine r_getR (pc := 74) d_Mg_mean_74 f_Mg_30 sa (Or.inl ⟨_, rfl⟩) (r := r9) er9 ?_
    obtain ⟨s10, h⟩ := h
    refine r_callV (pc := 77) (k := r8) (As := [.ref r9]) (rest := []) (mc' := 0) (ms' := 0) lk_Mg_380 in_Gr_copyFrom se_Gr_copyFrom s10 rfl d_Mg_mean_77 k_Gr_copyFrom rfl rfl (Nat.le_of_ble_eq_true rfl) (by decide) (by decide) (Sp.mono h ?_)
    rintro rS11 shS11 S11 ⟨qS11, uS11, h⟩
    subst uS11
    rw [qS11]
    refine r_aload_n (pc := 80) d_Mg_mean_80 (x := a) rfl ?_
    obtain ⟨r12, er12, h⟩ := h
    refine r_getR (pc := 81) d_Mg_mean_81 f_Mg_58 sa (Or.inl ⟨_, rfl⟩) (r := r12) er12 ?_
    refine r_aload_n (pc := 84) d_Mg_mean_84 (x := a) rfl ?_
    obtain ⟨r13, er13, h⟩ := h
    refine r_getR (pc := 85) d_Mg_mean_85 f_Mg_34 sa (Or.inl ⟨_, rfl⟩) (r := r13) er13 ?_
    refine r_aload_n (pc := 88) d_Mg_mean_88 (x := a) rfl ?_
    obtain ⟨r14, er14, h⟩ := h
    refine r_getR (pc := 89) d_Mg_mean_89 f_Mg_30 sa (Or.inl ⟨_, rfl⟩) (r := r14) er14 ?_
    obtain ⟨s15, h⟩ := h
    obtain ⟨r16, er16, h⟩ := h
    refine r_getR (pc := 92) d_Mg_mean_92 f_Mg_181 s15 (Or.inl ⟨_, rfl⟩) (r := r16) er16 ?_
    refine r_iload_n (pc := 95) d_Mg_mean_95 (x := i1) rfl ?_
    refine r_iload (pc := 96) d_Mg_mean_96 (x := i4) rfl ?_
    refine r_iadd (pc := 98) d_Mg_mean_98 ?_
    obtain ⟨s17, h⟩ := h
    refine r_callV (pc := 99) (k := r12) (As := [.ref r13, .ref r16, .int (i1 + i4)]) (rest := []) (mc' := 0) (ms' := 0) lk_Mg_362 in_Li_begin se_Li_begin s17 rfl d_Mg_mean_99 k_Li_begin rfl rfl (Nat.le_of_ble_eq_true rfl) (by decide) (by decide) (Sp.mono h ?_)
    rintro rS18 shS18 S18 ⟨qS18, uS18, h⟩
    subst uS18
    rw [qS18]
    refine r_aload_n (pc := 102) d_Mg_mean_102 (x := a) rfl ?_
    obtain ⟨r19, er19, h⟩ := h
    refine r_getR (pc := 103) d_Mg_mean_103 f_Mg_58 sa (Or.inl ⟨_, rfl⟩) (r := r19) er19 ?_
    refine r_iconst (pc := 106) d_Mg_mean_106 (v := 0) (by decide) ?_
    refine r_aload_n (pc := 107) d_Mg_mean_107 (x := a) rfl ?_
    obtain ⟨r20, er20, h⟩ := h
    refine r_getR (pc := 108) d_Mg_mean_108 f_Mg_30 sa (Or.inl ⟨_, rfl⟩) (r := r20) er20 ?_
    obtain ⟨s21, h⟩ := h
    obtain ⟨r22, er22, h⟩ := h
    refine r_getR (pc := 111) d_Mg_mean_111 f_Mg_181 s21 (Or.inl ⟨_, rfl⟩) (r := r22) er22 ?_
    obtain ⟨s23, h⟩ := h
    refine r_getI (pc := 114) d_Mg_mean_114 f_Mg_188 s23 rfl ?_
    refine r_iconst (pc := 117) d_Mg_mean_117 (v := 0) (by decide) ?_
    obtain ⟨s24, h⟩ := h
    refine r_callVN (pc := 118) (k := r19) (As := [.int 0, .int (S18.1 r22 1), .int 0]) (rest := []) (mc' := 0) (ms' := 0) ln_Mg_366 in_Li_doBlock se_Li_doBlock s24 rfl d_Mg_mean_118 k_Li_doBlock rfl rfl (Nat.le_of_ble_eq_true rfl) (by decide) (by decide) (Sp.mono h ?_)
    rintro rS25 shS25 S25 ⟨qS25, uS25, h⟩
    subst uS25
    rw [qS25]
    refine r_iload_n (pc := 121) d_Mg_mean_121 (x := i3) rfl ?_
    refine r_aload_n (pc := 122) d_Mg_mean_122 (x := a) rfl ?_
    obtain ⟨r26, er26, h⟩ := h
    refine r_getR (pc := 123) d_Mg_mean_123 f_Mg_34 sa (Or.inl ⟨_, rfl⟩) (r := r26) er26 ?_
    obtain ⟨s27, h⟩ := h
    obtain ⟨r28, er28, h⟩ := h
    refine r_getR (pc := 126) d_Mg_mean_126 f_Mg_195 s27 (Or.inl ⟨_, rfl⟩) (r := r28) er28 ?_
    obtain ⟨s29, h⟩ := h
    refine r_getI (pc := 129) d_Mg_mean_129 f_Mg_198 s29 rfl ?_
    refine r_iadd (pc := 132) d_Mg_mean_132 ?_
    refine r_istore_n (pc := 133) (hk := rfl) (hd := d_Mg_mean_133) (hi := by decide) (ls2 := [.ref a, .int i1, .int i2, .int (i3 + (S25.1 r28 1)), .int i4]) (h2 := rfl) ?_
    refine r_iinc (pc := 134) d_Mg_mean_134 (hi := by decide) (x := i4) rfl (v := i4 + 1) rfl (ls2 := [.ref a, .int i1, .int i2, .int (i3 + (S25.1 r28 1)), .int (i4 + 1)]) rfl ?_
    refine r_goto (pc := 137) d_Mg_mean_137 (tgt := 63) (by decide) ?_
    exact h
set_option maxRecDepth 4000 in
theorem e_Mg_mark {l : Launch} {d : Nat} {sh : aw_SH} {S : aw_S} {P : Int32 → aw_S → Prop} {a : Nat} (sa : sh[a]? = some (0, 0)) (h : (((S.1 a 9) < 3 → ∃ r2, S.2.2 a 8 = some r2 ∧ ∃ n4, sh[r2]? = some (6, n4) ∧ vp_in (S.1 a 9) n4 ∧ ∃ r6, S.2.2 r2 (S.1 a 9 : Int32).toNatClampNeg = some r6 ∧ ∃ r7, S.2.2 a 6 = some r7 ∧ sh[r6]? = some (0, 2) ∧ Sp l m_Gr_copyFrom d 0 0 [.ref r6, .ref r7] sh S (gV sh (fun S9 => ∃ r10, S9.2.2 a 8 = some r10 ∧ ∃ n12, sh[r10]? = some (6, n12) ∧ vp_in (S9.1 a 9) n12 ∧ ∃ r14, S9.2.2 r10 (S9.1 a 9 : Int32).toNatClampNeg = some r14 ∧ sh[r14]? = some (0, 2) ∧ ∃ r16, S9.2.2 r14 11 = some r16 ∧ ∃ r17, S9.2.2 a 6 = some r17 ∧ sh[r17]? = some (0, 2) ∧ ∃ r19, S9.2.2 r17 11 = some r19 ∧ sh[r16]? = some (0, 4) ∧ Sp l m_Fe_copyFrom d 0 0 [.ref r16, .ref r19] sh S9 (gV sh (fun S21 => Sp l m_Mg_give d 0 0 [.ref a, .int ((aw_uI S21 a 9 ((S21.1 a 9) + (1 : Int32))).1 a 9)] sh (aw_uI S21 a 9 ((S21.1 a 9) + (1 : Int32))) (gI sh (fun x23 S22 => P x23 S22))))))) ∧ (¬ (S.1 a 9) < 3 → Sp l m_Mg_fail d 0 0 [.ref a, .int 4] sh S (gI sh (fun x25 S24 => P x25 S24))))) : Sp l m_Mg_mark (d + 1) 0 0 [.ref a] sh S (gI sh P) := by
  refine Sp.of k_Mg_mark (ls := [.ref a]) rfl (Nat.le_of_ble_eq_true rfl) ?_
  refine r_aload_n (pc := 0) d_Mg_mark_0 (x := a) rfl ?_
  refine r_getI (pc := 1) d_Mg_mark_1 f_Mg_383 sa rfl ?_
  refine r_iconst (pc := 4) d_Mg_mark_4 (v := 3) (by decide) ?_
  refine r_icmp_lt (pc := 5) d_Mg_mark_5 (tgt := 14) (by decide) (fun c1 => ?_) (fun c1 => ?_)
  · replace h := h.1 c1
    refine r_aload_n (pc := 14) d_Mg_mark_14 (x := a) rfl ?_
    obtain ⟨r2, er2, h⟩ := h
    refine r_getR (pc := 15) d_Mg_mark_15 f_Mg_37 sa (Or.inr ⟨_, rfl⟩) (r := r2) er2 ?_
    refine r_aload_n (pc := 18) d_Mg_mark_18 (x := a) rfl ?_
    refine r_getI (pc := 19) d_Mg_mark_19 f_Mg_383 sa rfl ?_
    obtain ⟨n4, s3, h⟩ := h
    obtain ⟨g5, h⟩ := h
    obtain ⟨r6, er6, h⟩ := h
    refine r_aald6 (pc := 22) d_Mg_mark_22 s3 g5 (r := r6) er6 ?_
    refine r_aload_n (pc := 23) d_Mg_mark_23 (x := a) rfl ?_
    obtain ⟨r7, er7, h⟩ := h
    refine r_getR (pc := 24) d_Mg_mark_24 f_Mg_30 sa (Or.inl ⟨_, rfl⟩) (r := r7) er7 ?_
    obtain ⟨s8, h⟩ := h
    refine r_callV (pc := 27) (k := r6) (As := [.ref r7]) (rest := []) (mc' := 0) (ms' := 0) lk_Mg_380 in_Gr_copyFrom se_Gr_copyFrom s8 rfl d_Mg_mark_27 k_Gr_copyFrom rfl rfl (Nat.le_of_ble_eq_true rfl) (by decide) (by decide) (Sp.mono h ?_)
    rintro rS9 shS9 S9 ⟨qS9, uS9, h⟩
    subst uS9
    rw [qS9]
    refine r_aload_n (pc := 30) d_Mg_mark_30 (x := a) rfl ?_
    obtain ⟨r10, er10, h⟩ := h
    refine r_getR (pc := 31) d_Mg_mark_31 f_Mg_37 sa (Or.inr ⟨_, rfl⟩) (r := r10) er10 ?_
    refine r_aload_n (pc := 34) d_Mg_mark_34 (x := a) rfl ?_
    refine r_getI (pc := 35) d_Mg_mark_35 f_Mg_383 sa rfl ?_
    obtain ⟨n12, s11, h⟩ := h
    obtain ⟨g13, h⟩ := h
    obtain ⟨r14, er14, h⟩ := h
    refine r_aald6 (pc := 38) d_Mg_mark_38 s11 g13 (r := r14) er14 ?_
    obtain ⟨s15, h⟩ := h
    obtain ⟨r16, er16, h⟩ := h
    refine r_getR (pc := 39) d_Mg_mark_39 f_Mg_181 s15 (Or.inl ⟨_, rfl⟩) (r := r16) er16 ?_
    refine r_aload_n (pc := 42) d_Mg_mark_42 (x := a) rfl ?_
    obtain ⟨r17, er17, h⟩ := h
    refine r_getR (pc := 43) d_Mg_mark_43 f_Mg_30 sa (Or.inl ⟨_, rfl⟩) (r := r17) er17 ?_
    obtain ⟨s18, h⟩ := h
    obtain ⟨r19, er19, h⟩ := h
    refine r_getR (pc := 46) d_Mg_mark_46 f_Mg_181 s18 (Or.inl ⟨_, rfl⟩) (r := r19) er19 ?_
    obtain ⟨s20, h⟩ := h
    refine r_callV (pc := 49) (k := r16) (As := [.ref r19]) (rest := []) (mc' := 0) (ms' := 0) lk_Mg_184 in_Fe_copyFrom se_Fe_copyFrom s20 rfl d_Mg_mark_49 k_Fe_copyFrom rfl rfl (Nat.le_of_ble_eq_true rfl) (by decide) (by decide) (Sp.mono h ?_)
    rintro rS21 shS21 S21 ⟨qS21, uS21, h⟩
    subst uS21
    rw [qS21]
    refine r_aload_n (pc := 52) d_Mg_mark_52 (x := a) rfl ?_
    refine r_dup (pc := 53) d_Mg_mark_53 rfl ?_
    refine r_getI (pc := 54) d_Mg_mark_54 f_Mg_383 sa rfl ?_
    refine r_iconst (pc := 57) d_Mg_mark_57 (v := 1) (by decide) ?_
    refine r_iadd (pc := 58) d_Mg_mark_58 ?_
    refine r_putI (pc := 59) d_Mg_mark_59 f_Mg_383 sa rfl ?_
    refine r_aload_n (pc := 62) d_Mg_mark_62 (x := a) rfl ?_
    refine r_aload_n (pc := 63) d_Mg_mark_63 (x := a) rfl ?_
    refine r_getI (pc := 64) d_Mg_mark_64 f_Mg_383 sa rfl ?_
    refine r_callV (pc := 67) (k := a) (As := [.int ((aw_uI S21 a 9 ((S21.1 a 9) + (1 : Int32))).1 a 9)]) (rest := []) (mc' := 0) (ms' := 0) lk_Mg_174 in_Mg_give se_Mg_give sa rfl d_Mg_mark_67 k_Mg_give rfl rfl (Nat.le_of_ble_eq_true rfl) (by decide) (by decide) (Sp.mono h ?_)
    rintro rS22 shS22 S22 ⟨qS22, x23, uS22, h⟩
    subst uS22
    rw [qS22]
    exact r_ireturn (pc := 70) d_Mg_mark_70 rfl rfl (Nat.le_refl _) ⟨rfl, _, rfl, h⟩
  · replace h := h.2 c1
    refine r_aload_n (pc := 8) d_Mg_mark_8 (x := a) rfl ?_
    refine r_iconst (pc := 9) d_Mg_mark_9 (v := 4) (by decide) ?_
    refine r_callV (pc := 10) (k := a) (As := [.int 4]) (rest := []) (mc' := 0) (ms' := 0) lk_Mg_133 in_Mg_fail se_Mg_fail sa rfl d_Mg_mark_10 k_Mg_fail rfl rfl (Nat.le_of_ble_eq_true rfl) (by decide) (by decide) (Sp.mono h ?_)
    rintro rS24 shS24 S24 ⟨qS24, x25, uS24, h⟩
    subst uS24
    rw [qS24]
    exact r_ireturn (pc := 13) d_Mg_mark_13 rfl rfl (Nat.le_refl _) ⟨rfl, _, rfl, h⟩
set_option maxRecDepth 4000 in
theorem e_Mg_undo {l : Launch} {d : Nat} {sh : aw_SH} {S : aw_S} {P : Int32 → aw_S → Prop} {a : Nat} (sa : sh[a]? = some (0, 0)) (h : ((¬ (S.1 a 9) = 0 → ∃ r2, (aw_uI S a 9 ((S.1 a 9) - (1 : Int32))).2.2 a 6 = some r2 ∧ ∃ r3, (aw_uI S a 9 ((S.1 a 9) - (1 : Int32))).2.2 a 8 = some r3 ∧ ∃ n5, sh[r3]? = some (6, n5) ∧ vp_in ((aw_uI S a 9 ((S.1 a 9) - (1 : Int32))).1 a 9) n5 ∧ ∃ r7, (aw_uI S a 9 ((S.1 a 9) - (1 : Int32))).2.2 r3 ((aw_uI S a 9 ((S.1 a 9) - (1 : Int32))).1 a 9 : Int32).toNatClampNeg = some r7 ∧ sh[r2]? = some (0, 2) ∧ Sp l m_Gr_copyFrom d 0 0 [.ref r2, .ref r7] sh (aw_uI S a 9 ((S.1 a 9) - (1 : Int32))) (gV sh (fun S9 => ∃ r10, S9.2.2 a 6 = some r10 ∧ sh[r10]? = some (0, 2) ∧ ∃ r12, S9.2.2 r10 11 = some r12 ∧ ∃ r13, S9.2.2 a 8 = some r13 ∧ ∃ n15, sh[r13]? = some (6, n15) ∧ vp_in (S9.1 a 9) n15 ∧ ∃ r17, S9.2.2 r13 (S9.1 a 9 : Int32).toNatClampNeg = some r17 ∧ sh[r17]? = some (0, 2) ∧ ∃ r19, S9.2.2 r17 11 = some r19 ∧ sh[r12]? = some (0, 4) ∧ Sp l m_Fe_copyFrom d 0 0 [.ref r12, .ref r19] sh S9 (gV sh (fun S21 => Sp l m_Mg_give d 0 0 [.ref a, .int (S21.1 a 9)] sh S21 (gI sh (fun x23 S22 => P x23 S22))))))) ∧ ((S.1 a 9) = 0 → Sp l m_Mg_fail d 0 0 [.ref a, .int 6] sh S (gI sh (fun x25 S24 => P x25 S24))))) : Sp l m_Mg_undo (d + 1) 0 0 [.ref a] sh S (gI sh P) := by
  refine Sp.of k_Mg_undo (ls := [.ref a]) rfl (Nat.le_of_ble_eq_true rfl) ?_
  refine r_aload_n (pc := 0) d_Mg_undo_0 (x := a) rfl ?_
  refine r_getI (pc := 1) d_Mg_undo_1 f_Mg_383 sa rfl ?_
  refine r_if_ne (pc := 4) d_Mg_undo_4 (tgt := 14) (by decide) (fun c1 => ?_) (fun c1 => ?_)
  · replace h := h.1 c1
    refine r_aload_n (pc := 14) d_Mg_undo_14 (x := a) rfl ?_
    refine r_dup (pc := 15) d_Mg_undo_15 rfl ?_
    refine r_getI (pc := 16) d_Mg_undo_16 f_Mg_383 sa rfl ?_
    refine r_iconst (pc := 19) d_Mg_undo_19 (v := 1) (by decide) ?_
    refine r_isub (pc := 20) d_Mg_undo_20 ?_
    refine r_putI (pc := 21) d_Mg_undo_21 f_Mg_383 sa rfl ?_
    refine r_aload_n (pc := 24) d_Mg_undo_24 (x := a) rfl ?_
    obtain ⟨r2, er2, h⟩ := h
    refine r_getR (pc := 25) d_Mg_undo_25 f_Mg_30 sa (Or.inl ⟨_, rfl⟩) (r := r2) er2 ?_
    refine r_aload_n (pc := 28) d_Mg_undo_28 (x := a) rfl ?_
    obtain ⟨r3, er3, h⟩ := h
    refine r_getR (pc := 29) d_Mg_undo_29 f_Mg_37 sa (Or.inr ⟨_, rfl⟩) (r := r3) er3 ?_
    refine r_aload_n (pc := 32) d_Mg_undo_32 (x := a) rfl ?_
    refine r_getI (pc := 33) d_Mg_undo_33 f_Mg_383 sa rfl ?_
    obtain ⟨n5, s4, h⟩ := h
    obtain ⟨g6, h⟩ := h
    obtain ⟨r7, er7, h⟩ := h
    refine r_aald6 (pc := 36) d_Mg_undo_36 s4 g6 (r := r7) er7 ?_
    obtain ⟨s8, h⟩ := h
    refine r_callV (pc := 37) (k := r2) (As := [.ref r7]) (rest := []) (mc' := 0) (ms' := 0) lk_Mg_380 in_Gr_copyFrom se_Gr_copyFrom s8 rfl d_Mg_undo_37 k_Gr_copyFrom rfl rfl (Nat.le_of_ble_eq_true rfl) (by decide) (by decide) (Sp.mono h ?_)
    rintro rS9 shS9 S9 ⟨qS9, uS9, h⟩
    subst uS9
    rw [qS9]
    refine r_aload_n (pc := 40) d_Mg_undo_40 (x := a) rfl ?_
    obtain ⟨r10, er10, h⟩ := h
    refine r_getR (pc := 41) d_Mg_undo_41 f_Mg_30 sa (Or.inl ⟨_, rfl⟩) (r := r10) er10 ?_
    obtain ⟨s11, h⟩ := h
    obtain ⟨r12, er12, h⟩ := h
    refine r_getR (pc := 44) d_Mg_undo_44 f_Mg_181 s11 (Or.inl ⟨_, rfl⟩) (r := r12) er12 ?_
    refine r_aload_n (pc := 47) d_Mg_undo_47 (x := a) rfl ?_
    obtain ⟨r13, er13, h⟩ := h
    refine r_getR (pc := 48) d_Mg_undo_48 f_Mg_37 sa (Or.inr ⟨_, rfl⟩) (r := r13) er13 ?_
    refine r_aload_n (pc := 51) d_Mg_undo_51 (x := a) rfl ?_
    refine r_getI (pc := 52) d_Mg_undo_52 f_Mg_383 sa rfl ?_
    obtain ⟨n15, s14, h⟩ := h
    obtain ⟨g16, h⟩ := h
    obtain ⟨r17, er17, h⟩ := h
    refine r_aald6 (pc := 55) d_Mg_undo_55 s14 g16 (r := r17) er17 ?_
    obtain ⟨s18, h⟩ := h
    obtain ⟨r19, er19, h⟩ := h
    refine r_getR (pc := 56) d_Mg_undo_56 f_Mg_181 s18 (Or.inl ⟨_, rfl⟩) (r := r19) er19 ?_
    obtain ⟨s20, h⟩ := h
    refine r_callV (pc := 59) (k := r12) (As := [.ref r19]) (rest := []) (mc' := 0) (ms' := 0) lk_Mg_184 in_Fe_copyFrom se_Fe_copyFrom s20 rfl d_Mg_undo_59 k_Fe_copyFrom rfl rfl (Nat.le_of_ble_eq_true rfl) (by decide) (by decide) (Sp.mono h ?_)
    rintro rS21 shS21 S21 ⟨qS21, uS21, h⟩
    subst uS21
    rw [qS21]
    refine r_aload_n (pc := 62) d_Mg_undo_62 (x := a) rfl ?_
    refine r_aload_n (pc := 63) d_Mg_undo_63 (x := a) rfl ?_
    refine r_getI (pc := 64) d_Mg_undo_64 f_Mg_383 sa rfl ?_
    refine r_callV (pc := 67) (k := a) (As := [.int (S21.1 a 9)]) (rest := []) (mc' := 0) (ms' := 0) lk_Mg_174 in_Mg_give se_Mg_give sa rfl d_Mg_undo_67 k_Mg_give rfl rfl (Nat.le_of_ble_eq_true rfl) (by decide) (by decide) (Sp.mono h ?_)
    rintro rS22 shS22 S22 ⟨qS22, x23, uS22, h⟩
    subst uS22
    rw [qS22]
    exact r_ireturn (pc := 70) d_Mg_undo_70 rfl rfl (Nat.le_refl _) ⟨rfl, _, rfl, h⟩
  · replace h := h.2 c1
    refine r_aload_n (pc := 7) d_Mg_undo_7 (x := a) rfl ?_
    refine r_bipush (pc := 8) d_Mg_undo_8 (v := 6) (by decide) ?_
    refine r_callV (pc := 10) (k := a) (As := [.int 6]) (rest := []) (mc' := 0) (ms' := 0) lk_Mg_133 in_Mg_fail se_Mg_fail sa rfl d_Mg_undo_10 k_Mg_fail rfl rfl (Nat.le_of_ble_eq_true rfl) (by decide) (by decide) (Sp.mono h ?_)
    rintro rS24 shS24 S24 ⟨qS24, x25, uS24, h⟩
    subst uS24
    rw [qS24]
    exact r_ireturn (pc := 13) d_Mg_undo_13 rfl rfl (Nat.le_refl _) ⟨rfl, _, rfl, h⟩
