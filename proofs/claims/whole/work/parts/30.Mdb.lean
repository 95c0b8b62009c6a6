set_option maxRecDepth 4000 in
theorem e_Md_plain {l : Launch} {d : Nat} {sh : aw_SH} {S : aw_S} {P : aw_S → Prop} {a : Nat} {p0 : Int32} (sa : sh[a]? = some (0, 11)) (h : AW l m_Md_plain (d + 1) 0 0 (gV sh P) 0 0 2 [.ref a, .int p0, .int 0] [] sh S) : Sp l m_Md_plain (d + 1) 0 0 [.ref a, .int p0] sh S (gV sh P) := by
  refine Sp.of k_Md_plain (ls := [.ref a, .int p0, .null]) rfl (Nat.le_of_ble_eq_true rfl) ?_
  refine r_iconst (pc := 0) d_Md_plain_0 (v := 0) (by decide) ?_
  refine r_istore_n (pc := 1) (hk := rfl) (hd := d_Md_plain_1) (hi := by decide) (ls2 := [.ref a, .int p0, .int 0]) (h2 := rfl) ?_
  exact h
set_option maxRecDepth 4000 in
theorem s_Md_plain_2 {l : Launch} {d : Nat} {sh : aw_SH} {S : aw_S} {P : aw_S → Prop} {a : Nat} {i1 : Int32} {i2 : Int32} (sa : sh[a]? = some (0, 11)) (h : ((552 ≤ i2 → ∃ r2, S.2.2 a 0 = some r2 ∧ ∃ n4, sh[r2]? = some (3, n4) ∧ vp_in (i1 + (1 : Int32)) n4 ∧ vp_in (i1 + (2 : Int32)) n4 ∧ vp_in (i1 + (5 : Int32)) n4 ∧ P (aw_uI (aw_uI (aw_uI S r2 ((i1 + (1 : Int32) : Int32).toNatClampNeg) 2) r2 ((i1 + (2 : Int32) : Int32).toNatClampNeg) 12) r2 ((i1 + (5 : Int32) : Int32).toNatClampNeg) (-1))) ∧ (¬ 552 ≤ i2 → ∃ r8, S.2.2 a 0 = some r8 ∧ ∃ n10, sh[r8]? = some (3, n10) ∧ vp_in (i1 + i2) n10 ∧ AW l m_Md_plain (d + 1) 0 0 (gV sh P) 0 0 2 [.ref a, .int i1, .int (i2 + 1)] [] sh (aw_uI S r8 ((i1 + i2 : Int32).toNatClampNeg) 0)))) : AW l m_Md_plain (d + 1) 0 0 (gV sh P) 0 0 2 [.ref a, .int i1, .int i2] [] sh S := by
  refine r_iload_n (pc := 2) d_Md_plain_2 (x := i2) rfl ?_
  refine r_sipush (pc := 3) d_Md_plain_3 (v := 552) (by decide) ?_
  refine r_icmp_ge (pc := 6) d_Md_plain_6 (tgt := 24) (by decide) (fun c1 => ?_) (fun c1 => ?_)
  · replace h := h.1 c1
    refine r_aload_n (pc := 24) d_Md_plain_24 (x := a) rfl ?_
    obtain ⟨r2, er2, h⟩ := h
    refine r_getR (pc := 25) d_Md_plain_25 f_Md_7 sa (Or.inr ⟨_, rfl⟩) (r := r2) er2 ?_
    refine r_iload_n (pc := 28) d_Md_plain_28 (x := i1) rfl ?_
    refine r_iconst (pc := 29) d_Md_plain_29 (v := 1) (by decide) ?_
    refine r_iadd (pc := 30) d_Md_plain_30 ?_
    refine r_iconst (pc := 31) d_Md_plain_31 (v := 2) (by decide) ?_
    obtain ⟨n4, s3, h⟩ := h
    obtain ⟨g5, h⟩ := h
    refine r_iast (pc := 32) d_Md_plain_32 s3 g5 ?_
    refine r_aload_n (pc := 33) d_Md_plain_33 (x := a) rfl ?_
    refine r_getR (pc := 34) d_Md_plain_34 f_Md_7 sa (Or.inr ⟨_, rfl⟩) (r := r2) er2 ?_
    refine r_iload_n (pc := 37) d_Md_plain_37 (x := i1) rfl ?_
    refine r_iconst (pc := 38) d_Md_plain_38 (v := 2) (by decide) ?_
    refine r_iadd (pc := 39) d_Md_plain_39 ?_
    refine r_bipush (pc := 40) d_Md_plain_40 (v := 12) (by decide) ?_
    obtain ⟨g6, h⟩ := h
    refine r_iast (pc := 42) d_Md_plain_42 s3 g6 ?_
    refine r_aload_n (pc := 43) d_Md_plain_43 (x := a) rfl ?_
    refine r_getR (pc := 44) d_Md_plain_44 f_Md_7 sa (Or.inr ⟨_, rfl⟩) (r := r2) er2 ?_
    refine r_iload_n (pc := 47) d_Md_plain_47 (x := i1) rfl ?_
    refine r_iconst (pc := 48) d_Md_plain_48 (v := 5) (by decide) ?_
    refine r_iadd (pc := 49) d_Md_plain_49 ?_
    refine r_iconst (pc := 50) d_Md_plain_50 (v := (-1)) (by decide) ?_
    obtain ⟨g7, h⟩ := h
    refine r_iast (pc := 51) d_Md_plain_51 s3 g7 ?_
    exact r_return (pc := 52) d_Md_plain_52 rfl rfl (Nat.le_refl _) ⟨rfl, rfl, h⟩
  · replace h := h.2 c1
    refine r_aload_n (pc := 9) d_Md_plain_9 (x := a) rfl ?_
    obtain ⟨r8, er8, h⟩ := h
    refine r_getR (pc := 10) d_Md_plain_10 f_Md_7 sa (Or.inr ⟨_, rfl⟩) (r := r8) er8 ?_
    refine r_iload_n (pc := 13) d_Md_plain_13 (x := i1) rfl ?_
    refine r_iload_n (pc := 14) d_Md_plain_14 (x := i2) rfl ?_
    refine r_iadd (pc := 15) d_Md_plain_15 ?_
    refine r_iconst (pc := 16) d_Md_plain_16 (v := 0) (by decide) ?_
    obtain ⟨n10, s9, h⟩ := h
    obtain ⟨g11, h⟩ := h
    refine r_iast (pc := 17) d_Md_plain_17 s9 g11 ?_
    refine r_iinc (pc := 18) d_Md_plain_18 (hi := by decide) (x := i2) rfl (v := i2 + 1) rfl (ls2 := [.ref a, .int i1, .int (i2 + 1)]) rfl ?_
    refine r_goto (pc := 21) d_Md_plain_21 (tgt := 2) (by decide) ?_
    exact h
set_option maxRecDepth 4000 in
theorem e_Md_status {l : Launch} {d : Nat} {sh : aw_SH} {S : aw_S} {P : Int32 → aw_S → Prop} {a : Nat} (sa : sh[a]? = some (0, 11)) (h : P (S.1 a 2) S) : Sp l m_Md_status (d + 1) 0 0 [.ref a] sh S (gI sh P) := by
  refine Sp.of k_Md_status (ls := [.ref a]) rfl (Nat.le_of_ble_eq_true rfl) ?_
  refine r_aload_n (pc := 0) d_Md_status_0 (x := a) rfl ?_
  refine r_getI (pc := 1) d_Md_status_1 f_Md_112 sa rfl ?_
  exact r_ireturn (pc := 4) d_Md_status_4 rfl rfl (Nat.le_refl _) ⟨rfl, _, rfl, h⟩
set_option maxRecDepth 4000 in
theorem e_Md_top {l : Launch} {d : Nat} {sh : aw_SH} {S : aw_S} {P : Int64 → aw_S → Prop} {a : Nat} (sa : sh[a]? = some (0, 11)) (h : P (S.2.1 a 3) S) : Sp l m_Md_top (d + 1) 0 0 [.ref a] sh S (gL sh P) := by
  refine Sp.of k_Md_top (ls := [.ref a]) rfl (Nat.le_of_ble_eq_true rfl) ?_
  refine r_aload_n (pc := 0) d_Md_top_0 (x := a) rfl ?_
  refine r_getL (pc := 1) d_Md_top_1 f_Md_115 sa rfl ?_
  exact r_lreturn (pc := 4) d_Md_top_4 rfl rfl (Nat.le_refl _) ⟨rfl, _, rfl, h⟩
set_option maxRecDepth 4000 in
theorem e_Md_bottom {l : Launch} {d : Nat} {sh : aw_SH} {S : aw_S} {P : Int64 → aw_S → Prop} {a : Nat} (sa : sh[a]? = some (0, 11)) (h : P (S.2.1 a 4) S) : Sp l m_Md_bottom (d + 1) 0 0 [.ref a] sh S (gL sh P) := by
  refine Sp.of k_Md_bottom (ls := [.ref a]) rfl (Nat.le_of_ble_eq_true rfl) ?_
  refine r_aload_n (pc := 0) d_Md_bottom_0 (x := a) rfl ?_
  refine r_getL (pc := 1) d_Md_bottom_1 f_Md_17 sa rfl ?_
  exact r_lreturn (pc := 4) d_Md_bottom_4 rfl rfl (Nat.le_refl _) ⟨rfl, _, rfl, h⟩
set_option maxRecDepth 4000 in
theorem e_Md_tray {l : Launch} {d : Nat} {sh : aw_SH} {S : aw_S} {P : Int32 → aw_S → Prop} {a : Nat} {p0 : Int32} {p1 : Int32} {p2 : Int32} (sa : sh[a]? = some (0, 11)) (h : Sp l m_Md_isTray d 0 0 [.int p0] sh S (gI sh (fun x2 S1 => ((x2 = 0 → Sp l m_Md_is d 0 0 [.ref a, .int 1] sh S1 (gI sh (fun x5 S4 => ((x5 = 0 ∨ x5 = 1) ∧ P x5 S4)))) ∧ (¬ x2 = 0 → ((p1 < 0 → Sp l m_Md_is d 0 0 [.ref a, .int 1] sh S1 (gI sh (fun x9 S8 => ((x9 = 0 ∨ x9 = 1) ∧ P x9 S8)))) ∧ (¬ p1 < 0 → ((3 < p1 → Sp l m_Md_is d 0 0 [.ref a, .int 1] sh S1 (gI sh (fun x13 S12 => ((x13 = 0 ∨ x13 = 1) ∧ P x13 S12)))) ∧ (¬ 3 < p1 → ((p2 < 0 → Sp l m_Md_is d 0 0 [.ref a, .int 1] sh S1 (gI sh (fun x17 S16 => ((x17 = 0 ∨ x17 = 1) ∧ P x17 S16)))) ∧ (¬ p2 < 0 → ((p2 ≤ 60 → ∃ r20, S1.2.2 a 5 = some r20 ∧ ∃ n22, sh[r20]? = some (3, n22) ∧ vp_in p0 n22 ∧ ∃ r24, (aw_uI S1 r20 p0.toNatClampNeg p1).2.2 a 6 = some r24 ∧ ∃ n26, sh[r24]? = some (3, n26) ∧ vp_in p0 n26 ∧ AW l m_Md_tray (d + 1) 0 0 (gI sh P) 0 0 49 [.ref a, .int p0, .null, .int p2, .int 0] [] sh (aw_uI (aw_uI S1 r20 p0.toNatClampNeg p1) r24 p0.toNatClampNeg p2)) ∧ (¬ p2 ≤ 60 → Sp l m_Md_is d 0 0 [.ref a, .int 1] sh S1 (gI sh (fun x29 S28 => ((x29 = 0 ∨ x29 = 1) ∧ P x29 S28)))))))))))))))) : Sp l m_Md_tray (d + 1) 0 0 [.ref a, .int p0, .int p1, .int p2] sh S (gI sh P) := by
  refine Sp.of k_Md_tray (ls := [.ref a, .int p0, .int p1, .int p2, .null]) rfl (Nat.le_of_ble_eq_true rfl) ?_
  refine r_iload_n (pc := 0) d_Md_tray_0 (x := p0) rfl ?_
  refine r_callS (pc := 1) (k := 0) (As := [.int p0]) (rest := []) (mc' := 0) (ms' := 0) lk_Md_129 st_Md_isTray d_Md_tray_1 k_Md_isTray rfl rfl (Nat.le_of_ble_eq_true rfl) (by decide) (by decide) (Sp.mono h ?_)
  rintro rS1 shS1 S1 ⟨qS1, x2, uS1, h⟩
  subst uS1
  rw [qS1]
  refine r_if_eq (pc := 4) d_Md_tray_4 (tgt := 26) (by decide) (fun c3 => ?_) (fun c3 => ?_)
  · replace h := h.1 c3
    refine r_aload_n (pc := 26) d_Md_tray_26 (x := a) rfl ?_
    refine r_iconst (pc := 27) d_Md_tray_27 (v := 1) (by decide) ?_
    refine r_callV (pc := 28) (k := a) (As := [.int 1]) (rest := []) (mc' := 0) (ms' := 0) lk_Md_125 in_Md_is se_Md_is sa rfl d_Md_tray_28 k_Md_is rfl rfl (Nat.le_of_ble_eq_true rfl) (by decide) (by decide) (Sp.mono h ?_)
    rintro rS4 shS4 S4 ⟨qS4, x5, uS4, h⟩
    subst uS4
    rw [qS4]
    obtain ⟨g6, h⟩ := h
    exact r_zreturn (pc := 31) d_Md_tray_31 rfl (aw_nb g6) rfl (Nat.le_refl _) ⟨rfl, _, rfl, h⟩
  · replace h := h.2 c3
    refine r_iload_n (pc := 7) d_Md_tray_7 (x := p1) rfl ?_
    refine r_if_lt (pc := 8) d_Md_tray_8 (tgt := 26) (by decide) (fun c7 => ?_) (fun c7 => ?_)
    · replace h := h.1 c7
      refine r_aload_n (pc := 26) d_Md_tray_26 (x := a) rfl ?_
      refine r_iconst (pc := 27) d_Md_tray_27 (v := 1) (by decide) ?_
      refine r_callV (pc := 28) (k := a) (As := [.int 1]) (rest := []) (mc' := 0) (ms' := 0) lk_Md_125 in_Md_is se_Md_is sa rfl d_Md_tray_28 k_Md_is rfl rfl (Nat.le_of_ble_eq_true rfl) (by decide) (by decide) (Sp.mono h ?_)
      rintro rS8 shS8 S8 ⟨qS8, x9, uS8, h⟩
      subst uS8
      rw [qS8]
      obtain ⟨g10, h⟩ := h
      exact r_zreturn (pc := 31) d_Md_tray_31 rfl (aw_nb g10) rfl (Nat.le_refl _) ⟨rfl, _, rfl, h⟩
    · replace h := h.2 c7
      refine r_iload_n (pc := 11) d_Md_tray_11 (x := p1) rfl ?_
      refine r_iconst (pc := 12) d_Md_tray_12 (v := 3) (by decide) ?_
      refine r_icmp_gt (pc := 13) d_Md_tray_13 (tgt := 26) (by decide) (fun c11 => ?_) (fun c11 => ?_)
      · replace h := h.1 c11
        refine r_aload_n (pc := 26) d_Md_tray_26 (x := a) rfl ?_
        refine r_iconst (pc := 27) d_Md_tray_27 (v := 1) (by decide) ?_
        refine r_callV (pc := 28) (k := a) (As := [.int 1]) (rest := []) (mc' := 0) (ms' := 0) lk_Md_125 in_Md_is se_Md_is sa rfl d_Md_tray_28 k_Md_is rfl rfl (Nat.le_of_ble_eq_true rfl) (by decide) (by decide) (Sp.mono h ?_)
        rintro rS12 shS12 S12 ⟨qS12, x13, uS12, h⟩
        subst uS12
        rw [qS12]
        obtain ⟨g14, h⟩ := h
        exact r_zreturn (pc := 31) d_Md_tray_31 rfl (aw_nb g14) rfl (Nat.le_refl _) ⟨rfl, _, rfl, h⟩
      · replace h := h.2 c11
        refine r_iload_n (pc := 16) d_Md_tray_16 (x := p2) rfl ?_
        refine r_if_lt (pc := 17) d_Md_tray_17 (tgt := 26) (by decide) (fun c15 => ?_) (fun c15 => ?_)
        · replace h := h.1 c15
          refine r_aload_n (pc := 26) d_Md_tray_26 (x := a) rfl ?_
          refine r_iconst (pc := 27) d_Md_tray_27 (v := 1) (by decide) ?_
          refine r_callV (pc := 28) (k := a) (As := [.int 1]) (rest := []) (mc' := 0) (ms' := 0) lk_Md_125 in_Md_is se_Md_is sa rfl d_Md_tray_28 k_Md_is rfl rfl (Nat.le_of_ble_eq_true rfl) (by decide) (by decide) (Sp.mono h ?_)
          rintro rS16 shS16 S16 ⟨qS16, x17, uS16, h⟩
          subst uS16
          rw [qS16]
          obtain ⟨g18, h⟩ := h
          exact r_zreturn (pc := 31) d_Md_tray_31 rfl (aw_nb g18) rfl (Nat.le_refl _) ⟨rfl, _, rfl, h⟩
        · replace h := h.2 c15
          refine r_iload_n (pc := 20) d_Md_tray_20 (x := p2) rfl ?_
          refine r_bipush (pc := 21) d_Md_tray_21 (v := 60) (by decide) ?_
          refine r_icmp_le (pc := 23) d_Md_tray_23 (tgt := 32) (by decide) (fun c19 => ?_) (fun c19 => ?_)
          · replace h := h.1 c19
            refine r_aload_n (pc := 32) d_Md_tray_32 (x := a) rfl ?_
            obtain ⟨r20, er20, h⟩ := h
            refine r_getR (pc := 33) d_Md_tray_33 f_Md_21 sa (Or.inr ⟨_, rfl⟩) (r := r20) er20 ?_
            refine r_iload_n (pc := 36) d_Md_tray_36 (x := p0) rfl ?_
            refine r_iload_n (pc := 37) d_Md_tray_37 (x := p1) rfl ?_
            obtain ⟨n22, s21, h⟩ := h
            obtain ⟨g23, h⟩ := h
            refine r_iast (pc := 38) d_Md_tray_38 s21 g23 ?_
            refine r_aload_n (pc := 39) d_Md_tray_39 (x := a) rfl ?_
            obtain ⟨r24, er24, h⟩ := h
            refine r_getR (pc := 40) d_Md_tray_40 f_Md_24 sa (Or.inr ⟨_, rfl⟩) (r := r24) er24 ?_
            refine r_iload_n (pc := 43) d_Md_tray_43 (x := p0) rfl ?_
            refine r_iload_n (pc := 44) d_Md_tray_44 (x := p2) rfl ?_
            obtain ⟨n26, s25, h⟩ := h
            obtain ⟨g27, h⟩ := h
            refine r_iast (pc := 45) d_Md_tray_45 s25 g27 ?_
            refine r_iconst (pc := 46) d_Md_tray_46 (v := 0) (by decide) ?_
            refine r_istore (pc := 47) (hd := d_Md_tray_47) (hi := by decide) (ls2 := [.ref a, .int p0, .int p1, .int p2, .int 0]) (h2 := rfl) ?_
            exact r_weak (ls2 := [.ref a, .int p0, .null, .int p2, .int 0]) ⟨Or.inr rfl, Or.inr rfl, Or.inl rfl, Or.inr rfl, Or.inr rfl, trivial⟩ h
          · replace h := h.2 c19
            refine r_aload_n (pc := 26) d_Md_tray_26 (x := a) rfl ?_
            refine r_iconst (pc := 27) d_Md_tray_27 (v := 1) (by decide) ?_
            refine r_callV (pc := 28) (k := a) (As := [.int 1]) (rest := []) (mc' := 0) (ms' := 0) lk_Md_125 in_Md_is se_Md_is sa rfl d_Md_tray_28 k_Md_is rfl rfl (Nat.le_of_ble_eq_true rfl) (by decide) (by decide) (Sp.mono h ?_)
            rintro rS28 shS28 S28 ⟨qS28, x29, uS28, h⟩
            subst uS28
            rw [qS28]
            obtain ⟨g30, h⟩ := h
            exact r_zreturn (pc := 31) d_Md_tray_31 rfl (aw_nb g30) rfl (Nat.le_refl _) ⟨rfl, _, rfl, h⟩
set_option maxRecDepth 4000 in
theorem s_Md_tray_49 {l : Launch} {d : Nat} {sh : aw_SH} {S : aw_S} {P : Int32 → aw_S → Prop} {a : Nat} {i1 : Int32} {i3 : Int32} {i4 : Int32} (sa : sh[a]? = some (0, 11)) (h : ((i3 ≤ i4 → Sp l m_Md_is d 0 0 [.ref a, .int 0] sh S (gI sh (fun x3 S2 => ((x3 = 0 ∨ x3 = 1) ∧ P x3 S2)))) ∧ (¬ i3 ≤ i4 → ∃ r5, S.2.2 a 7 = some r5 ∧ ∃ n7, sh[r5]? = some (4, n7) ∧ vp_in (((60 : Int32) * i1) + i4) n7 ∧ AW l m_Md_tray (d + 1) 0 0 (gI sh P) 0 0 49 [.ref a, .int i1, .null, .int i3, .int (i4 + 1)] [] sh (aw_uL S r5 ((((60 : Int32) * i1) + i4 : Int32).toNatClampNeg) 0)))) : AW l m_Md_tray (d + 1) 0 0 (gI sh P) 0 0 49 [.ref a, .int i1, .null, .int i3, .int i4] [] sh S := by
  refine r_iload (pc := 49) d_Md_tray_49 (x := i4) rfl ?_
  refine r_iload_n (pc := 51) d_Md_tray_51 (x := i3) rfl ?_
  refine r_icmp_ge (pc := 52) d_Md_tray_52 (tgt := 74) (by decide) (fun c1 => ?_) (fun c1 => ?_)
  · replace h := h.1 c1
    refine r_aload_n (pc := 74) d_Md_tray_74 (x := a) rfl ?_
    refine r_iconst (pc := 75) d_Md_tray_75 (v := 0) (by decide) ?_
    refine r_callV (pc := 76) (k := a) (As := [.int 0]) (rest := []) (mc' := 0) (ms' := 0) lk_Md_125 in_Md_is se_Md_is sa rfl d_Md_tray_76 k_Md_is rfl rfl (Nat.le_of_ble_eq_true rfl) (by decide) (by decide) (Sp.mono h ?_)
    rintro rS2 shS2 S2 ⟨qS2, x3, uS2, h⟩
    subst uS2
    rw [qS2]
    obtain ⟨g4, h⟩ := h
    exact r_zreturn (pc := 79) d_Md_tray_79 rfl (aw_nb g4) rfl (Nat.le_refl _) ⟨rfl, _, rfl, h⟩
  · replace h := h.2 c1
    refine r_aload_n (pc := 55) d_Md_tray_55 (x := a) rfl ?_
    obtain ⟨r5, er5, h⟩ := h
    refine r_getR (pc := 56) d_Md_tray_56 f_Md_27 sa (Or.inr ⟨_, rfl⟩) (r := r5) er5 ?_
    refine r_bipush (pc := 59) d_Md_tray_59 (v := 60) (by decide) ?_
    refine r_iload_n (pc := 61) d_Md_tray_61 (x := i1) rfl ?_
    refine r_imul (pc := 62) d_Md_tray_62 ?_
    refine r_iload (pc := 63) d_Md_tray_63 (x := i4) rfl ?_
    refine r_iadd (pc := 65) d_Md_tray_65 ?_
    refine r_lconst (pc := 66) d_Md_tray_66 (v := 0) (by decide) ?_
    obtain ⟨n7, s6, h⟩ := h
    obtain ⟨g8, h⟩ := h
    refine r_last (pc := 67) d_Md_tray_67 s6 g8 ?_
    refine r_iinc (pc := 68) d_Md_tray_68 (hi := by decide) (x := i4) rfl (v := i4 + 1) rfl (ls2 := [.ref a, .int i1, .null, .int i3, .int (i4 + 1)]) rfl ?_
    refine r_goto (pc := 71) d_Md_tray_71 (tgt := 49) (by decide) ?_
    exact h
set_option maxRecDepth 4000 in
theorem e_Md_isTray {l : Launch} {d : Nat} {sh : aw_SH} {S : aw_S} {P : Int32 → aw_S → Prop} {p0 : Int32} (h : ((p0 < 0 → P 0 S) ∧ (¬ p0 < 0 → ((4 ≤ p0 → P 0 S) ∧ (¬ 4 ≤ p0 → P 1 S))))) : Sp l m_Md_isTray (d + 1) 0 0 [.int p0] sh S (gI sh P) := by
  refine Sp.of k_Md_isTray (ls := [.int p0]) rfl (Nat.le_of_ble_eq_true rfl) ?_
  refine r_iload_n (pc := 0) d_Md_isTray_0 (x := p0) rfl ?_
  refine r_if_lt (pc := 1) d_Md_isTray_1 (tgt := 13) (by decide) (fun c1 => ?_) (fun c1 => ?_)
  · replace h := h.1 c1
    refine r_iconst (pc := 13) d_Md_isTray_13 (v := 0) (by decide) ?_
    exact r_zreturn (pc := 14) d_Md_isTray_14 (v := 0) rfl (by decide) rfl (Nat.le_refl _) ⟨rfl, _, rfl, h⟩
  · replace h := h.2 c1
    refine r_iload_n (pc := 4) d_Md_isTray_4 (x := p0) rfl ?_
    refine r_iconst (pc := 5) d_Md_isTray_5 (v := 4) (by decide) ?_
    refine r_icmp_ge (pc := 6) d_Md_isTray_6 (tgt := 13) (by decide) (fun c2 => ?_) (fun c2 => ?_)
    · replace h := h.1 c2
      refine r_iconst (pc := 13) d_Md_isTray_13 (v := 0) (by decide) ?_
      exact r_zreturn (pc := 14) d_Md_isTray_14 (v := 0) rfl (by decide) rfl (Nat.le_refl _) ⟨rfl, _, rfl, h⟩
    · replace h := h.2 c2
      refine r_iconst (pc := 9) d_Md_isTray_9 (v := 1) (by decide) ?_
      refine r_goto (pc := 10) d_Md_isTray_10 (tgt := 14) (by decide) ?_
      exact r_zreturn (pc := 14) d_Md_isTray_14 (v := 1) rfl (by decide) rfl (Nat.le_refl _) ⟨rfl, _, rfl, h⟩
set_option maxRecDepth 4000 in
theorem e_Md_is {l : Launch} {d : Nat} {sh : aw_SH} {S : aw_S} {P : Int32 → aw_S → Prop} {a : Nat} {p0 : Int32} (sa : sh[a]? = some (0, 11)) (h : ((¬ p0 = 0 → P 0 (aw_uI S a 2 p0)) ∧ (p0 = 0 → P 1 (aw_uI S a 2 p0)))) : Sp l m_Md_is (d + 1) 0 0 [.ref a, .int p0] sh S (gI sh P) := by
  refine Sp.of k_Md_is (ls := [.ref a, .int p0]) rfl (Nat.le_of_ble_eq_true rfl) ?_
  refine r_aload_n (pc := 0) d_Md_is_0 (x := a) rfl ?_
  refine r_iload_n (pc := 1) d_Md_is_1 (x := p0) rfl ?_
  refine r_putI (pc := 2) d_Md_is_2 f_Md_112 sa rfl ?_
  refine r_iload_n (pc := 5) d_Md_is_5 (x := p0) rfl ?_
  refine r_if_ne (pc := 6) d_Md_is_6 (tgt := 13) (by decide) (fun c1 => ?_) (fun c1 => ?_)
  · replace h := h.1 c1
    refine r_iconst (pc := 13) d_Md_is_13 (v := 0) (by decide) ?_
    exact r_zreturn (pc := 14) d_Md_is_14 (v := 0) rfl (by decide) rfl (Nat.le_refl _) ⟨rfl, _, rfl, h⟩
  · replace h := h.2 c1
    refine r_iconst (pc := 9) d_Md_is_9 (v := 1) (by decide) ?_
    refine r_goto (pc := 10) d_Md_is_10 (tgt := 14) (by decide) ?_
    exact r_zreturn (pc := 14) d_Md_is_14 (v := 1) rfl (by decide) rfl (Nat.le_refl _) ⟨rfl, _, rfl, h⟩
set_option maxRecDepth 4000 in
theorem e_Md_write {l : Launch} {d : Nat} {sh : aw_SH} {S : aw_S} {P : Int32 → aw_S → Prop} {a : Nat} {p0 : Int32} {p1 : Int32} {p2 : Int64} (sa : sh[a]? = some (0, 11)) (h : Sp l m_Md_wrongPlace d 0 0 [.ref a, .int p0, .int p1] sh S (gI sh (fun x2 S1 => ((¬ x2 = 0 → Sp l m_Md_is d 0 0 [.ref a, .int x2] sh S1 (gI sh (fun x5 S4 => ((x5 = 0 ∨ x5 = 1) ∧ P x5 S4)))) ∧ (x2 = 0 → ∃ r7, S1.2.2 a 7 = some r7 ∧ ∃ r8, S1.2.2 a 5 = some r8 ∧ ∃ n10, sh[r8]? = some (3, n10) ∧ vp_in p0 n10 ∧ Sp l m_Md_cut d 0 0 [.long p2, .int (S1.1 r8 p0.toNatClampNeg)] sh S1 (gL sh (fun x13 S12 => ∃ n15, sh[r7]? = some (4, n15) ∧ vp_in (((60 : Int32) * p0) + p1) n15 ∧ Sp l m_Md_is d 0 0 [.ref a, .int x2] sh (aw_uL S12 r7 ((((60 : Int32) * p0) + p1 : Int32).toNatClampNeg) x13) (gI sh (fun x18 S17 => ((x18 = 0 ∨ x18 = 1) ∧ P x18 S17)))))))))) : Sp l m_Md_write (d + 1) 0 0 [.ref a, .int p0, .int p1, .long p2] sh S (gI sh P) := by
  refine Sp.of k_Md_write (ls := [.ref a, .int p0, .int p1, .long p2, .null, .null]) rfl (Nat.le_of_ble_eq_true rfl) ?_
  refine r_aload_n (pc := 0) d_Md_write_0 (x := a) rfl ?_
  refine r_iload_n (pc := 1) d_Md_write_1 (x := p0) rfl ?_
  refine r_iload_n (pc := 2) d_Md_write_2 (x := p1) rfl ?_
  refine r_callV (pc := 3) (k := a) (As := [.int p0, .int p1]) (rest := []) (mc' := 0) (ms' := 0) lk_Md_132 in_Md_wrongPlace se_Md_wrongPlace sa rfl d_Md_write_3 k_Md_wrongPlace rfl rfl (Nat.le_of_ble_eq_true rfl) (by decide) (by decide) (Sp.mono h ?_)
  rintro rS1 shS1 S1 ⟨qS1, x2, uS1, h⟩
  subst uS1
  rw [qS1]
  refine r_istore (pc := 6) (hd := d_Md_write_6) (hi := by decide) (ls2 := [.ref a, .int p0, .int p1, .long p2, .null, .int x2]) (h2 := rfl) ?_
  refine r_iload (pc := 8) d_Md_write_8 (x := x2) rfl ?_
  refine r_if_ne (pc := 10) d_Md_write_10 (tgt := 34) (by decide) (fun c3 => ?_) (fun c3 => ?_)
  · replace h := h.1 c3
    refine r_aload_n (pc := 34) d_Md_write_34 (x := a) rfl ?_
    refine r_iload (pc := 35) d_Md_write_35 (x := x2) rfl ?_
    refine r_callV (pc := 37) (k := a) (As := [.int x2]) (rest := []) (mc' := 0) (ms' := 0) lk_Md_125 in_Md_is se_Md_is sa rfl d_Md_write_37 k_Md_is rfl rfl (Nat.le_of_ble_eq_true rfl) (by decide) (by decide) (Sp.mono h ?_)
    rintro rS4 shS4 S4 ⟨qS4, x5, uS4, h⟩
    subst uS4
    rw [qS4]
    obtain ⟨g6, h⟩ := h
    exact r_zreturn (pc := 40) d_Md_write_40 rfl (aw_nb g6) rfl (Nat.le_refl _) ⟨rfl, _, rfl, h⟩
  · replace h := h.2 c3
    refine r_aload_n (pc := 13) d_Md_write_13 (x := a) rfl ?_
    obtain ⟨r7, er7, h⟩ := h
    refine r_getR (pc := 14) d_Md_write_14 f_Md_27 sa (Or.inr ⟨_, rfl⟩) (r := r7) er7 ?_
    refine r_bipush (pc := 17) d_Md_write_17 (v := 60) (by decide) ?_
    refine r_iload_n (pc := 19) d_Md_write_19 (x := p0) rfl ?_
    refine r_imul (pc := 20) d_Md_write_20 ?_
    refine r_iload_n (pc := 21) d_Md_write_21 (x := p1) rfl ?_
    refine r_iadd (pc := 22) d_Md_write_22 ?_
    refine r_lload_n (pc := 23) d_Md_write_23 (x := p2) rfl ?_
    refine r_aload_n (pc := 24) d_Md_write_24 (x := a) rfl ?_
    obtain ⟨r8, er8, h⟩ := h
    refine r_getR (pc := 25) d_Md_write_25 f_Md_21 sa (Or.inr ⟨_, rfl⟩) (r := r8) er8 ?_
    refine r_iload_n (pc := 28) d_Md_write_28 (x := p0) rfl ?_
    obtain ⟨n10, s9, h⟩ := h
    obtain ⟨g11, h⟩ := h
    refine r_iald (pc := 29) d_Md_write_29 s9 g11 ?_
    refine r_callS (pc := 30) (k := 0) (As := [.long p2, .int (S1.1 r8 p0.toNatClampNeg)]) (rest := [.int (((60 : Int32) * p0) + p1), .ref r7]) (mc' := 0) (ms' := 0) lk_Md_136 st_Md_cut d_Md_write_30 k_Md_cut rfl rfl (Nat.le_of_ble_eq_true rfl) (by decide) (by decide) (Sp.mono h ?_)
    rintro rS12 shS12 S12 ⟨qS12, x13, uS12, h⟩
    subst uS12
    rw [qS12]
    obtain ⟨n15, s14, h⟩ := h
    obtain ⟨g16, h⟩ := h
    refine r_last (pc := 33) d_Md_write_33 s14 g16 ?_
    refine r_aload_n (pc := 34) d_Md_write_34 (x := a) rfl ?_
    refine r_iload (pc := 35) d_Md_write_35 (x := x2) rfl ?_
    refine r_callV (pc := 37) (k := a) (As := [.int x2]) (rest := []) (mc' := 0) (ms' := 0) lk_Md_125 in_Md_is se_Md_is sa rfl d_Md_write_37 k_Md_is rfl rfl (Nat.le_of_ble_eq_true rfl) (by decide) (by decide) (Sp.mono h ?_)
    rintro rS17 shS17 S17 ⟨qS17, x18, uS17, h⟩
    subst uS17
    rw [qS17]
    obtain ⟨g19, h⟩ := h
    exact r_zreturn (pc := 40) d_Md_write_40 rfl (aw_nb g19) rfl (Nat.le_refl _) ⟨rfl, _, rfl, h⟩
set_option maxRecDepth 4000 in
theorem e_Md_wrongPlace {l : Launch} {d : Nat} {sh : aw_SH} {S : aw_S} {P : Int32 → aw_S → Prop} {a : Nat} {p0 : Int32} {p1 : Int32} (sa : sh[a]? = some (0, 11)) (h : Sp l m_Md_isTray d 0 0 [.int p0] sh S (gI sh (fun x2 S1 => ((¬ x2 = 0 → ∃ r4, S1.2.2 a 6 = some r4 ∧ ∃ n6, sh[r4]? = some (3, n6) ∧ vp_in p0 n6 ∧ ((¬ (S1.1 r4 p0.toNatClampNeg) = (-1) → ((p1 < 0 → P 3 S1) ∧ (¬ p1 < 0 → vp_in p0 n6 ∧ ((p1 < (S1.1 r4 p0.toNatClampNeg) → P 0 S1) ∧ (¬ p1 < (S1.1 r4 p0.toNatClampNeg) → P 3 S1))))) ∧ ((S1.1 r4 p0.toNatClampNeg) = (-1) → P 2 S1))) ∧ (x2 = 0 → P 1 S1))))) : Sp l m_Md_wrongPlace (d + 1) 0 0 [.ref a, .int p0, .int p1] sh S (gI sh P) := by
  refine Sp.of k_Md_wrongPlace (ls := [.ref a, .int p0, .int p1]) rfl (Nat.le_of_ble_eq_true rfl) ?_
  refine r_iload_n (pc := 0) d_Md_wrongPlace_0 (x := p0) rfl ?_
  refine r_callS (pc := 1) (k := 0) (As := [.int p0]) (rest := []) (mc' := 0) (ms' := 0) lk_Md_129 st_Md_isTray d_Md_wrongPlace_1 k_Md_isTray rfl rfl (Nat.le_of_ble_eq_true rfl) (by decide) (by decide) (Sp.mono h ?_)
  rintro rS1 shS1 S1 ⟨qS1, x2, uS1, h⟩
  subst uS1
  rw [qS1]
  refine r_if_ne (pc := 4) d_Md_wrongPlace_4 (tgt := 11) (by decide) (fun c3 => ?_) (fun c3 => ?_)
  · replace h := h.1 c3
    refine r_aload_n (pc := 11) d_Md_wrongPlace_11 (x := a) rfl ?_
    obtain ⟨r4, er4, h⟩ := h
    refine r_getR (pc := 12) d_Md_wrongPlace_12 f_Md_24 sa (Or.inr ⟨_, rfl⟩) (r := r4) er4 ?_
    refine r_iload_n (pc := 15) d_Md_wrongPlace_15 (x := p0) rfl ?_
    obtain ⟨n6, s5, h⟩ := h
    obtain ⟨g7, h⟩ := h
    refine r_iald (pc := 16) d_Md_wrongPlace_16 s5 g7 ?_
    refine r_iconst (pc := 17) d_Md_wrongPlace_17 (v := (-1)) (by decide) ?_
    refine r_icmp_ne (pc := 18) d_Md_wrongPlace_18 (tgt := 25) (by decide) (fun c8 => ?_) (fun c8 => ?_)
    · replace h := h.1 c8
      refine r_iload_n (pc := 25) d_Md_wrongPlace_25 (x := p1) rfl ?_
      refine r_if_lt (pc := 26) d_Md_wrongPlace_26 (tgt := 39) (by decide) (fun c9 => ?_) (fun c9 => ?_)
      · replace h := h.1 c9
        refine r_iconst (pc := 39) d_Md_wrongPlace_39 (v := 3) (by decide) ?_
        refine r_goto (pc := 40) d_Md_wrongPlace_40 (tgt := 44) (by decide) ?_
        exact r_ireturn (pc := 44) d_Md_wrongPlace_44 rfl rfl (Nat.le_refl _) ⟨rfl, _, rfl, h⟩
      · replace h := h.2 c9
        refine r_iload_n (pc := 29) d_Md_wrongPlace_29 (x := p1) rfl ?_
        refine r_aload_n (pc := 30) d_Md_wrongPlace_30 (x := a) rfl ?_
        refine r_getR (pc := 31) d_Md_wrongPlace_31 f_Md_24 sa (Or.inr ⟨_, rfl⟩) (r := r4) er4 ?_
        refine r_iload_n (pc := 34) d_Md_wrongPlace_34 (x := p0) rfl ?_
        obtain ⟨g10, h⟩ := h
        refine r_iald (pc := 35) d_Md_wrongPlace_35 s5 g10 ?_
        refine r_icmp_lt (pc := 36) d_Md_wrongPlace_36 (tgt := 43) (by decide) (fun c11 => ?_) (fun c11 => ?_)
        · replace h := h.1 c11
          refine r_iconst (pc := 43) d_Md_wrongPlace_43 (v := 0) (by decide) ?_
          exact r_ireturn (pc := 44) d_Md_wrongPlace_44 rfl rfl (Nat.le_refl _) ⟨rfl, _, rfl, h⟩
        · replace h := h.2 c11
          refine r_iconst (pc := 39) d_Md_wrongPlace_39 (v := 3) (by decide) ?_
          refine r_goto (pc := 40) d_Md_wrongPlace_40 (tgt := 44) (by decide) ?_
          exact r_ireturn (pc := 44) d_Md_wrongPlace_44 rfl rfl (Nat.le_refl _) ⟨rfl, _, rfl, h⟩
    · replace h := h.2 c8
      refine r_iconst (pc := 21) d_Md_wrongPlace_21 (v := 2) (by decide) ?_
      refine r_goto (pc := 22) d_Md_wrongPlace_22 (tgt := 44) (by decide) ?_
      exact r_ireturn (pc := 44) d_Md_wrongPlace_44 rfl rfl (Nat.le_refl _) ⟨rfl, _, rfl, h⟩
  · replace h := h.2 c3
    refine r_iconst (pc := 7) d_Md_wrongPlace_7 (v := 1) (by decide) ?_
    refine r_goto (pc := 8) d_Md_wrongPlace_8 (tgt := 44) (by decide) ?_
    exact r_ireturn (pc := 44) d_Md_wrongPlace_44 rfl rfl (Nat.le_refl _) ⟨rfl, _, rfl, h⟩
set_option maxRecDepth 4000 in
theorem e_Md_cut {l : Launch} {d : Nat} {sh : aw_SH} {S : aw_S} {P : Int64 → aw_S → Prop} {p0 : Int64} {p1 : Int32} (h : ((¬ p1 = 0 → ((¬ p1 = 1 → ((¬ p1 = 2 → P p0 S) ∧ (p1 = 2 → P p0.toInt32.toInt64 S))) ∧ (p1 = 1 → P p0.toInt32.toInt16.toInt32.toInt64 S))) ∧ (p1 = 0 → P p0.toInt32.toInt8.toInt32.toInt64 S))) : Sp l m_Md_cut (d + 1) 0 0 [.long p0, .int p1] sh S (gL sh P) := by
  refine Sp.of k_Md_cut (ls := [.long p0, .null, .int p1]) rfl (Nat.le_of_ble_eq_true rfl) ?_
  refine r_iload_n (pc := 0) d_Md_cut_0 (x := p1) rfl ?_
  refine r_if_ne (pc := 1) d_Md_cut_1 (tgt := 11) (by decide) (fun c1 => ?_) (fun c1 => ?_)
  · replace h := h.1 c1
    refine r_iload_n (pc := 11) d_Md_cut_11 (x := p1) rfl ?_
    refine r_iconst (pc := 12) d_Md_cut_12 (v := 1) (by decide) ?_
    refine r_icmp_ne (pc := 13) d_Md_cut_13 (tgt := 23) (by decide) (fun c2 => ?_) (fun c2 => ?_)
    · replace h := h.1 c2
      refine r_iload_n (pc := 23) d_Md_cut_23 (x := p1) rfl ?_
      refine r_iconst (pc := 24) d_Md_cut_24 (v := 2) (by decide) ?_
      refine r_icmp_ne (pc := 25) d_Md_cut_25 (tgt := 34) (by decide) (fun c3 => ?_) (fun c3 => ?_)
      · replace h := h.1 c3
        refine r_lload_n (pc := 34) d_Md_cut_34 (x := p0) rfl ?_
        exact r_lreturn (pc := 35) d_Md_cut_35 rfl rfl (Nat.le_refl _) ⟨rfl, _, rfl, h⟩
      · replace h := h.2 c3
        refine r_lload_n (pc := 28) d_Md_cut_28 (x := p0) rfl ?_
        refine r_l2i (pc := 29) d_Md_cut_29 ?_
        refine r_i2l (pc := 30) d_Md_cut_30 ?_
        refine r_goto (pc := 31) d_Md_cut_31 (tgt := 35) (by decide) ?_
        exact r_lreturn (pc := 35) d_Md_cut_35 rfl rfl (Nat.le_refl _) ⟨rfl, _, rfl, h⟩
    · replace h := h.2 c2
      refine r_lload_n (pc := 16) d_Md_cut_16 (x := p0) rfl ?_
      refine r_l2i (pc := 17) d_Md_cut_17 ?_
      refine r_i2s (pc := 18) d_Md_cut_18 ?_
      refine r_i2l (pc := 19) d_Md_cut_19 ?_
      refine r_goto (pc := 20) d_Md_cut_20 (tgt := 35) (by decide) ?_
      exact r_lreturn (pc := 35) d_Md_cut_35 rfl rfl (Nat.le_refl _) ⟨rfl, _, rfl, h⟩
  · replace h := h.2 c1
    refine r_lload_n (pc := 4) d_Md_cut_4 (x := p0) rfl ?_
    refine r_l2i (pc := 5) d_Md_cut_5 ?_
    refine r_i2b (pc := 6) d_Md_cut_6 ?_
    refine r_i2l (pc := 7) d_Md_cut_7 ?_
    refine r_goto (pc := 8) d_Md_cut_8 (tgt := 35) (by decide) ?_
    exact r_lreturn (pc := 35) d_Md_cut_35 rfl rfl (Nat.le_refl _) ⟨rfl, _, rfl, h⟩
set_option maxRecDepth 4000 in
theorem e_Md_read {l : Launch} {d : Nat} {sh : aw_SH} {S : aw_S} {P : Int64 → aw_S → Prop} {a : Nat} {p0 : Int32} {p1 : Int32} (sa : sh[a]? = some (0, 11)) (h : Sp l m_Md_wrongPlace d 0 0 [.ref a, .int p0, .int p1] sh S (gI sh (fun x2 S1 => ((((aw_uI S1 a 2 x2).1 a 2) ≤ 0 → ∃ r4, (aw_uI S1 a 2 x2).2.2 a 7 = some r4 ∧ ∃ n6, sh[r4]? = some (4, n6) ∧ vp_in (((60 : Int32) * p0) + p1) n6 ∧ P ((aw_uI S1 a 2 x2).2.1 r4 (((60 : Int32) * p0) + p1 : Int32).toNatClampNeg) (aw_uI S1 a 2 x2)) ∧ (¬ ((aw_uI S1 a 2 x2).1 a 2) ≤ 0 → P (-1) (aw_uI S1 a 2 x2)))))) : Sp l m_Md_read (d + 1) 0 0 [.ref a, .int p0, .int p1] sh S (gL sh P) := by
  refine Sp.of k_Md_read (ls := [.ref a, .int p0, .int p1]) rfl (Nat.le_of_ble_eq_true rfl) ?_
  refine r_aload_n (pc := 0) d_Md_read_0 (x := a) rfl ?_
  refine r_aload_n (pc := 1) d_Md_read_1 (x := a) rfl ?_
  refine r_iload_n (pc := 2) d_Md_read_2 (x := p0) rfl ?_
  refine r_iload_n (pc := 3) d_Md_read_3 (x := p1) rfl ?_
  refine r_callV (pc := 4) (k := a) (As := [.int p0, .int p1]) (rest := [.ref a]) (mc' := 0) (ms' := 0) lk_Md_132 in_Md_wrongPlace se_Md_wrongPlace sa rfl d_Md_read_4 k_Md_wrongPlace rfl rfl (Nat.le_of_ble_eq_true rfl) (by decide) (by decide) (Sp.mono h ?_)
  rintro rS1 shS1 S1 ⟨qS1, x2, uS1, h⟩
  subst uS1
  rw [qS1]
  refine r_putI (pc := 7) d_Md_read_7 f_Md_112 sa rfl ?_
  refine r_aload_n (pc := 10) d_Md_read_10 (x := a) rfl ?_
  refine r_getI (pc := 11) d_Md_read_11 f_Md_112 sa rfl ?_
  refine r_if_le (pc := 14) d_Md_read_14 (tgt := 23) (by decide) (fun c3 => ?_) (fun c3 => ?_)
  · replace h := h.1 c3
    refine r_aload_n (pc := 23) d_Md_read_23 (x := a) rfl ?_
    obtain ⟨r4, er4, h⟩ := h
    refine r_getR (pc := 24) d_Md_read_24 f_Md_27 sa (Or.inr ⟨_, rfl⟩) (r := r4) er4 ?_
    refine r_bipush (pc := 27) d_Md_read_27 (v := 60) (by decide) ?_
    refine r_iload_n (pc := 29) d_Md_read_29 (x := p0) rfl ?_
    refine r_imul (pc := 30) d_Md_read_30 ?_
    refine r_iload_n (pc := 31) d_Md_read_31 (x := p1) rfl ?_
    refine r_iadd (pc := 32) d_Md_read_32 ?_
    obtain ⟨n6, s5, h⟩ := h
    obtain ⟨g7, h⟩ := h
    refine r_lald (pc := 33) d_Md_read_33 s5 g7 ?_
    exact r_lreturn (pc := 34) d_Md_read_34 rfl rfl (Nat.le_refl _) ⟨rfl, _, rfl, h⟩
  · replace h := h.2 c3
    refine r_ldc2 (pc := 17) d_Md_read_17 cl_Md_140 ?_
    refine r_goto (pc := 20) d_Md_read_20 (tgt := 34) (by decide) ?_
    exact r_lreturn (pc := 34) d_Md_read_34 rfl rfl (Nat.le_refl _) ⟨rfl, _, rfl, h⟩
set_option maxRecDepth 4000 in
theorem e_Md_pour {l : Launch} {d : Nat} {sh : aw_SH} {S : aw_S} {P : Int32 → aw_S → Prop} {a : Nat} {p0 : Int32} {p1 : Int32} {p2 : Int32} {p3 : Int32} {p4 : Int32} (sa : sh[a]? = some (0, 11)) (h : Sp l m_Md_isTray d 0 0 [.int p0] sh S (gI sh (fun x2 S1 => ((x2 = 0 → Sp l m_Md_is d 0 0 [.ref a, .int 1] sh S1 (gI sh (fun x5 S4 => ((x5 = 0 ∨ x5 = 1) ∧ P x5 S4)))) ∧ (¬ x2 = 0 → Sp l m_Md_isTray d 0 0 [.int p2] sh S1 (gI sh (fun x8 S7 => ((x8 = 0 → Sp l m_Md_is d 0 0 [.ref a, .int 1] sh S7 (gI sh (fun x11 S10 => ((x11 = 0 ∨ x11 = 1) ∧ P x11 S10)))) ∧ (¬ x8 = 0 → ((p1 < 0 → Sp l m_Md_is d 0 0 [.ref a, .int 1] sh S7 (gI sh (fun x15 S14 => ((x15 = 0 ∨ x15 = 1) ∧ P x15 S14)))) ∧ (¬ p1 < 0 → ((p3 < 0 → Sp l m_Md_is d 0 0 [.ref a, .int 1] sh S7 (gI sh (fun x19 S18 => ((x19 = 0 ∨ x19 = 1) ∧ P x19 S18)))) ∧ (¬ p3 < 0 → ((0 ≤ p4 → ∃ r22, S7.2.2 a 6 = some r22 ∧ ∃ n24, sh[r22]? = some (3, n24) ∧ vp_in p0 n24 ∧ (((S7.1 r22 p0.toNatClampNeg) = (-1) → Sp l m_Md_is d 0 0 [.ref a, .int 2] sh S7 (gI sh (fun x28 S27 => ((x28 = 0 ∨ x28 = 1) ∧ P x28 S27)))) ∧ (¬ (S7.1 r22 p0.toNatClampNeg) = (-1) → vp_in p2 n24 ∧ ((¬ (S7.1 r22 p2.toNatClampNeg) = (-1) → ∃ r32, S7.2.2 a 5 = some r32 ∧ ∃ n34, sh[r32]? = some (3, n34) ∧ vp_in p0 n34 ∧ vp_in p2 n34 ∧ (((S7.1 r32 p0.toNatClampNeg) = (S7.1 r32 p2.toNatClampNeg) → vp_in p0 n24 ∧ ((((S7.1 r22 p0.toNatClampNeg) - p1) < p4 → Sp l m_Md_is d 0 0 [.ref a, .int 3] sh S7 (gI sh (fun x41 S40 => ((x41 = 0 ∨ x41 = 1) ∧ P x41 S40)))) ∧ (¬ ((S7.1 r22 p0.toNatClampNeg) - p1) < p4 → vp_in p2 n24 ∧ ((p4 ≤ ((S7.1 r22 p2.toNatClampNeg) - p3) → AW l m_Md_pour (d + 1) 0 0 (gI sh P) 0 0 118 [.ref a, .int p0, .int p1, .int p2, .int p3, .int p4, .int 0, .null] [] sh S7) ∧ (¬ p4 ≤ ((S7.1 r22 p2.toNatClampNeg) - p3) → Sp l m_Md_is d 0 0 [.ref a, .int 3] sh S7 (gI sh (fun x46 S45 => ((x46 = 0 ∨ x46 = 1) ∧ P x46 S45)))))))) ∧ (¬ (S7.1 r32 p0.toNatClampNeg) = (S7.1 r32 p2.toNatClampNeg) → Sp l m_Md_is d 0 0 [.ref a, .int 8] sh S7 (gI sh (fun x49 S48 => ((x49 = 0 ∨ x49 = 1) ∧ P x49 S48)))))) ∧ ((S7.1 r22 p2.toNatClampNeg) = (-1) → Sp l m_Md_is d 0 0 [.ref a, .int 2] sh S7 (gI sh (fun x52 S51 => ((x52 = 0 ∨ x52 = 1) ∧ P x52 S51)))))))) ∧ (¬ 0 ≤ p4 → Sp l m_Md_is d 0 0 [.ref a, .int 1] sh S7 (gI sh (fun x55 S54 => ((x55 = 0 ∨ x55 = 1) ∧ P x55 S54)))))))))))))))))) : Sp l m_Md_pour (d + 1) 0 0 [.ref a, .int p0, .int p1, .int p2, .int p3, .int p4] sh S (gI sh P) := by
  refine Sp.of k_Md_pour (ls := [.ref a, .int p0, .int p1, .int p2, .int p3, .int p4, .null, .null]) rfl (Nat.le_of_ble_eq_true rfl) ?_
  refine r_iload_n (pc := 0) d_Md_pour_0 (x := p0) rfl ?_
  refine r_callS (pc := 1) (k := 0) (As := [.int p0]) (rest := []) (mc' := 0) (ms' := 0) lk_Md_129 st_Md_isTray d_Md_pour_1 k_Md_isTray rfl rfl (Nat.le_of_ble_eq_true rfl) (by decide) (by decide) (Sp.mono h ?_)
  rintro rS1 shS1 S1 ⟨qS1, x2, uS1, h⟩
  subst uS1
  rw [qS1]
  refine r_if_eq (pc := 4) d_Md_pour_4 (tgt := 28) (by decide) (fun c3 => ?_) (fun c3 => ?_)
  · replace h := h.1 c3
    refine r_aload_n (pc := 28) d_Md_pour_28 (x := a) rfl ?_
    refine r_iconst (pc := 29) d_Md_pour_29 (v := 1) (by decide) ?_
    refine r_callV (pc := 30) (k := a) (As := [.int 1]) (rest := []) (mc' := 0) (ms' := 0) lk_Md_125 in_Md_is se_Md_is sa rfl d_Md_pour_30 k_Md_is rfl rfl (Nat.le_of_ble_eq_true rfl) (by decide) (by decide) (Sp.mono h ?_)
    rintro rS4 shS4 S4 ⟨qS4, x5, uS4, h⟩
    subst uS4
    rw [qS4]
    obtain ⟨g6, h⟩ := h
    exact r_zreturn (pc := 33) d_Md_pour_33 rfl (aw_nb g6) rfl (Nat.le_refl _) ⟨rfl, _, rfl, h⟩
  · replace h := h.2 c3
    refine r_iload_n (pc := 7) d_Md_pour_7 (x := p2) rfl ?_
    refine r_callS (pc := 8) (k := 0) (As := [.int p2]) (rest := []) (mc' := 0) (ms' := 0) lk_Md_129 st_Md_isTray d_Md_pour_8 k_Md_isTray rfl rfl (Nat.le_of_ble_eq_true rfl) (by decide) (by decide) (Sp.mono h ?_)
    rintro rS7 shS7 S7 ⟨qS7, x8, uS7, h⟩
    subst uS7
    rw [qS7]
    refine r_if_eq (pc := 11) d_Md_pour_11 (tgt := 28) (by decide) (fun c9 => ?_) (fun c9 => ?_)
    · replace h := h.1 c9
      refine r_aload_n (pc := 28) d_Md_pour_28 (x := a) rfl ?_
      refine r_iconst (pc := 29) d_Md_pour_29 (v := 1) (by decide) ?_
      refine r_callV (pc := 30) (k := a) (As := [.int 1]) (rest := []) (mc' := 0) (ms' := 0) lk_Md_125 in_Md_is se_Md_is sa rfl d_Md_pour_30 k_Md_is rfl rfl (Nat.le_of_ble_eq_true rfl) (by decide) (by decide) (Sp.mono h ?_)
      rintro rS10 shS10 S10 ⟨qS10, x11, uS10, h⟩
      subst uS10
      rw [qS10]
      obtain ⟨g12, h⟩ := h
      exact r_zreturn (pc := 33) d_Md_pour_33 rfl (aw_nb g12) rfl (Nat.le_refl _) ⟨rfl, _, rfl, h⟩
    · replace h := h.2 c9
      refine r_iload_n (pc := 14) d_Md_pour_14 (x := p1) rfl ?_
      refine r_if_lt (pc := 15) d_Md_pour_15 (tgt := 28) (by decide) (fun c13 => ?_) (fun c13 => ?_)
      · replace h := h.1 c13
        refine r_aload_n (pc := 28) d_Md_pour_28 (x := a) rfl ?_
        refine r_iconst (pc := 29) d_Md_pour_29 (v := 1) (by decide) ?_
        refine r_callV (pc := 30) (k := a) (As := [.int 1]) (rest := []) (mc' := 0) (ms' := 0) lk_Md_125 in_Md_is se_Md_is sa rfl d_Md_pour_30 k_Md_is rfl rfl (Nat.le_of_ble_eq_true rfl) (by decide) (by decide) (Sp.mono h ?_)
        rintro rS14 shS14 S14 ⟨qS14, x15, uS14, h⟩
        subst uS14
        rw [qS14]
        obtain ⟨g16, h⟩ := h
        exact r_zreturn (pc := 33) d_Md_pour_33 rfl (aw_nb g16) rfl (Nat.le_refl _) ⟨rfl, _, rfl, h⟩
      · replace h := h.2 c13
        refine r_iload (pc := 18) d_Md_pour_18 (x := p3) rfl ?_
        refine r_if_lt (pc := 20) d_Md_pour_20 (tgt := 28) (by decide) (fun c17 => ?_) (fun c17 => ?_)
        · replace h := h.1 c17
          refine r_aload_n (pc := 28) d_Md_pour_28 (x := a) rfl ?_
          refine r_iconst (pc := 29) d_Md_pour_29 (v := 1) (by decide) ?_
          refine r_callV (pc := 30) (k := a) (As := [.int 1]) (rest := []) (mc' := 0) (ms' := 0) lk_Md_125 in_Md_is se_Md_is sa rfl d_Md_pour_30 k_Md_is rfl rfl (Nat.le_of_ble_eq_true rfl) (by decide) (by decide) (Sp.mono h ?_)
          rintro rS18 shS18 S18 ⟨qS18, x19, uS18, h⟩
          subst uS18
          rw [qS18]
          obtain ⟨g20, h⟩ := h
          exact r_zreturn (pc := 33) d_Md_pour_33 rfl (aw_nb g20) rfl (Nat.le_refl _) ⟨rfl, _, rfl, h⟩
        · replace h := h.2 c17
          refine r_iload (pc := 23) d_Md_pour_23 (x := p4) rfl ?_
          refine r_if_ge (pc := 25) d_Md_pour_25 (tgt := 34) (by decide) (fun c21 => ?_) (fun c21 => ?_)
          · replace h := h.1 c21
            refine r_aload_n (pc := 34) d_Md_pour_34 (x := a) rfl ?_
            obtain ⟨r22, er22, h⟩ := h
            refine r_getR (pc := 35) d_Md_pour_35 f_Md_24 sa (Or.inr ⟨_, rfl⟩) (r := r22) er22 ?_
            refine r_iload_n (pc := 38) d_Md_pour_38 (x := p0) rfl ?_
            obtain ⟨n24, s23, h⟩ := h
            obtain ⟨g25, h⟩ := h
            refine r_iald (pc := 39) d_Md_pour_39 s23 g25 ?_
            refine r_iconst (pc := 40) d_Md_pour_40 (v := (-1)) (by decide) ?_
            refine r_icmp_eq (pc := 41) d_Md_pour_41 (tgt := 54) (by decide) (fun c26 => ?_) (fun c26 => ?_)
            · replace h := h.1 c26
              refine r_aload_n (pc := 54) d_Md_pour_54 (x := a) rfl ?_
              refine r_iconst (pc := 55) d_Md_pour_55 (v := 2) (by decide) ?_
              refine r_callV (pc := 56) (k := a) (As := [.int 2]) (rest := []) (mc' := 0) (ms' := 0) lk_Md_125 in_Md_is se_Md_is sa rfl d_Md_pour_56 k_Md_is rfl rfl (Nat.le_of_ble_eq_true rfl) (by decide) (by decide) (Sp.mono h ?_)
              rintro rS27 shS27 S27 ⟨qS27, x28, uS27, h⟩
              subst uS27
              rw [qS27]
              obtain ⟨g29, h⟩ := h
              exact r_zreturn (pc := 59) d_Md_pour_59 rfl (aw_nb g29) rfl (Nat.le_refl _) ⟨rfl, _, rfl, h⟩
            · replace h := h.2 c26
              refine r_aload_n (pc := 44) d_Md_pour_44 (x := a) rfl ?_
              refine r_getR (pc := 45) d_Md_pour_45 f_Md_24 sa (Or.inr ⟨_, rfl⟩) (r := r22) er22 ?_
              refine r_iload_n (pc := 48) d_Md_pour_48 (x := p2) rfl ?_
              obtain ⟨g30, h⟩ := h
              refine r_iald (pc := 49) d_Md_pour_49 s23 g30 ?_
              refine r_iconst (pc := 50) d_Md_pour_50 (v := (-1)) (by decide) ?_
              refine r_icmp_ne (pc := 51) d_Md_pour_51 (tgt := 60) (by decide) (fun c31 => ?_) (fun c31 => ?_)
              · replace h := h.1 c31
                refine r_aload_n (pc := 60) d_Md_pour_60 (x := a) rfl ?_
                obtain ⟨r32, er32, h⟩ := h
                refine r_getR (pc := 61) d_Md_pour_61 f_Md_21 sa (Or.inr ⟨_, rfl⟩) (r := r32) er32 ?_
                refine r_iload_n (pc := 64) d_Md_pour_64 (x := p0) rfl ?_
                obtain ⟨n34, s33, h⟩ := h
                obtain ⟨g35, h⟩ := h
                refine r_iald (pc := 65) d_Md_pour_65 s33 g35 ?_
                refine r_aload_n (pc := 66) d_Md_pour_66 (x := a) rfl ?_
                refine r_getR (pc := 67) d_Md_pour_67 f_Md_21 sa (Or.inr ⟨_, rfl⟩) (r := r32) er32 ?_
                refine r_iload_n (pc := 70) d_Md_pour_70 (x := p2) rfl ?_
                obtain ⟨g36, h⟩ := h
                refine r_iald (pc := 71) d_Md_pour_71 s33 g36 ?_
                refine r_icmp_eq (pc := 72) d_Md_pour_72 (tgt := 82) (by decide) (fun c37 => ?_) (fun c37 => ?_)
                · replace h := h.1 c37
                  refine r_iload (pc := 82) d_Md_pour_82 (x := p4) rfl ?_
                  refine r_aload_n (pc := 84) d_Md_pour_84 (x := a) rfl ?_
                  refine r_getR (pc := 85) d_Md_pour_85 f_Md_24 sa (Or.inr ⟨_, rfl⟩) (r := r22) er22 ?_
                  refine r_iload_n (pc := 88) d_Md_pour_88 (x := p0) rfl ?_
                  obtain ⟨g38, h⟩ := h
                  refine r_iald (pc := 89) d_Md_pour_89 s23 g38 ?_
                  refine r_iload_n (pc := 90) d_Md_pour_90 (x := p1) rfl ?_
                  refine r_isub (pc := 91) d_Md_pour_91 ?_
                  refine r_icmp_gt (pc := 92) d_Md_pour_92 (tgt := 109) (by decide) (fun c39 => ?_) (fun c39 => ?_)
                  · replace h := h.1 c39
                    refine r_aload_n (pc := 109) d_Md_pour_109 (x := a) rfl ?_
                    refine r_iconst (pc := 110) d_Md_pour_110 (v := 3) (by decide) ?_
                    refine r_callV (pc := 111) (k := a) (As := [.int 3]) (rest := []) (mc' := 0) (ms' := 0) lk_Md_125 in_Md_is se_Md_is sa rfl d_Md_pour_111 k_Md_is rfl rfl (Nat.le_of_ble_eq_true rfl) (by decide) (by decide) (Sp.mono h ?_)
                    rintro rS40 shS40 S40 ⟨qS40, x41, uS40, h⟩
                    subst uS40
                    rw [qS40]
                    obtain ⟨g42, h⟩ := h
                    exact r_zreturn (pc := 114) d_Md_pour_114 rfl (aw_nb g42) rfl (Nat.le_refl _) ⟨rfl, _, rfl, h⟩
                  · replace h := h.2 c39
                    refine r_iload (pc := 95) d_Md_pour_95 (x := p4) rfl ?_
                    refine r_aload_n (pc := 97) d_Md_pour_97 (x := a) rfl ?_
                    refine r_getR (pc := 98) d_Md_pour_98 f_Md_24 sa (Or.inr ⟨_, rfl⟩) (r := r22) er22 ?_
                    refine r_iload_n (pc := 101) d_Md_pour_101 (x := p2) rfl ?_
                    obtain ⟨g43, h⟩ := h
                    refine r_iald (pc := 102) d_Md_pour_102 s23 g43 ?_
                    refine r_iload (pc := 103) d_Md_pour_103 (x := p3) rfl ?_
                    refine r_isub (pc := 105) d_Md_pour_105 ?_
                    refine r_icmp_le (pc := 106) d_Md_pour_106 (tgt := 115) (by decide) (fun c44 => ?_) (fun c44 => ?_)
                    · replace h := h.1 c44
                      refine r_iconst (pc := 115) d_Md_pour_115 (v := 0) (by decide) ?_
                      refine r_istore (pc := 116) (hd := d_Md_pour_116) (hi := by decide) (ls2 := [.ref a, .int p0, .int p1, .int p2, .int p3, .int p4, .int 0, .null]) (h2 := rfl) ?_
                      exact h
                    · replace h := h.2 c44
                      refine r_aload_n (pc := 109) d_Md_pour_109 (x := a) rfl ?_
                      refine r_iconst (pc := 110) d_Md_pour_110 (v := 3) (by decide) ?_
                      refine r_callV (pc := 111) (k := a) (As := [.int 3]) (rest := []) (mc' := 0) (ms' := 0) lk_Md_125 in_Md_is se_Md_is sa rfl d_Md_pour_111 k_Md_is rfl rfl (Nat.le_of_ble_eq_true rfl) (by decide) (by decide) (Sp.mono h ?_)
                      rintro rS45 shS45 S45 ⟨qS45, x46, uS45, h⟩
                      subst uS45
                      rw [qS45]
                      obtain ⟨g47, h⟩ := h
                      exact r_zreturn (pc := 114) d_Md_pour_114 rfl (aw_nb g47) rfl (Nat.le_refl _) ⟨rfl, _, rfl, h⟩
                · replace h := h.2 c37
                  refine r_aload_n (pc := 75) d_Md_pour_75 (x := a) rfl ?_
                  refine r_bipush (pc := 76) d_Md_pour_76 (v := 8) (by decide) ?_
                  refine r_callV (pc := 78) (k := a) (As := [.int 8]) (rest := []) (mc' := 0) (ms' := 0) lk_Md_125 in_Md_is se_Md_is sa rfl d_Md_pour_78 k_Md_is rfl rfl (Nat.le_of_ble_eq_true rfl) (by decide) (by decide) (Sp.mono h ?_)
                  rintro rS48 shS48 S48 ⟨qS48, x49, uS48, h⟩
                  subst uS48
                  rw [qS48]
                  obtain ⟨g50, h⟩ := h
                  exact r_zreturn (pc := 81) d_Md_pour_81 rfl (aw_nb g50) rfl (Nat.le_refl _) ⟨rfl, _, rfl, h⟩
              · replace h := h.2 c31
                refine r_aload_n (pc := 54) d_Md_pour_54 (x := a) rfl ?_
                refine r_iconst (pc := 55) d_Md_pour_55 (v := 2) (by decide) ?_
                refine r_callV (pc := 56) (k := a) (As := [.int 2]) (rest := []) (mc' := 0) (ms' := 0) lk_Md_125 in_Md_is se_Md_is sa rfl d_Md_pour_56 k_Md_is rfl rfl (Nat.le_of_ble_eq_true rfl) (by decide) (by decide) (Sp.mono h ?_)
                rintro rS51 shS51 S51 ⟨qS51, x52, uS51, h⟩
                subst uS51
                rw [qS51]
                obtain ⟨g53, h⟩ := h
                exact r_zreturn (pc := 59) d_Md_pour_59 rfl (aw_nb g53) rfl (Nat.le_refl _) ⟨rfl, _, rfl, h⟩
          · replace h := h.2 c21
            refine r_aload_n (pc := 28) d_Md_pour_28 (x := a) rfl ?_
            refine r_iconst (pc := 29) d_Md_pour_29 (v := 1) (by decide) ?_
            refine r_callV (pc := 30) (k := a) (As := [.int 1]) (rest := []) (mc' := 0) (ms' := 0) lk_Md_125 in_Md_is se_Md_is sa rfl d_Md_pour_30 k_Md_is rfl rfl (Nat.le_of_ble_eq_true rfl) (by decide) (by decide) (Sp.mono h ?_)
            rintro rS54 shS54 S54 ⟨qS54, x55, uS54, h⟩
            subst uS54
            rw [qS54]
            obtain ⟨g56, h⟩ := h
            exact r_zreturn (pc := 33) d_Md_pour_33 rfl (aw_nb g56) rfl (Nat.le_refl _) ⟨rfl, _, rfl, h⟩
set_option maxRecDepth 4000 in
theorem s_Md_pour_118 {l : Launch} {d : Nat} {sh : aw_SH} {S : aw_S} {P : Int32 → aw_S → Prop} {a : Nat} {i1 : Int32} {i2 : Int32} {i3 : Int32} {i4 : Int32} {i5 : Int32} {i6 : Int32} (sa : sh[a]? = some (0, 11)) (h : ((i5 ≤ i6 → Sp l m_Md_is d 0 0 [.ref a, .int 0] sh S (gI sh (fun x3 S2 => ((x3 = 0 ∨ x3 = 1) ∧ P x3 S2)))) ∧ (¬ i5 ≤ i6 → ((i4 ≤ i2 → ∃ r6, S.2.2 a 7 = some r6 ∧ ∃ n8, sh[r6]? = some (4, n8) ∧ vp_in ((((60 : Int32) * i1) + i2) + i6) n8 ∧ vp_in ((((60 : Int32) * i3) + i4) + i6) n8 ∧ AW l m_Md_pour (d + 1) 0 0 (gI sh P) 0 0 118 [.ref a, .int i1, .int i2, .int i3, .int i4, .int i5, .int (i6 + 1), .null] [] sh (aw_uL S r6 (((((60 : Int32) * i3) + i4) + i6 : Int32).toNatClampNeg) (S.2.1 r6 ((((60 : Int32) * i1) + i2) + i6 : Int32).toNatClampNeg))) ∧ (¬ i4 ≤ i2 → ∃ r11, S.2.2 a 7 = some r11 ∧ ∃ n13, sh[r11]? = some (4, n13) ∧ vp_in ((((60 : Int32) * i1) + i2) + ((i5 - (1 : Int32)) - i6)) n13 ∧ vp_in ((((60 : Int32) * i3) + i4) + ((i5 - (1 : Int32)) - i6)) n13 ∧ AW l m_Md_pour (d + 1) 0 0 (gI sh P) 0 0 118 [.ref a, .int i1, .int i2, .int i3, .int i4, .int i5, .int (i6 + 1), .null] [] sh (aw_uL S r11 (((((60 : Int32) * i3) + i4) + ((i5 - (1 : Int32)) - i6) : Int32).toNatClampNeg) (S.2.1 r11 ((((60 : Int32) * i1) + i2) + ((i5 - (1 : Int32)) - i6) : Int32).toNatClampNeg))))))) : AW l m_Md_pour (d + 1) 0 0 (gI sh P) 0 0 118 [.ref a, .int i1, .int i2, .int i3, .int i4, .int i5, .int i6, .null] [] sh S := by
  refine r_iload (pc := 118) d_Md_pour_118 (x := i6) rfl ?_
  refine r_iload (pc := 120) d_Md_pour_120 (x := i5) rfl ?_
  refine r_icmp_ge (pc := 122) d_Md_pour_122 (tgt := 180) (by decide) (fun c1 => ?_) (fun c1 => ?_)
  · replace h := h.1 c1
    refine r_aload_n (pc := 180) d_Md_pour_180 (x := a) rfl ?_
    refine r_iconst (pc := 181) d_Md_pour_181 (v := 0) (by decide) ?_
    refine r_callV (pc := 182) (k := a) (As := [.int 0]) (rest := []) (mc' := 0) (ms' := 0) lk_Md_125 in_Md_is se_Md_is sa rfl d_Md_pour_182 k_Md_is rfl rfl (Nat.le_of_ble_eq_true rfl) (by decide) (by decide) (Sp.mono h ?_)
    rintro rS2 shS2 S2 ⟨qS2, x3, uS2, h⟩
    subst uS2
    rw [qS2]
    obtain ⟨g4, h⟩ := h
    exact r_zreturn (pc := 185) d_Md_pour_185 rfl (aw_nb g4) rfl (Nat.le_refl _) ⟨rfl, _, rfl, h⟩
  · replace h := h.2 c1
    refine r_iload_n (pc := 125) d_Md_pour_125 (x := i2) rfl ?_
    refine r_iload (pc := 126) d_Md_pour_126 (x := i4) rfl ?_
    refine r_icmp_ge (pc := 128) d_Md_pour_128 (tgt := 141) (by decide) (fun c5 => ?_) (fun c5 => ?_)
    · replace h := h.1 c5
      refine r_iload (pc := 141) d_Md_pour_141 (x := i6) rfl ?_
      refine r_istore (pc := 143) (hd := d_Md_pour_143) (hi := by decide) (ls2 := [.ref a, .int i1, .int i2, .int i3, .int i4, .int i5, .int i6, .int i6]) (h2 := rfl) ?_
      refine r_aload_n (pc := 145) d_Md_pour_145 (x := a) rfl ?_
      obtain ⟨r6, er6, h⟩ := h
      refine r_getR (pc := 146) d_Md_pour_146 f_Md_27 sa (Or.inr ⟨_, rfl⟩) (r := r6) er6 ?_
      refine r_bipush (pc := 149) d_Md_pour_149 (v := 60) (by decide) ?_
      refine r_iload_n (pc := 151) d_Md_pour_151 (x := i3) rfl ?_
      refine r_imul (pc := 152) d_Md_pour_152 ?_
      refine r_iload (pc := 153) d_Md_pour_153 (x := i4) rfl ?_
      refine r_iadd (pc := 155) d_Md_pour_155 ?_
      refine r_iload (pc := 156) d_Md_pour_156 (x := i6) rfl ?_
      refine r_iadd (pc := 158) d_Md_pour_158 ?_
      refine r_aload_n (pc := 159) d_Md_pour_159 (x := a) rfl ?_
      refine r_getR (pc := 160) d_Md_pour_160 f_Md_27 sa (Or.inr ⟨_, rfl⟩) (r := r6) er6 ?_
      refine r_bipush (pc := 163) d_Md_pour_163 (v := 60) (by decide) ?_
      refine r_iload_n (pc := 165) d_Md_pour_165 (x := i1) rfl ?_
      refine r_imul (pc := 166) d_Md_pour_166 ?_
      refine r_iload_n (pc := 167) d_Md_pour_167 (x := i2) rfl ?_
      refine r_iadd (pc := 168) d_Md_pour_168 ?_
      refine r_iload (pc := 169) d_Md_pour_169 (x := i6) rfl ?_
      refine r_iadd (pc := 171) d_Md_pour_171 ?_
      obtain ⟨n8, s7, h⟩ := h
      obtain ⟨g9, h⟩ := h
      refine r_lald (pc := 172) d_Md_pour_172 s7 g9 ?_
      obtain ⟨g10, h⟩ := h
      refine r_last (pc := 173) d_Md_pour_173 s7 g10 ?_
      refine r_iinc (pc := 174) d_Md_pour_174 (hi := by decide) (x := i6) rfl (v := i6 + 1) rfl (ls2 := [.ref a, .int i1, .int i2, .int i3, .int i4, .int i5, .int (i6 + 1), .int i6]) rfl ?_
      refine r_goto (pc := 177) d_Md_pour_177 (tgt := 118) (by decide) ?_
      exact r_weak (ls2 := [.ref a, .int i1, .int i2, .int i3, .int i4, .int i5, .int (i6 + 1), .null]) ⟨Or.inr rfl, Or.inr rfl, Or.inr rfl, Or.inr rfl, Or.inr rfl, Or.inr rfl, Or.inr rfl, Or.inl rfl, trivial⟩ h
    · replace h := h.2 c5
      refine r_iload (pc := 131) d_Md_pour_131 (x := i5) rfl ?_
      refine r_iconst (pc := 133) d_Md_pour_133 (v := 1) (by decide) ?_
      refine r_isub (pc := 134) d_Md_pour_134 ?_
      refine r_iload (pc := 135) d_Md_pour_135 (x := i6) rfl ?_
      refine r_isub (pc := 137) d_Md_pour_137 ?_
      refine r_goto (pc := 138) d_Md_pour_138 (tgt := 143) (by decide) ?_
      refine r_istore (pc := 143) (hd := d_Md_pour_143) (hi := by decide) (ls2 := [.ref a, .int i1, .int i2, .int i3, .int i4, .int i5, .int i6, .int ((i5 - (1 : Int32)) - i6)]) (h2 := rfl) ?_
      refine r_aload_n (pc := 145) d_Md_pour_145 (x := a) rfl ?_
      obtain ⟨r11, er11, h⟩ := h
      refine r_getR (pc := 146) d_Md_pour_146 f_Md_27 sa (Or.inr ⟨_, rfl⟩) (r := r11) er11 ?_
      refine r_bipush (pc := 149) d_Md_pour_149 (v := 60) (by decide) ?_
      refine r_iload_n (pc := 151) d_Md_pour_151 (x := i3) rfl ?_
      refine r_imul (pc := 152) d_Md_pour_152 ?_
      refine r_iload (pc := 153) d_Md_pour_153 (x := i4) rfl ?_
      refine r_iadd (pc := 155) d_Md_pour_155 ?_
      refine r_iload (pc := 156) d_Md_pour_156 (x := ((i5 - (1 : Int32)) - i6)) rfl ?_
      refine r_iadd (pc := 158) d_Md_pour_158 ?_
      refine r_aload_n (pc := 159) d_Md_pour_159 (x := a) rfl ?_
      refine r_getR (pc := 160) d_Md_pour_160 f_Md_27 sa (Or.inr ⟨_, rfl⟩) (r := r11) er11 ?_
      refine r_bipush (pc := 163) d_Md_pour_163 (v := 60) (by decide) ?_
      refine r_iload_n (pc := 165) d_Md_pour_165 (x := i1) rfl ?_
      refine r_imul (pc := 166) d_Md_pour_166 ?_
      refine r_iload_n (pc := 167) d_Md_pour_167 (x := i2) rfl ?_
      refine r_iadd (pc := 168) d_Md_pour_168 ?_
      refine r_iload (pc := 169) d_Md_pour_169 (x := ((i5 - (1 : Int32)) - i6)) rfl ?_
      refine r_iadd (pc := 171) d_Md_pour_171 ?_
      obtain ⟨n13, s12, h⟩ := h
      obtain ⟨g14, h⟩ := h
      refine r_lald (pc := 172) d_Md_pour_172 s12 g14 ?_
      obtain ⟨g15, h⟩ := h
      refine r_last (pc := 173) d_Md_pour_173 s12 g15 ?_
      refine r_iinc (pc := 174) d_Md_pour_174 (hi := by decide) (x := i6) rfl (v := i6 + 1) rfl (ls2 := [.ref a, .int i1, .int i2, .int i3, .int i4, .int i5, .int (i6 + 1), .int ((i5 - (1 : Int32)) - i6)]) rfl ?_
      refine r_goto (pc := 177) d_Md_pour_177 (tgt := 118) (by decide) ?_
      exact r_weak (ls2 := [.ref a, .int i1, .int i2, .int i3, .int i4, .int i5, .int (i6 + 1), .null]) ⟨Or.inr rfl, Or.inr rfl, Or.inr rfl, Or.inr rfl, Or.inr rfl, Or.inr rfl, Or.inr rfl, Or.inl rfl, trivial⟩ h
set_option maxRecDepth 4000 in
theorem e_Md_feed {l : Launch} {d : Nat} {sh : aw_SH} {S : aw_S} {P : Int32 → aw_S → Prop} {a : Nat} {p0 : Int32} {p1 : Int32} {p2 : Int32} {p3 : Int32} {p4 : Int32} (sa : sh[a]? = some (0, 11)) (h : ((((S.1 a 10) + (20 : Int32)) ≤ 900 → Sp l m_Md_four d 0 0 [.ref a, .int p0] sh S (gV sh (fun S2 => Sp l m_Md_four d 0 0 [.ref a, .int p1] sh S2 (gV sh (fun S3 => Sp l m_Md_four d 0 0 [.ref a, .int p2] sh S3 (gV sh (fun S4 => Sp l m_Md_four d 0 0 [.ref a, .int p3] sh S4 (gV sh (fun S5 => Sp l m_Md_four d 0 0 [.ref a, .int p4] sh S5 (gV sh (fun S6 => P (S6.1 a 10) S6))))))))))) ∧ (¬ ((S.1 a 10) + (20 : Int32)) ≤ 900 → P (-1) S))) : Sp l m_Md_feed (d + 1) 0 0 [.ref a, .int p0, .int p1, .int p2, .int p3, .int p4] sh S (gI sh P) := by
  refine Sp.of k_Md_feed (ls := [.ref a, .int p0, .int p1, .int p2, .int p3, .int p4]) rfl (Nat.le_of_ble_eq_true rfl) ?_
  refine r_aload_n (pc := 0) d_Md_feed_0 (x := a) rfl ?_
  refine r_getI (pc := 1) d_Md_feed_1 f_Md_142 sa rfl ?_
  refine r_bipush (pc := 4) d_Md_feed_4 (v := 20) (by decide) ?_
  refine r_iadd (pc := 6) d_Md_feed_6 ?_
  refine r_sipush (pc := 7) d_Md_feed_7 (v := 900) (by decide) ?_
  refine r_icmp_le (pc := 10) d_Md_feed_10 (tgt := 15) (by decide) (fun c1 => ?_) (fun c1 => ?_)
  · replace h := h.1 c1
    refine r_aload_n (pc := 15) d_Md_feed_15 (x := a) rfl ?_
    refine r_iload_n (pc := 16) d_Md_feed_16 (x := p0) rfl ?_
    refine r_callV (pc := 17) (k := a) (As := [.int p0]) (rest := []) (mc' := 0) (ms' := 0) lk_Md_145 in_Md_four se_Md_four sa rfl d_Md_feed_17 k_Md_four rfl rfl (Nat.le_of_ble_eq_true rfl) (by decide) (by decide) (Sp.mono h ?_)
    rintro rS2 shS2 S2 ⟨qS2, uS2, h⟩
    subst uS2
    rw [qS2]
    refine r_aload_n (pc := 20) d_Md_feed_20 (x := a) rfl ?_
    refine r_iload_n (pc := 21) d_Md_feed_21 (x := p1) rfl ?_
    refine r_callV (pc := 22) (k := a) (As := [.int p1]) (rest := []) (mc' := 0) (ms' := 0) lk_Md_145 in_Md_four se_Md_four sa rfl d_Md_feed_22 k_Md_four rfl rfl (Nat.le_of_ble_eq_true rfl) (by decide) (by decide) (Sp.mono h ?_)
    rintro rS3 shS3 S3 ⟨qS3, uS3, h⟩
    subst uS3
    rw [qS3]
    refine r_aload_n (pc := 25) d_Md_feed_25 (x := a) rfl ?_
    refine r_iload_n (pc := 26) d_Md_feed_26 (x := p2) rfl ?_
    refine r_callV (pc := 27) (k := a) (As := [.int p2]) (rest := []) (mc' := 0) (ms' := 0) lk_Md_145 in_Md_four se_Md_four sa rfl d_Md_feed_27 k_Md_four rfl rfl (Nat.le_of_ble_eq_true rfl) (by decide) (by decide) (Sp.mono h ?_)
    rintro rS4 shS4 S4 ⟨qS4, uS4, h⟩
    subst uS4
    rw [qS4]
    refine r_aload_n (pc := 30) d_Md_feed_30 (x := a) rfl ?_
    refine r_iload (pc := 31) d_Md_feed_31 (x := p3) rfl ?_
    refine r_callV (pc := 33) (k := a) (As := [.int p3]) (rest := []) (mc' := 0) (ms' := 0) lk_Md_145 in_Md_four se_Md_four sa rfl d_Md_feed_33 k_Md_four rfl rfl (Nat.le_of_ble_eq_true rfl) (by decide) (by decide) (Sp.mono h ?_)
    rintro rS5 shS5 S5 ⟨qS5, uS5, h⟩
    subst uS5
    rw [qS5]
    refine r_aload_n (pc := 36) d_Md_feed_36 (x := a) rfl ?_
    refine r_iload (pc := 37) d_Md_feed_37 (x := p4) rfl ?_
    refine r_callV (pc := 39) (k := a) (As := [.int p4]) (rest := []) (mc' := 0) (ms' := 0) lk_Md_145 in_Md_four se_Md_four sa rfl d_Md_feed_39 k_Md_four rfl rfl (Nat.le_of_ble_eq_true rfl) (by decide) (by decide) (Sp.mono h ?_)
    rintro rS6 shS6 S6 ⟨qS6, uS6, h⟩
    subst uS6
    rw [qS6]
    refine r_aload_n (pc := 42) d_Md_feed_42 (x := a) rfl ?_
    refine r_getI (pc := 43) d_Md_feed_43 f_Md_142 sa rfl ?_
    exact r_ireturn (pc := 46) d_Md_feed_46 rfl rfl (Nat.le_refl _) ⟨rfl, _, rfl, h⟩
  · replace h := h.2 c1
    refine r_iconst (pc := 13) d_Md_feed_13 (v := (-1)) (by decide) ?_
    exact r_ireturn (pc := 14) d_Md_feed_14 rfl rfl (Nat.le_refl _) ⟨rfl, _, rfl, h⟩
set_option maxRecDepth 4000 in
theorem e_Md_four {l : Launch} {d : Nat} {sh : aw_SH} {S : aw_S} {P : aw_S → Prop} {a : Nat} {p0 : Int32} (sa : sh[a]? = some (0, 11)) (h : AW l m_Md_four (d + 1) 0 0 (gV sh P) 0 0 3 [.ref a, .int p0, .int 24] [] sh S) : Sp l m_Md_four (d + 1) 0 0 [.ref a, .int p0] sh S (gV sh P) := by
  refine Sp.of k_Md_four (ls := [.ref a, .int p0, .null]) rfl (Nat.le_of_ble_eq_true rfl) ?_
  refine r_bipush (pc := 0) d_Md_four_0 (v := 24) (by decide) ?_
  refine r_istore_n (pc := 2) (hk := rfl) (hd := d_Md_four_2) (hi := by decide) (ls2 := [.ref a, .int p0, .int 24]) (h2 := rfl) ?_
  exact h
set_option maxRecDepth 4000 in
theorem s_Md_four_3 {l : Launch} {d : Nat} {sh : aw_SH} {S : aw_S} {P : aw_S → Prop} {a : Nat} {i1 : Int32} {i2 : Int32} (sa : sh[a]? = some (0, 11)) (h : ((i2 < 0 → P S) ∧ (¬ i2 < 0 → ∃ r2, S.2.2 a 8 = some r2 ∧ ∃ n4, sh[r2]? = some (1, n4) ∧ vp_in (S.1 a 10) n4 ∧ AW l m_Md_four (d + 1) 0 0 (gV sh P) 0 0 3 [.ref a, .int i1, .int (i2 + (-8))] [] sh (aw_uI (aw_uI S r2 ((S.1 a 10 : Int32).toNatClampNeg) (vp_nar .byte ((i1 >>> (i2 &&& 31)).toInt8.toInt32))) a 10 (((aw_uI S r2 ((S.1 a 10 : Int32).toNatClampNeg) (vp_nar .byte ((i1 >>> (i2 &&& 31)).toInt8.toInt32))).1 a 10) + (1 : Int32)))))) : AW l m_Md_four (d + 1) 0 0 (gV sh P) 0 0 3 [.ref a, .int i1, .int i2] [] sh S := by
  refine r_iload_n (pc := 3) d_Md_four_3 (x := i2) rfl ?_
  refine r_if_lt (pc := 4) d_Md_four_4 (tgt := 36) (by decide) (fun c1 => ?_) (fun c1 => ?_)
  · replace h := h.1 c1
    exact r_return (pc := 36) d_Md_four_36 rfl rfl (Nat.le_refl _) ⟨rfl, rfl, h⟩
  · replace h := h.2 c1
    refine r_aload_n (pc := 7) d_Md_four_7 (x := a) rfl ?_
    obtain ⟨r2, er2, h⟩ := h
    refine r_getR (pc := 8) d_Md_four_8 f_Md_30 sa (Or.inr ⟨_, rfl⟩) (r := r2) er2 ?_
    refine r_aload_n (pc := 11) d_Md_four_11 (x := a) rfl ?_
    refine r_getI (pc := 12) d_Md_four_12 f_Md_142 sa rfl ?_
    refine r_iload_n (pc := 15) d_Md_four_15 (x := i1) rfl ?_
    refine r_iload_n (pc := 16) d_Md_four_16 (x := i2) rfl ?_
    refine r_ishr (pc := 17) d_Md_four_17 ?_
    refine r_i2b (pc := 18) d_Md_four_18 ?_
    obtain ⟨n4, s3, h⟩ := h
    obtain ⟨g5, h⟩ := h
    refine r_bast (pc := 19) d_Md_four_19 s3 g5 ?_
    refine r_aload_n (pc := 20) d_Md_four_20 (x := a) rfl ?_
    refine r_dup (pc := 21) d_Md_four_21 rfl ?_
    refine r_getI (pc := 22) d_Md_four_22 f_Md_142 sa rfl ?_
    refine r_iconst (pc := 25) d_Md_four_25 (v := 1) (by decide) ?_
    refine r_iadd (pc := 26) d_Md_four_26 ?_
    refine r_putI (pc := 27) d_Md_four_27 f_Md_142 sa rfl ?_
    refine r_iinc (pc := 30) d_Md_four_30 (hi := by decide) (x := i2) rfl (v := i2 + (-8)) rfl (ls2 := [.ref a, .int i1, .int (i2 + (-8))]) rfl ?_
    refine r_goto (pc := 33) d_Md_four_33 (tgt := 3) (by decide) ?_
    exact h
set_option maxRecDepth 4000 in
theorem e_Md_fault {l : Launch} {d : Nat} {sh : aw_SH} {S : aw_S} {P : Int32 → aw_S → Prop} {a : Nat} {p0 : Int32} (sa : sh[a]? = some (0, 11)) (h : ((¬ p0 = 0 → ((¬ p0 = 1 → P (-1) S) ∧ (p0 = 1 → P (S.1 a 17) S))) ∧ (p0 = 0 → P (S.1 a 16) S))) : Sp l m_Md_fault (d + 1) 0 0 [.ref a, .int p0] sh S (gI sh P) := by
  refine Sp.of k_Md_fault (ls := [.ref a, .int p0]) rfl (Nat.le_of_ble_eq_true rfl) ?_
  refine r_iload_n (pc := 0) d_Md_fault_0 (x := p0) rfl ?_
  refine r_if_ne (pc := 1) d_Md_fault_1 (tgt := 11) (by decide) (fun c1 => ?_) (fun c1 => ?_)
  · replace h := h.1 c1
    refine r_iload_n (pc := 11) d_Md_fault_11 (x := p0) rfl ?_
    refine r_iconst (pc := 12) d_Md_fault_12 (v := 1) (by decide) ?_
    refine r_icmp_ne (pc := 13) d_Md_fault_13 (tgt := 23) (by decide) (fun c2 => ?_) (fun c2 => ?_)
    · replace h := h.1 c2
      refine r_iconst (pc := 23) d_Md_fault_23 (v := (-1)) (by decide) ?_
      exact r_ireturn (pc := 24) d_Md_fault_24 rfl rfl (Nat.le_refl _) ⟨rfl, _, rfl, h⟩
    · replace h := h.2 c2
      refine r_aload_n (pc := 16) d_Md_fault_16 (x := a) rfl ?_
      refine r_getI (pc := 17) d_Md_fault_17 f_Md_41 sa rfl ?_
      refine r_goto (pc := 20) d_Md_fault_20 (tgt := 24) (by decide) ?_
      exact r_ireturn (pc := 24) d_Md_fault_24 rfl rfl (Nat.le_refl _) ⟨rfl, _, rfl, h⟩
  · replace h := h.2 c1
    refine r_aload_n (pc := 4) d_Md_fault_4 (x := a) rfl ?_
    refine r_getI (pc := 5) d_Md_fault_5 f_Md_37 sa rfl ?_
    refine r_goto (pc := 8) d_Md_fault_8 (tgt := 24) (by decide) ?_
    exact r_ireturn (pc := 24) d_Md_fault_24 rfl rfl (Nat.le_refl _) ⟨rfl, _, rfl, h⟩
set_option maxRecDepth 4000 in
theorem e_Md_green {l : Launch} {d : Nat} {sh : aw_SH} {S : aw_S} {P : Int32 → aw_S → Prop} {a : Nat} {p0 : Int32} (sa : sh[a]? = some (0, 11)) (h : Sp l m_Md_begins d 0 0 [.ref a, .int p0, .int 900] sh S (gI sh (fun x2 S1 => ((¬ x2 = 0 → Sp l m_Md_plain d 0 0 [.ref a, .int 2208] sh S1 (gV sh (fun S4 => AW l m_Md_green (d + 1) 0 0 (gI sh P) 0 0 31 [.ref a, .null, .int 1, .null] [] sh (aw_uI S4 a 20 0)))) ∧ (x2 = 0 → Sp l m_Md_refuse d 0 0 [.ref a, .int 1] sh S1 (gI sh (fun x6 S5 => P x6 S5))))))) : Sp l m_Md_green (d + 1) 0 0 [.ref a, .int p0] sh S (gI sh P) := by
  refine Sp.of k_Md_green (ls := [.ref a, .int p0, .null, .null]) rfl (Nat.le_of_ble_eq_true rfl) ?_
  refine r_aload_n (pc := 0) d_Md_green_0 (x := a) rfl ?_
  refine r_iload_n (pc := 1) d_Md_green_1 (x := p0) rfl ?_
  refine r_sipush (pc := 2) d_Md_green_2 (v := 900) (by decide) ?_
  refine r_callV (pc := 5) (k := a) (As := [.int p0, .int 900]) (rest := []) (mc' := 0) (ms' := 0) lk_Md_283 in_Md_begins se_Md_begins sa rfl d_Md_green_5 k_Md_begins rfl rfl (Nat.le_of_ble_eq_true rfl) (by decide) (by decide) (Sp.mono h ?_)
  rintro rS1 shS1 S1 ⟨qS1, x2, uS1, h⟩
  subst uS1
  rw [qS1]
  refine r_if_ne (pc := 8) d_Md_green_8 (tgt := 17) (by decide) (fun c3 => ?_) (fun c3 => ?_)
  · replace h := h.1 c3
    refine r_aload_n (pc := 17) d_Md_green_17 (x := a) rfl ?_
    refine r_sipush (pc := 18) d_Md_green_18 (v := 2208) (by decide) ?_
    refine r_callV (pc := 21) (k := a) (As := [.int 2208]) (rest := []) (mc' := 0) (ms' := 0) lk_Md_108 in_Md_plain se_Md_plain sa rfl d_Md_green_21 k_Md_plain rfl rfl (Nat.le_of_ble_eq_true rfl) (by decide) (by decide) (Sp.mono h ?_)
    rintro rS4 shS4 S4 ⟨qS4, uS4, h⟩
    subst uS4
    rw [qS4]
    refine r_aload_n (pc := 24) d_Md_green_24 (x := a) rfl ?_
    refine r_iconst (pc := 25) d_Md_green_25 (v := 0) (by decide) ?_
    refine r_putI (pc := 26) d_Md_green_26 f_Md_238 sa rfl ?_
    refine r_iconst (pc := 29) d_Md_green_29 (v := 1) (by decide) ?_
    refine r_istore_n (pc := 30) (hk := rfl) (hd := d_Md_green_30) (hi := by decide) (ls2 := [.ref a, .int p0, .int 1, .null]) (h2 := rfl) ?_
    exact r_weak (ls2 := [.ref a, .null, .int 1, .null]) ⟨Or.inr rfl, Or.inl rfl, Or.inr rfl, Or.inl rfl, trivial⟩ h
  · replace h := h.2 c3
    refine r_aload_n (pc := 11) d_Md_green_11 (x := a) rfl ?_
    refine r_iconst (pc := 12) d_Md_green_12 (v := 1) (by decide) ?_
    refine r_callV (pc := 13) (k := a) (As := [.int 1]) (rest := []) (mc' := 0) (ms' := 0) lk_Md_118 in_Md_refuse se_Md_refuse sa rfl d_Md_green_13 k_Md_refuse rfl rfl (Nat.le_of_ble_eq_true rfl) (by decide) (by decide) (Sp.mono h ?_)
    rintro rS5 shS5 S5 ⟨qS5, x6, uS5, h⟩
    subst uS5
    rw [qS5]
    exact r_ireturn (pc := 16) d_Md_green_16 rfl rfl (Nat.le_refl _) ⟨rfl, _, rfl, h⟩
set_option maxRecDepth 4000 in
theorem s_Md_green_31 {l : Launch} {d : Nat} {sh : aw_SH} {S : aw_S} {P : Int32 → aw_S → Prop} {a : Nat} {i2 : Int32} (sa : sh[a]? = some (0, 11)) (h : ((i2 = 0 → ((¬ (S.1 a 18) = 0 → ∃ r3, S.2.2 a 0 = some r3 ∧ ∃ n5, sh[r3]? = some (3, n5) ∧ vp_in 0 n5 ∧ Sp l m_Md_taken d 0 0 [.ref a, .int (S.1 r3 (0 : Int32).toNatClampNeg)] sh S (gI sh (fun x8 S7 => P x8 S7))) ∧ ((S.1 a 18) = 0 → AW l m_Md_green (d + 1) 0 0 (gI sh P) 0 0 59 [.ref a, .null, .null, .int 0] [] sh S))) ∧ (¬ i2 = 0 → (((S.1 a 12) = 0 → ((¬ (S.1 a 18) = 0 → ∃ r11, S.2.2 a 0 = some r11 ∧ ∃ n13, sh[r11]? = some (3, n13) ∧ vp_in 0 n13 ∧ Sp l m_Md_taken d 0 0 [.ref a, .int (S.1 r11 (0 : Int32).toNatClampNeg)] sh S (gI sh (fun x16 S15 => P x16 S15))) ∧ ((S.1 a 18) = 0 → AW l m_Md_green (d + 1) 0 0 (gI sh P) 0 0 59 [.ref a, .null, .null, .int 0] [] sh S))) ∧ (¬ (S.1 a 12) = 0 → Sp l m_Md_greenPart d 0 0 [.ref a] sh S (gI sh (fun x18 S17 => AW l m_Md_green (d + 1) 0 0 (gI sh P) 0 0 31 [.ref a, .null, .int x18, .null] [] sh S17))))))) : AW l m_Md_green (d + 1) 0 0 (gI sh P) 0 0 31 [.ref a, .null, .int i2, .null] [] sh S := by
  refine r_iload_n (pc := 31) d_Md_green_31 (x := i2) rfl ?_
  refine r_if_eq (pc := 32) d_Md_green_32 (tgt := 50) (by decide) (fun c1 => ?_) (fun c1 => ?_)
  · replace h := h.1 c1
    refine r_aload_n (pc := 50) d_Md_green_50 (x := a) rfl ?_
    refine r_getI (pc := 51) d_Md_green_51 f_Md_188 sa rfl ?_
    refine r_if_ne (pc := 54) d_Md_green_54 (tgt := 117) (by decide) (fun c2 => ?_) (fun c2 => ?_)
    · replace h := h.1 c2
      refine r_aload_n (pc := 117) d_Md_green_117 (x := a) rfl ?_
      refine r_aload_n (pc := 118) d_Md_green_118 (x := a) rfl ?_
      obtain ⟨r3, er3, h⟩ := h
      refine r_getR (pc := 119) d_Md_green_119 f_Md_7 sa (Or.inr ⟨_, rfl⟩) (r := r3) er3 ?_
      refine r_iconst (pc := 122) d_Md_green_122 (v := 0) (by decide) ?_
      obtain ⟨n5, s4, h⟩ := h
      obtain ⟨g6, h⟩ := h
      refine r_iald (pc := 123) d_Md_green_123 s4 g6 ?_
      refine r_callV (pc := 124) (k := a) (As := [.int (S.1 r3 (0 : Int32).toNatClampNeg)]) (rest := []) (mc' := 0) (ms' := 0) lk_Md_289 in_Md_taken se_Md_taken sa rfl d_Md_green_124 k_Md_taken rfl rfl (Nat.le_of_ble_eq_true rfl) (by decide) (by decide) (Sp.mono h ?_)
      rintro rS7 shS7 S7 ⟨qS7, x8, uS7, h⟩
      subst uS7
      rw [qS7]
      exact r_ireturn (pc := 127) d_Md_green_127 rfl rfl (Nat.le_refl _) ⟨rfl, _, rfl, h⟩
    · replace h := h.2 c2
      refine r_iconst (pc := 57) d_Md_green_57 (v := 0) (by decide) ?_
      refine r_istore_n (pc := 58) (hk := rfl) (hd := d_Md_green_58) (hi := by decide) (ls2 := [.ref a, .null, .int i2, .int 0]) (h2 := rfl) ?_
      exact r_weak (ls2 := [.ref a, .null, .null, .int 0]) ⟨Or.inr rfl, Or.inl rfl, Or.inl rfl, Or.inr rfl, trivial⟩ h
  · replace h := h.2 c1
    refine r_aload_n (pc := 35) d_Md_green_35 (x := a) rfl ?_
    refine r_getI (pc := 36) d_Md_green_36 f_Md_163 sa rfl ?_
    refine r_if_eq (pc := 39) d_Md_green_39 (tgt := 50) (by decide) (fun c9 => ?_) (fun c9 => ?_)
    · replace h := h.1 c9
      refine r_aload_n (pc := 50) d_Md_green_50 (x := a) rfl ?_
      refine r_getI (pc := 51) d_Md_green_51 f_Md_188 sa rfl ?_
      refine r_if_ne (pc := 54) d_Md_green_54 (tgt := 117) (by decide) (fun c10 => ?_) (fun c10 => ?_)
      · replace h := h.1 c10
        refine r_aload_n (pc := 117) d_Md_green_117 (x := a) rfl ?_
        refine r_aload_n (pc := 118) d_Md_green_118 (x := a) rfl ?_
        obtain ⟨r11, er11, h⟩ := h
        refine r_getR (pc := 119) d_Md_green_119 f_Md_7 sa (Or.inr ⟨_, rfl⟩) (r := r11) er11 ?_
        refine r_iconst (pc := 122) d_Md_green_122 (v := 0) (by decide) ?_
        obtain ⟨n13, s12, h⟩ := h
        obtain ⟨g14, h⟩ := h
        refine r_iald (pc := 123) d_Md_green_123 s12 g14 ?_
        refine r_callV (pc := 124) (k := a) (As := [.int (S.1 r11 (0 : Int32).toNatClampNeg)]) (rest := []) (mc' := 0) (ms' := 0) lk_Md_289 in_Md_taken se_Md_taken sa rfl d_Md_green_124 k_Md_taken rfl rfl (Nat.le_of_ble_eq_true rfl) (by decide) (by decide) (Sp.mono h ?_)
        rintro rS15 shS15 S15 ⟨qS15, x16, uS15, h⟩
        subst uS15
        rw [qS15]
        exact r_ireturn (pc := 127) d_Md_green_127 rfl rfl (Nat.le_refl _) ⟨rfl, _, rfl, h⟩
      · replace h := h.2 c10
        refine r_iconst (pc := 57) d_Md_green_57 (v := 0) (by decide) ?_
        refine r_istore_n (pc := 58) (hk := rfl) (hd := d_Md_green_58) (hi := by decide) (ls2 := [.ref a, .null, .int i2, .int 0]) (h2 := rfl) ?_
        exact r_weak (ls2 := [.ref a, .null, .null, .int 0]) ⟨Or.inr rfl, Or.inl rfl, Or.inl rfl, Or.inr rfl, trivial⟩ h
    · replace h := h.2 c9
      refine r_aload_n (pc := 42) d_Md_green_42 (x := a) rfl ?_
      refine r_callV (pc := 43) (k := a) (As := []) (rest := []) (mc' := 0) (ms' := 0) lk_Md_286 in_Md_greenPart se_Md_greenPart sa rfl d_Md_green_43 k_Md_greenPart rfl rfl (Nat.le_of_ble_eq_true rfl) (by decide) (by decide) (Sp.mono h ?_)
      rintro rS17 shS17 S17 ⟨qS17, x18, uS17, h⟩
      subst uS17
      rw [qS17]
      refine r_istore_n (pc := 46) (hk := rfl) (hd := d_Md_green_46) (hi := by decide) (ls2 := [.ref a, .null, .int x18, .null]) (h2 := rfl) ?_
      refine r_goto (pc := 47) d_Md_green_47 (tgt := 31) (by decide) ?_
      exact h
set_option maxRecDepth 4000 in
theorem s_Md_green_59 {l : Launch} {d : Nat} {sh : aw_SH} {S : aw_S} {P : Int32 → aw_S → Prop} {a : Nat} {i3 : Int32} (sa : sh[a]? = some (0, 11)) (h : ((552 ≤ i3 → AW l m_Md_green (d + 1) 0 0 (gI sh P) 0 0 90 [.ref a, .null, .null, .int 0] [] sh S) ∧ (¬ 552 ≤ i3 → ∃ r2, S.2.2 a 0 = some r2 ∧ ∃ n4, sh[r2]? = some (3, n4) ∧ vp_in ((2208 : Int32) + i3) n4 ∧ vp_in i3 n4 ∧ AW l m_Md_green (d + 1) 0 0 (gI sh P) 0 0 59 [.ref a, .null, .null, .int (i3 + 1)] [] sh (aw_uI S r2 i3.toNatClampNeg (S.1 r2 ((2208 : Int32) + i3 : Int32).toNatClampNeg))))) : AW l m_Md_green (d + 1) 0 0 (gI sh P) 0 0 59 [.ref a, .null, .null, .int i3] [] sh S := by
  refine r_iload_n (pc := 59) d_Md_green_59 (x := i3) rfl ?_
  refine r_sipush (pc := 60) d_Md_green_60 (v := 552) (by decide) ?_
  refine r_icmp_ge (pc := 63) d_Md_green_63 (tgt := 88) (by decide) (fun c1 => ?_) (fun c1 => ?_)
  · replace h := h.1 c1
    refine r_iconst (pc := 88) d_Md_green_88 (v := 0) (by decide) ?_
    refine r_istore_n (pc := 89) (hk := rfl) (hd := d_Md_green_89) (hi := by decide) (ls2 := [.ref a, .null, .null, .int 0]) (h2 := rfl) ?_
    exact h
  · replace h := h.2 c1
    refine r_aload_n (pc := 66) d_Md_green_66 (x := a) rfl ?_
    obtain ⟨r2, er2, h⟩ := h
    refine r_getR (pc := 67) d_Md_green_67 f_Md_7 sa (Or.inr ⟨_, rfl⟩) (r := r2) er2 ?_
    refine r_iload_n (pc := 70) d_Md_green_70 (x := i3) rfl ?_
    refine r_aload_n (pc := 71) d_Md_green_71 (x := a) rfl ?_
    refine r_getR (pc := 72) d_Md_green_72 f_Md_7 sa (Or.inr ⟨_, rfl⟩) (r := r2) er2 ?_
    refine r_sipush (pc := 75) d_Md_green_75 (v := 2208) (by decide) ?_
    refine r_iload_n (pc := 78) d_Md_green_78 (x := i3) rfl ?_
    refine r_iadd (pc := 79) d_Md_green_79 ?_
    obtain ⟨n4, s3, h⟩ := h
    obtain ⟨g5, h⟩ := h
    refine r_iald (pc := 80) d_Md_green_80 s3 g5 ?_
    obtain ⟨g6, h⟩ := h
    refine r_iast (pc := 81) d_Md_green_81 s3 g6 ?_
    refine r_iinc (pc := 82) d_Md_green_82 (hi := by decide) (x := i3) rfl (v := i3 + 1) rfl (ls2 := [.ref a, .null, .null, .int (i3 + 1)]) rfl ?_
    refine r_goto (pc := 85) d_Md_green_85 (tgt := 59) (by decide) ?_
    exact h
set_option maxRecDepth 4000 in
theorem s_Md_green_90 {l : Launch} {d : Nat} {sh : aw_SH} {S : aw_S} {P : Int32 → aw_S → Prop} {a : Nat} {i3 : Int32} (sa : sh[a]? = some (0, 11)) (h : ((7 ≤ i3 → ∃ r2, S.2.2 a 0 = some r2 ∧ ∃ n4, sh[r2]? = some (3, n4) ∧ vp_in 0 n4 ∧ Sp l m_Md_taken d 0 0 [.ref a, .int (S.1 r2 (0 : Int32).toNatClampNeg)] sh S (gI sh (fun x7 S6 => P x7 S6))) ∧ (¬ 7 ≤ i3 → ∃ r8, S.2.2 a 1 = some r8 ∧ ∃ n10, sh[r8]? = some (4, n10) ∧ vp_in ((28 : Int32) + i3) n10 ∧ vp_in i3 n10 ∧ AW l m_Md_green (d + 1) 0 0 (gI sh P) 0 0 90 [.ref a, .null, .null, .int (i3 + 1)] [] sh (aw_uL S r8 i3.toNatClampNeg (S.2.1 r8 ((28 : Int32) + i3 : Int32).toNatClampNeg))))) : AW l m_Md_green (d + 1) 0 0 (gI sh P) 0 0 90 [.ref a, .null, .null, .int i3] [] sh S := by
  refine r_iload_n (pc := 90) d_Md_green_90 (x := i3) rfl ?_
  refine r_bipush (pc := 91) d_Md_green_91 (v := 7) (by decide) ?_
  refine r_icmp_ge (pc := 93) d_Md_green_93 (tgt := 117) (by decide) (fun c1 => ?_) (fun c1 => ?_)
  · replace h := h.1 c1
    refine r_aload_n (pc := 117) d_Md_green_117 (x := a) rfl ?_
    refine r_aload_n (pc := 118) d_Md_green_118 (x := a) rfl ?_
    obtain ⟨r2, er2, h⟩ := h
    refine r_getR (pc := 119) d_Md_green_119 f_Md_7 sa (Or.inr ⟨_, rfl⟩) (r := r2) er2 ?_
    refine r_iconst (pc := 122) d_Md_green_122 (v := 0) (by decide) ?_
    obtain ⟨n4, s3, h⟩ := h
    obtain ⟨g5, h⟩ := h
    refine r_iald (pc := 123) d_Md_green_123 s3 g5 ?_
    refine r_callV (pc := 124) (k := a) (As := [.int (S.1 r2 (0 : Int32).toNatClampNeg)]) (rest := []) (mc' := 0) (ms' := 0) lk_Md_289 in_Md_taken se_Md_taken sa rfl d_Md_green_124 k_Md_taken rfl rfl (Nat.le_of_ble_eq_true rfl) (by decide) (by decide) (Sp.mono h ?_)
    rintro rS6 shS6 S6 ⟨qS6, x7, uS6, h⟩
    subst uS6
    rw [qS6]
    exact r_ireturn (pc := 127) d_Md_green_127 rfl rfl (Nat.le_refl _) ⟨rfl, _, rfl, h⟩
  · replace h := h.2 c1
    refine r_aload_n (pc := 96) d_Md_green_96 (x := a) rfl ?_
    obtain ⟨r8, er8, h⟩ := h
    refine r_getR (pc := 97) d_Md_green_97 f_Md_13 sa (Or.inr ⟨_, rfl⟩) (r := r8) er8 ?_
    refine r_iload_n (pc := 100) d_Md_green_100 (x := i3) rfl ?_
    refine r_aload_n (pc := 101) d_Md_green_101 (x := a) rfl ?_
    refine r_getR (pc := 102) d_Md_green_102 f_Md_13 sa (Or.inr ⟨_, rfl⟩) (r := r8) er8 ?_
    refine r_bipush (pc := 105) d_Md_green_105 (v := 28) (by decide) ?_
    refine r_iload_n (pc := 107) d_Md_green_107 (x := i3) rfl ?_
    refine r_iadd (pc := 108) d_Md_green_108 ?_
    obtain ⟨n10, s9, h⟩ := h
    obtain ⟨g11, h⟩ := h
    refine r_lald (pc := 109) d_Md_green_109 s9 g11 ?_
    obtain ⟨g12, h⟩ := h
    refine r_last (pc := 110) d_Md_green_110 s9 g12 ?_
    refine r_iinc (pc := 111) d_Md_green_111 (hi := by decide) (x := i3) rfl (v := i3 + 1) rfl (ls2 := [.ref a, .null, .null, .int (i3 + 1)]) rfl ?_
    refine r_goto (pc := 114) d_Md_green_114 (tgt := 90) (by decide) ?_
    exact h
set_option maxRecDepth 4000 in
theorem e_Md_begins {l : Launch} {d : Nat} {sh : aw_SH} {S : aw_S} {P : Int32 → aw_S → Prop} {a : Nat} {p0 : Int32} {p1 : Int32} (sa : sh[a]? = some (0, 11)) (h : ((p0 < 0 → P 0 S) ∧ (¬ p0 < 0 → (((S.1 a 10) < p0 → P 0 S) ∧ (¬ (S.1 a 10) < p0 → ((p0 ≤ p1 → AW l m_Md_begins (d + 1) 0 0 (gI sh P) 0 0 26 [.ref a, .int p0, .null, .int 0] [] sh (aw_uI S a 11 p0)) ∧ (¬ p0 ≤ p1 → P 0 S))))))) : Sp l m_Md_begins (d + 1) 0 0 [.ref a, .int p0, .int p1] sh S (gI sh P) := by
  refine Sp.of k_Md_begins (ls := [.ref a, .int p0, .int p1, .null]) rfl (Nat.le_of_ble_eq_true rfl) ?_
  refine r_iload_n (pc := 0) d_Md_begins_0 (x := p0) rfl ?_
  refine r_if_lt (pc := 1) d_Md_begins_1 (tgt := 17) (by decide) (fun c1 => ?_) (fun c1 => ?_)
  · replace h := h.1 c1
    refine r_iconst (pc := 17) d_Md_begins_17 (v := 0) (by decide) ?_
    exact r_zreturn (pc := 18) d_Md_begins_18 (v := 0) rfl (by decide) rfl (Nat.le_refl _) ⟨rfl, _, rfl, h⟩
  · replace h := h.2 c1
    refine r_iload_n (pc := 4) d_Md_begins_4 (x := p0) rfl ?_
    refine r_aload_n (pc := 5) d_Md_begins_5 (x := a) rfl ?_
    refine r_getI (pc := 6) d_Md_begins_6 f_Md_142 sa rfl ?_
    refine r_icmp_gt (pc := 9) d_Md_begins_9 (tgt := 17) (by decide) (fun c2 => ?_) (fun c2 => ?_)
    · replace h := h.1 c2
      refine r_iconst (pc := 17) d_Md_begins_17 (v := 0) (by decide) ?_
      exact r_zreturn (pc := 18) d_Md_begins_18 (v := 0) rfl (by decide) rfl (Nat.le_refl _) ⟨rfl, _, rfl, h⟩
    · replace h := h.2 c2
      refine r_iload_n (pc := 12) d_Md_begins_12 (x := p0) rfl ?_
      refine r_iload_n (pc := 13) d_Md_begins_13 (x := p1) rfl ?_
      refine r_icmp_le (pc := 14) d_Md_begins_14 (tgt := 19) (by decide) (fun c3 => ?_) (fun c3 => ?_)
      · replace h := h.1 c3
        refine r_aload_n (pc := 19) d_Md_begins_19 (x := a) rfl ?_
        refine r_iload_n (pc := 20) d_Md_begins_20 (x := p0) rfl ?_
        refine r_putI (pc := 21) d_Md_begins_21 f_Md_148 sa rfl ?_
        refine r_iconst (pc := 24) d_Md_begins_24 (v := 0) (by decide) ?_
        refine r_istore_n (pc := 25) (hk := rfl) (hd := d_Md_begins_25) (hi := by decide) (ls2 := [.ref a, .int p0, .int p1, .int 0]) (h2 := rfl) ?_
        exact r_weak (ls2 := [.ref a, .int p0, .null, .int 0]) ⟨Or.inr rfl, Or.inr rfl, Or.inl rfl, Or.inr rfl, trivial⟩ h
      · replace h := h.2 c3
        refine r_iconst (pc := 17) d_Md_begins_17 (v := 0) (by decide) ?_
        exact r_zreturn (pc := 18) d_Md_begins_18 (v := 0) rfl (by decide) rfl (Nat.le_refl _) ⟨rfl, _, rfl, h⟩
set_option maxRecDepth 4000 in
theorem s_Md_begins_26 {l : Launch} {d : Nat} {sh : aw_SH} {S : aw_S} {P : Int32 → aw_S → Prop} {a : Nat} {i1 : Int32} {i3 : Int32} (sa : sh[a]? = some (0, 11)) (h : ((i1 ≤ i3 → Sp l m_Md_ahead d 0 0 [.ref a] sh (aw_uI (aw_uI (aw_uI (aw_uI (aw_uI S a 10 0) a 18 0) a 17 (-1)) a 14 0) a 19 0) (gV sh (fun S2 => P 1 S2))) ∧ (¬ i1 ≤ i3 → ∃ r3, S.2.2 a 9 = some r3 ∧ ∃ r4, S.2.2 a 8 = some r4 ∧ ∃ n6, sh[r4]? = some (1, n6) ∧ vp_in i3 n6 ∧ ∃ n9, sh[r3]? = some (1, n9) ∧ vp_in i3 n9 ∧ AW l m_Md_begins (d + 1) 0 0 (gI sh P) 0 0 26 [.ref a, .int i1, .null, .int (i3 + 1)] [] sh (aw_uI S r3 i3.toNatClampNeg (vp_nar .byte (S.1 r4 i3.toNatClampNeg)))))) : AW l m_Md_begins (d + 1) 0 0 (gI sh P) 0 0 26 [.ref a, .int i1, .null, .int i3] [] sh S := by
  refine r_iload_n (pc := 26) d_Md_begins_26 (x := i3) rfl ?_
  refine r_iload_n (pc := 27) d_Md_begins_27 (x := i1) rfl ?_
  refine r_icmp_ge (pc := 28) d_Md_begins_28 (tgt := 49) (by decide) (fun c1 => ?_) (fun c1 => ?_)
  · replace h := h.1 c1
    refine r_aload_n (pc := 49) d_Md_begins_49 (x := a) rfl ?_
    refine r_iconst (pc := 50) d_Md_begins_50 (v := 0) (by decide) ?_
    refine r_putI (pc := 51) d_Md_begins_51 f_Md_142 sa rfl ?_
    refine r_aload_n (pc := 54) d_Md_begins_54 (x := a) rfl ?_
    refine r_iconst (pc := 55) d_Md_begins_55 (v := 0) (by decide) ?_
    refine r_putI (pc := 56) d_Md_begins_56 f_Md_188 sa rfl ?_
    refine r_aload_n (pc := 59) d_Md_begins_59 (x := a) rfl ?_
    refine r_iconst (pc := 60) d_Md_begins_60 (v := (-1)) (by decide) ?_
    refine r_putI (pc := 61) d_Md_begins_61 f_Md_41 sa rfl ?_
    refine r_aload_n (pc := 64) d_Md_begins_64 (x := a) rfl ?_
    refine r_iconst (pc := 65) d_Md_begins_65 (v := 0) (by decide) ?_
    refine r_putI (pc := 66) d_Md_begins_66 f_Md_151 sa rfl ?_
    refine r_aload_n (pc := 69) d_Md_begins_69 (x := a) rfl ?_
    refine r_iconst (pc := 70) d_Md_begins_70 (v := 0) (by decide) ?_
    refine r_putI (pc := 71) d_Md_begins_71 f_Md_191 sa rfl ?_
    refine r_aload_n (pc := 74) d_Md_begins_74 (x := a) rfl ?_
    refine r_callV (pc := 75) (k := a) (As := []) (rest := []) (mc' := 0) (ms' := 0) lk_Md_194 in_Md_ahead se_Md_ahead sa rfl d_Md_begins_75 k_Md_ahead rfl rfl (Nat.le_of_ble_eq_true rfl) (by decide) (by decide) (Sp.mono h ?_)
    rintro rS2 shS2 S2 ⟨qS2, uS2, h⟩
    subst uS2
    rw [qS2]
    refine r_iconst (pc := 78) d_Md_begins_78 (v := 1) (by decide) ?_
    exact r_zreturn (pc := 79) d_Md_begins_79 (v := 1) rfl (by decide) rfl (Nat.le_refl _) ⟨rfl, _, rfl, h⟩
  · replace h := h.2 c1
    refine r_aload_n (pc := 31) d_Md_begins_31 (x := a) rfl ?_
    obtain ⟨r3, er3, h⟩ := h
    refine r_getR (pc := 32) d_Md_begins_32 f_Md_34 sa (Or.inr ⟨_, rfl⟩) (r := r3) er3 ?_
    refine r_iload_n (pc := 35) d_Md_begins_35 (x := i3) rfl ?_
    refine r_aload_n (pc := 36) d_Md_begins_36 (x := a) rfl ?_
    obtain ⟨r4, er4, h⟩ := h
    refine r_getR (pc := 37) d_Md_begins_37 f_Md_30 sa (Or.inr ⟨_, rfl⟩) (r := r4) er4 ?_
    refine r_iload_n (pc := 40) d_Md_begins_40 (x := i3) rfl ?_
    obtain ⟨n6, s5, h⟩ := h
    obtain ⟨g7, h⟩ := h
    refine r_bald (pc := 41) d_Md_begins_41 s5 g7 ?_
    obtain ⟨n9, s8, h⟩ := h
    obtain ⟨g10, h⟩ := h
    refine r_bast (pc := 42) d_Md_begins_42 s8 g10 ?_
    refine r_iinc (pc := 43) d_Md_begins_43 (hi := by decide) (x := i3) rfl (v := i3 + 1) rfl (ls2 := [.ref a, .int i1, .null, .int (i3 + 1)]) rfl ?_
    refine r_goto (pc := 46) d_Md_begins_46 (tgt := 26) (by decide) ?_
    exact h
set_option maxRecDepth 4000 in
theorem e_Md_ahead {l : Launch} {d : Nat} {sh : aw_SH} {S : aw_S} {P : aw_S → Prop} {a : Nat} (sa : sh[a]? = some (0, 11)) (h : AW l m_Md_ahead (d + 1) 0 0 (gV sh P) 0 0 0 [.ref a, .null] [] sh S) : Sp l m_Md_ahead (d + 1) 0 0 [.ref a] sh S (gV sh P) := by
  refine Sp.of k_Md_ahead (ls := [.ref a, .null]) rfl (Nat.le_of_ble_eq_true rfl) ?_
  exact h
set_option maxRecDepth 4000 in
theorem s_Md_ahead_0 {l : Launch} {d : Nat} {sh : aw_SH} {S : aw_S} {P : aw_S → Prop} {a : Nat} (sa : sh[a]? = some (0, 11)) (h : Sp l m_Md_byteAt d 0 0 [.ref a, .int (S.1 a 14)] sh S (gI sh (fun x2 S1 => ((x2 = 32 → AW l m_Md_ahead (d + 1) 0 0 (gV sh P) 0 0 0 [.ref a, .null] [] sh (aw_uI S1 a 14 ((S1.1 a 14) + (1 : Int32)))) ∧ (¬ x2 = 32 → Sp l m_Md_byteAt d 0 0 [.ref a, .int (S1.1 a 14)] sh S1 (gI sh (fun x5 S4 => ((¬ x5 = 10 → Sp l m_Md_byteAt d 0 0 [.ref a, .int ((aw_uI S4 a 13 (S4.1 a 14)).1 a 14)] sh (aw_uI S4 a 13 (S4.1 a 14)) (gI sh (fun x8 S7 => ((¬ x8 = (-1) → Sp l m_Md_isSmall d 0 0 [.int x8] sh (aw_uI S7 a 15 x8) (gI sh (fun x11 S10 => ((x11 = 0 → Sp l m_Md_isDigit d 0 0 [.int x8] sh S10 (gI sh (fun x14 S13 => ((x14 = 0 → ((x8 = 59 → P (aw_uI (aw_uI S13 a 14 ((S13.1 a 14) + (1 : Int32))) a 12 4)) ∧ (¬ x8 = 59 → ((x8 = 60 → P (aw_uI (aw_uI S13 a 14 ((S13.1 a 14) + (1 : Int32))) a 12 4)) ∧ (¬ x8 = 60 → ((x8 = 62 → P (aw_uI (aw_uI S13 a 14 ((S13.1 a 14) + (1 : Int32))) a 12 4)) ∧ (¬ x8 = 62 → ((¬ x8 = 61 → P (aw_uI (aw_uI S13 a 14 ((S13.1 a 14) + (1 : Int32))) a 12 1)) ∧ (x8 = 61 → P (aw_uI (aw_uI S13 a 14 ((S13.1 a 14) + (1 : Int32))) a 12 4)))))))))) ∧ (¬ x14 = 0 → AW l m_Md_ahead (d + 1) 0 0 (gV sh P) 0 0 128 [.ref a, .null] [] sh (aw_uI S13 a 15 0)))))) ∧ (¬ x11 = 0 → AW l m_Md_ahead (d + 1) 0 0 (gV sh P) 0 0 81 [.ref a, .null] [] sh S10))))) ∧ (x8 = (-1) → P (aw_uI (aw_uI S7 a 15 x8) a 12 0)))))) ∧ (x5 = 10 → AW l m_Md_ahead (d + 1) 0 0 (gV sh P) 0 0 0 [.ref a, .null] [] sh (aw_uI S4 a 14 ((S4.1 a 14) + (1 : Int32)))))))))))) : AW l m_Md_ahead (d + 1) 0 0 (gV sh P) 0 0 0 [.ref a, .null] [] sh S := by
  refine r_aload_n (pc := 0) d_Md_ahead_0 (x := a) rfl ?_
  refine r_aload_n (pc := 1) d_Md_ahead_1 (x := a) rfl ?_
  refine r_getI (pc := 2) d_Md_ahead_2 f_Md_151 sa rfl ?_
  refine r_callV (pc := 5) (k := a) (As := [.int (S.1 a 14)]) (rest := []) (mc' := 0) (ms' := 0) lk_Md_154 in_Md_byteAt se_Md_byteAt sa rfl d_Md_ahead_5 k_Md_byteAt rfl rfl (Nat.le_of_ble_eq_true rfl) (by decide) (by decide) (Sp.mono h ?_)
  rintro rS1 shS1 S1 ⟨qS1, x2, uS1, h⟩
  subst uS1
  rw [qS1]
  refine r_bipush (pc := 8) d_Md_ahead_8 (v := 32) (by decide) ?_
  refine r_icmp_eq (pc := 10) d_Md_ahead_10 (tgt := 26) (by decide) (fun c3 => ?_) (fun c3 => ?_)
  · replace h := h.1 c3
    refine r_aload_n (pc := 26) d_Md_ahead_26 (x := a) rfl ?_
    refine r_dup (pc := 27) d_Md_ahead_27 rfl ?_
    refine r_getI (pc := 28) d_Md_ahead_28 f_Md_151 sa rfl ?_
    refine r_iconst (pc := 31) d_Md_ahead_31 (v := 1) (by decide) ?_
    refine r_iadd (pc := 32) d_Md_ahead_32 ?_
    refine r_putI (pc := 33) d_Md_ahead_33 f_Md_151 sa rfl ?_
    refine r_goto (pc := 36) d_Md_ahead_36 (tgt := 0) (by decide) ?_
    exact h
  · replace h := h.2 c3
    refine r_aload_n (pc := 13) d_Md_ahead_13 (x := a) rfl ?_
    refine r_aload_n (pc := 14) d_Md_ahead_14 (x := a) rfl ?_
    refine r_getI (pc := 15) d_Md_ahead_15 f_Md_151 sa rfl ?_
    refine r_callV (pc := 18) (k := a) (As := [.int (S1.1 a 14)]) (rest := []) (mc' := 0) (ms' := 0) lk_Md_154 in_Md_byteAt se_Md_byteAt sa rfl d_Md_ahead_18 k_Md_byteAt rfl rfl (Nat.le_of_ble_eq_true rfl) (by decide) (by decide) (Sp.mono h ?_)
    rintro rS4 shS4 S4 ⟨qS4, x5, uS4, h⟩
    subst uS4
    rw [qS4]
    refine r_bipush (pc := 21) d_Md_ahead_21 (v := 10) (by decide) ?_
    refine r_icmp_ne (pc := 23) d_Md_ahead_23 (tgt := 39) (by decide) (fun c6 => ?_) (fun c6 => ?_)
    · replace h := h.1 c6
      refine r_aload_n (pc := 39) d_Md_ahead_39 (x := a) rfl ?_
      refine r_aload_n (pc := 40) d_Md_ahead_40 (x := a) rfl ?_
      refine r_getI (pc := 41) d_Md_ahead_41 f_Md_151 sa rfl ?_
      refine r_putI (pc := 44) d_Md_ahead_44 f_Md_157 sa rfl ?_
      refine r_aload_n (pc := 47) d_Md_ahead_47 (x := a) rfl ?_
      refine r_aload_n (pc := 48) d_Md_ahead_48 (x := a) rfl ?_
      refine r_getI (pc := 49) d_Md_ahead_49 f_Md_151 sa rfl ?_
      refine r_callV (pc := 52) (k := a) (As := [.int ((aw_uI S4 a 13 (S4.1 a 14)).1 a 14)]) (rest := []) (mc' := 0) (ms' := 0) lk_Md_154 in_Md_byteAt se_Md_byteAt sa rfl d_Md_ahead_52 k_Md_byteAt rfl rfl (Nat.le_of_ble_eq_true rfl) (by decide) (by decide) (Sp.mono h ?_)
      rintro rS7 shS7 S7 ⟨qS7, x8, uS7, h⟩
      subst uS7
      rw [qS7]
      refine r_istore_n (pc := 55) (hk := rfl) (hd := d_Md_ahead_55) (hi := by decide) (ls2 := [.ref a, .int x8]) (h2 := rfl) ?_
      refine r_aload_n (pc := 56) d_Md_ahead_56 (x := a) rfl ?_
      refine r_iload_n (pc := 57) d_Md_ahead_57 (x := x8) rfl ?_
      refine r_putI (pc := 58) d_Md_ahead_58 f_Md_160 sa rfl ?_
      refine r_iload_n (pc := 61) d_Md_ahead_61 (x := x8) rfl ?_
      refine r_iconst (pc := 62) d_Md_ahead_62 (v := (-1)) (by decide) ?_
      refine r_icmp_ne (pc := 63) d_Md_ahead_63 (tgt := 74) (by decide) (fun c9 => ?_) (fun c9 => ?_)
      · replace h := h.1 c9
        refine r_iload_n (pc := 74) d_Md_ahead_74 (x := x8) rfl ?_
        refine r_callS (pc := 75) (k := 0) (As := [.int x8]) (rest := []) (mc' := 0) (ms' := 0) lk_Md_166 st_Md_isSmall d_Md_ahead_75 k_Md_isSmall rfl rfl (Nat.le_of_ble_eq_true rfl) (by decide) (by decide) (Sp.mono h ?_)
        rintro rS10 shS10 S10 ⟨qS10, x11, uS10, h⟩
        subst uS10
        rw [qS10]
        refine r_if_eq (pc := 78) d_Md_ahead_78 (tgt := 116) (by decide) (fun c12 => ?_) (fun c12 => ?_)
        · replace h := h.1 c12
          refine r_iload_n (pc := 116) d_Md_ahead_116 (x := x8) rfl ?_
          refine r_callS (pc := 117) (k := 0) (As := [.int x8]) (rest := []) (mc' := 0) (ms' := 0) lk_Md_169 st_Md_isDigit d_Md_ahead_117 k_Md_isDigit rfl rfl (Nat.le_of_ble_eq_true rfl) (by decide) (by decide) (Sp.mono h ?_)
          rintro rS13 shS13 S13 ⟨qS13, x14, uS13, h⟩
          subst uS13
          rw [qS13]
          refine r_if_eq (pc := 120) d_Md_ahead_120 (tgt := 208) (by decide) (fun c15 => ?_) (fun c15 => ?_)
          · replace h := h.1 c15
            refine r_aload_n (pc := 208) d_Md_ahead_208 (x := a) rfl ?_
            refine r_dup (pc := 209) d_Md_ahead_209 rfl ?_
            refine r_getI (pc := 210) d_Md_ahead_210 f_Md_151 sa rfl ?_
            refine r_iconst (pc := 213) d_Md_ahead_213 (v := 1) (by decide) ?_
            refine r_iadd (pc := 214) d_Md_ahead_214 ?_
            refine r_putI (pc := 215) d_Md_ahead_215 f_Md_151 sa rfl ?_
            refine r_aload_n (pc := 218) d_Md_ahead_218 (x := a) rfl ?_
            refine r_iload_n (pc := 219) d_Md_ahead_219 (x := x8) rfl ?_
            refine r_bipush (pc := 220) d_Md_ahead_220 (v := 59) (by decide) ?_
            refine r_icmp_eq (pc := 222) d_Md_ahead_222 (tgt := 243) (by decide) (fun c16 => ?_) (fun c16 => ?_)
            · replace h := h.1 c16
              refine r_iconst (pc := 243) d_Md_ahead_243 (v := 4) (by decide) ?_
              refine r_goto (pc := 244) d_Md_ahead_244 (tgt := 248) (by decide) ?_
              refine r_putI (pc := 248) d_Md_ahead_248 f_Md_163 sa rfl ?_
              exact r_return (pc := 251) d_Md_ahead_251 rfl rfl (Nat.le_refl _) ⟨rfl, rfl, h⟩
            · replace h := h.2 c16
              refine r_iload_n (pc := 225) d_Md_ahead_225 (x := x8) rfl ?_
              refine r_bipush (pc := 226) d_Md_ahead_226 (v := 60) (by decide) ?_
              refine r_icmp_eq (pc := 228) d_Md_ahead_228 (tgt := 243) (by decide) (fun c17 => ?_) (fun c17 => ?_)
              · replace h := h.1 c17
                refine r_iconst (pc := 243) d_Md_ahead_243 (v := 4) (by decide) ?_
                refine r_goto (pc := 244) d_Md_ahead_244 (tgt := 248) (by decide) ?_
                refine r_putI (pc := 248) d_Md_ahead_248 f_Md_163 sa rfl ?_
                exact r_return (pc := 251) d_Md_ahead_251 rfl rfl (Nat.le_refl _) ⟨rfl, rfl, h⟩
              · replace h := h.2 c17
                refine r_iload_n (pc := 231) d_Md_ahead_231 (x := x8) rfl ?_
                refine r_bipush (pc := 232) d_Md_ahead_232 (v := 62) (by decide) ?_
                refine r_icmp_eq (pc := 234) d_Md_ahead_234 (tgt := 243) (by decide) (fun c18 => ?_) (fun c18 => ?_)
                · replace h := h.1 c18
                  refine r_iconst (pc := 243) d_Md_ahead_243 (v := 4) (by decide) ?_
                  refine r_goto (pc := 244) d_Md_ahead_244 (tgt := 248) (by decide) ?_
                  refine r_putI (pc := 248) d_Md_ahead_248 f_Md_163 sa rfl ?_
                  exact r_return (pc := 251) d_Md_ahead_251 rfl rfl (Nat.le_refl _) ⟨rfl, rfl, h⟩
                · replace h := h.2 c18
                  refine r_iload_n (pc := 237) d_Md_ahead_237 (x := x8) rfl ?_
                  refine r_bipush (pc := 238) d_Md_ahead_238 (v := 61) (by decide) ?_
                  refine r_icmp_ne (pc := 240) d_Md_ahead_240 (tgt := 247) (by decide) (fun c19 => ?_) (fun c19 => ?_)
                  · replace h := h.1 c19
                    refine r_iconst (pc := 247) d_Md_ahead_247 (v := 1) (by decide) ?_
                    refine r_putI (pc := 248) d_Md_ahead_248 f_Md_163 sa rfl ?_
                    exact r_return (pc := 251) d_Md_ahead_251 rfl rfl (Nat.le_refl _) ⟨rfl, rfl, h⟩
                  · replace h := h.2 c19
                    refine r_iconst (pc := 243) d_Md_ahead_243 (v := 4) (by decide) ?_
                    refine r_goto (pc := 244) d_Md_ahead_244 (tgt := 248) (by decide) ?_
                    refine r_putI (pc := 248) d_Md_ahead_248 f_Md_163 sa rfl ?_
                    exact r_return (pc := 251) d_Md_ahead_251 rfl rfl (Nat.le_refl _) ⟨rfl, rfl, h⟩
          · replace h := h.2 c15
            refine r_aload_n (pc := 123) d_Md_ahead_123 (x := a) rfl ?_
            refine r_iconst (pc := 124) d_Md_ahead_124 (v := 0) (by decide) ?_
            refine r_putI (pc := 125) d_Md_ahead_125 f_Md_160 sa rfl ?_
            exact r_weak (ls2 := [.ref a, .null]) ⟨Or.inr rfl, Or.inl rfl, trivial⟩ h
        · replace h := h.2 c12
          exact r_weak (ls2 := [.ref a, .null]) ⟨Or.inr rfl, Or.inl rfl, trivial⟩ h
      · replace h := h.2 c9
        refine r_aload_n (pc := 66) d_Md_ahead_66 (x := a) rfl ?_
        refine r_iconst (pc := 67) d_Md_ahead_67 (v := 0) (by decide) ?_
        refine r_putI (pc := 68) d_Md_ahead_68 f_Md_163 sa rfl ?_
        refine r_goto (pc := 71) d_Md_ahead_71 (tgt := 251) (by decide) ?_
        exact r_return (pc := 251) d_Md_ahead_251 rfl rfl (Nat.le_refl _) ⟨rfl, rfl, h⟩
    · replace h := h.2 c6
      refine r_aload_n (pc := 26) d_Md_ahead_26 (x := a) rfl ?_
      refine r_dup (pc := 27) d_Md_ahead_27 rfl ?_
      refine r_getI (pc := 28) d_Md_ahead_28 f_Md_151 sa rfl ?_
      refine r_iconst (pc := 31) d_Md_ahead_31 (v := 1) (by decide) ?_
      refine r_iadd (pc := 32) d_Md_ahead_32 ?_
      refine r_putI (pc := 33) d_Md_ahead_33 f_Md_151 sa rfl ?_
      refine r_goto (pc := 36) d_Md_ahead_36 (tgt := 0) (by decide) ?_
      exact h
set_option maxRecDepth 4000 in
theorem s_Md_ahead_128 {l : Launch} {d : Nat} {sh : aw_SH} {S : aw_S} {P : aw_S → Prop} {a : Nat} (sa : sh[a]? = some (0, 11)) (h : Sp l m_Md_byteAt d 0 0 [.ref a, .int (S.1 a 14)] sh S (gI sh (fun x2 S1 => Sp l m_Md_isDigit d 0 0 [.int x2] sh S1 (gI sh (fun x4 S3 => ((x4 = 0 → ((((S3.1 a 14) - (S3.1 a 13)) ≤ 4 → P (aw_uI S3 a 12 3)) ∧ (¬ ((S3.1 a 14) - (S3.1 a 13)) ≤ 4 → P (aw_uI S3 a 12 1)))) ∧ (¬ x4 = 0 → Sp l m_Md_byteAt d 0 0 [.ref a, .int (S3.1 a 14)] sh S3 (gI sh (fun x8 S7 => Sp l m_Ma_min d 0 0 [.int 100000, .int ((((10 : Int32) * (S3.1 a 15)) + x8) - (48 : Int32))] sh S7 (gI sh (fun x10 S9 => AW l m_Md_ahead (d + 1) 0 0 (gV sh P) 0 0 128 [.ref a, .null] [] sh (aw_uI (aw_uI S9 a 15 x10) a 14 (((aw_uI S9 a 15 x10).1 a 14) + (1 : Int32)))))))))))))) : AW l m_Md_ahead (d + 1) 0 0 (gV sh P) 0 0 128 [.ref a, .null] [] sh S := by
  refine r_aload_n (pc := 128) d_Md_ahead_128 (x := a) rfl ?_
  refine r_aload_n (pc := 129) d_Md_ahead_129 (x := a) rfl ?_
  refine r_getI (pc := 130) d_Md_ahead_130 f_Md_151 sa rfl ?_
  refine r_callV (pc := 133) (k := a) (As := [.int (S.1 a 14)]) (rest := []) (mc' := 0) (ms' := 0) lk_Md_154 in_Md_byteAt se_Md_byteAt sa rfl d_Md_ahead_133 k_Md_byteAt rfl rfl (Nat.le_of_ble_eq_true rfl) (by decide) (by decide) (Sp.mono h ?_)
  rintro rS1 shS1 S1 ⟨qS1, x2, uS1, h⟩
  subst uS1
  rw [qS1]
  refine r_callS (pc := 136) (k := 0) (As := [.int x2]) (rest := []) (mc' := 0) (ms' := 0) lk_Md_169 st_Md_isDigit d_Md_ahead_136 k_Md_isDigit rfl rfl (Nat.le_of_ble_eq_true rfl) (by decide) (by decide) (Sp.mono h ?_)
  rintro rS3 shS3 S3 ⟨qS3, x4, uS3, h⟩
  subst uS3
  rw [qS3]
  refine r_if_eq (pc := 139) d_Md_ahead_139 (tgt := 183) (by decide) (fun c5 => ?_) (fun c5 => ?_)
  · replace h := h.1 c5
    refine r_aload_n (pc := 183) d_Md_ahead_183 (x := a) rfl ?_
    refine r_aload_n (pc := 184) d_Md_ahead_184 (x := a) rfl ?_
    refine r_getI (pc := 185) d_Md_ahead_185 f_Md_151 sa rfl ?_
    refine r_aload_n (pc := 188) d_Md_ahead_188 (x := a) rfl ?_
    refine r_getI (pc := 189) d_Md_ahead_189 f_Md_157 sa rfl ?_
    refine r_isub (pc := 192) d_Md_ahead_192 ?_
    refine r_iconst (pc := 193) d_Md_ahead_193 (v := 4) (by decide) ?_
    refine r_icmp_le (pc := 194) d_Md_ahead_194 (tgt := 201) (by decide) (fun c6 => ?_) (fun c6 => ?_)
    · replace h := h.1 c6
      refine r_iconst (pc := 201) d_Md_ahead_201 (v := 3) (by decide) ?_
      refine r_putI (pc := 202) d_Md_ahead_202 f_Md_163 sa rfl ?_
      refine r_goto (pc := 205) d_Md_ahead_205 (tgt := 251) (by decide) ?_
      exact r_return (pc := 251) d_Md_ahead_251 rfl rfl (Nat.le_refl _) ⟨rfl, rfl, h⟩
    · replace h := h.2 c6
      refine r_iconst (pc := 197) d_Md_ahead_197 (v := 1) (by decide) ?_
      refine r_goto (pc := 198) d_Md_ahead_198 (tgt := 202) (by decide) ?_
      refine r_putI (pc := 202) d_Md_ahead_202 f_Md_163 sa rfl ?_
      refine r_goto (pc := 205) d_Md_ahead_205 (tgt := 251) (by decide) ?_
      exact r_return (pc := 251) d_Md_ahead_251 rfl rfl (Nat.le_refl _) ⟨rfl, rfl, h⟩
  · replace h := h.2 c5
    refine r_aload_n (pc := 142) d_Md_ahead_142 (x := a) rfl ?_
    refine r_ldc (pc := 143) d_Md_ahead_143 cc_Md_172 ?_
    refine r_bipush (pc := 145) d_Md_ahead_145 (v := 10) (by decide) ?_
    refine r_aload_n (pc := 147) d_Md_ahead_147 (x := a) rfl ?_
    refine r_getI (pc := 148) d_Md_ahead_148 f_Md_160 sa rfl ?_
    refine r_imul (pc := 151) d_Md_ahead_151 ?_
    refine r_aload_n (pc := 152) d_Md_ahead_152 (x := a) rfl ?_
    refine r_aload_n (pc := 153) d_Md_ahead_153 (x := a) rfl ?_
    refine r_getI (pc := 154) d_Md_ahead_154 f_Md_151 sa rfl ?_
    refine r_callV (pc := 157) (k := a) (As := [.int (S3.1 a 14)]) (rest := [.int ((10 : Int32) * (S3.1 a 15)), .int 100000, .ref a]) (mc' := 0) (ms' := 0) lk_Md_154 in_Md_byteAt se_Md_byteAt sa rfl d_Md_ahead_157 k_Md_byteAt rfl rfl (Nat.le_of_ble_eq_true rfl) (by decide) (by decide) (Sp.mono h ?_)
    rintro rS7 shS7 S7 ⟨qS7, x8, uS7, h⟩
    subst uS7
    rw [qS7]
    refine r_iadd (pc := 160) d_Md_ahead_160 ?_
    refine r_bipush (pc := 161) d_Md_ahead_161 (v := 48) (by decide) ?_
    refine r_isub (pc := 163) d_Md_ahead_163 ?_
    refine r_callS (pc := 164) (k := 0) (As := [.int 100000, .int ((((10 : Int32) * (S3.1 a 15)) + x8) - (48 : Int32))]) (rest := [.ref a]) (mc' := 0) (ms' := 0) lk_Md_173 st_Ma_min d_Md_ahead_164 k_Ma_min rfl rfl (Nat.le_of_ble_eq_true rfl) (by decide) (by decide) (Sp.mono h ?_)
    rintro rS9 shS9 S9 ⟨qS9, x10, uS9, h⟩
    subst uS9
    rw [qS9]
    refine r_putI (pc := 167) d_Md_ahead_167 f_Md_160 sa rfl ?_
    refine r_aload_n (pc := 170) d_Md_ahead_170 (x := a) rfl ?_
    refine r_dup (pc := 171) d_Md_ahead_171 rfl ?_
    refine r_getI (pc := 172) d_Md_ahead_172 f_Md_151 sa rfl ?_
    refine r_iconst (pc := 175) d_Md_ahead_175 (v := 1) (by decide) ?_
    refine r_iadd (pc := 176) d_Md_ahead_176 ?_
    refine r_putI (pc := 177) d_Md_ahead_177 f_Md_151 sa rfl ?_
    refine r_goto (pc := 180) d_Md_ahead_180 (tgt := 128) (by decide) ?_
    exact h
set_option maxRecDepth 4000 in
theorem s_Md_ahead_81 {l : Launch} {d : Nat} {sh : aw_SH} {S : aw_S} {P : aw_S → Prop} {a : Nat} (sa : sh[a]? = some (0, 11)) (h : Sp l m_Md_byteAt d 0 0 [.ref a, .int (S.1 a 14)] sh S (gI sh (fun x2 S1 => Sp l m_Md_isSmall d 0 0 [.int x2] sh S1 (gI sh (fun x4 S3 => ((x4 = 0 → P (aw_uI S3 a 12 2)) ∧ (¬ x4 = 0 → AW l m_Md_ahead (d + 1) 0 0 (gV sh P) 0 0 81 [.ref a, .null] [] sh (aw_uI S3 a 14 ((S3.1 a 14) + (1 : Int32)))))))))) : AW l m_Md_ahead (d + 1) 0 0 (gV sh P) 0 0 81 [.ref a, .null] [] sh S := by
  refine r_aload_n (pc := 81) d_Md_ahead_81 (x := a) rfl ?_
  refine r_aload_n (pc := 82) d_Md_ahead_82 (x := a) rfl ?_
  refine r_getI (pc := 83) d_Md_ahead_83 f_Md_151 sa rfl ?_
  refine r_callV (pc := 86) (k := a) (As := [.int (S.1 a 14)]) (rest := []) (mc' := 0) (ms' := 0) lk_Md_154 in_Md_byteAt se_Md_byteAt sa rfl d_Md_ahead_86 k_Md_byteAt rfl rfl (Nat.le_of_ble_eq_true rfl) (by decide) (by decide) (Sp.mono h ?_)
  rintro rS1 shS1 S1 ⟨qS1, x2, uS1, h⟩
  subst uS1
  rw [qS1]
  refine r_callS (pc := 89) (k := 0) (As := [.int x2]) (rest := []) (mc' := 0) (ms' := 0) lk_Md_166 st_Md_isSmall d_Md_ahead_89 k_Md_isSmall rfl rfl (Nat.le_of_ble_eq_true rfl) (by decide) (by decide) (Sp.mono h ?_)
  rintro rS3 shS3 S3 ⟨qS3, x4, uS3, h⟩
  subst uS3
  rw [qS3]
  refine r_if_eq (pc := 92) d_Md_ahead_92 (tgt := 108) (by decide) (fun c5 => ?_) (fun c5 => ?_)
  · replace h := h.1 c5
    refine r_aload_n (pc := 108) d_Md_ahead_108 (x := a) rfl ?_
    refine r_iconst (pc := 109) d_Md_ahead_109 (v := 2) (by decide) ?_
    refine r_putI (pc := 110) d_Md_ahead_110 f_Md_163 sa rfl ?_
    refine r_goto (pc := 113) d_Md_ahead_113 (tgt := 251) (by decide) ?_
    exact r_return (pc := 251) d_Md_ahead_251 rfl rfl (Nat.le_refl _) ⟨rfl, rfl, h⟩
  · replace h := h.2 c5
    refine r_aload_n (pc := 95) d_Md_ahead_95 (x := a) rfl ?_
    refine r_dup (pc := 96) d_Md_ahead_96 rfl ?_
    refine r_getI (pc := 97) d_Md_ahead_97 f_Md_151 sa rfl ?_
    refine r_iconst (pc := 100) d_Md_ahead_100 (v := 1) (by decide) ?_
    refine r_iadd (pc := 101) d_Md_ahead_101 ?_
    refine r_putI (pc := 102) d_Md_ahead_102 f_Md_151 sa rfl ?_
    refine r_goto (pc := 105) d_Md_ahead_105 (tgt := 81) (by decide) ?_
    exact h
set_option maxRecDepth 4000 in
theorem e_Md_byteAt {l : Launch} {d : Nat} {sh : aw_SH} {S : aw_S} {P : Int32 → aw_S → Prop} {a : Nat} {p0 : Int32} (sa : sh[a]? = some (0, 11)) (h : (((S.1 a 11) ≤ p0 → P (-1) S) ∧ (¬ (S.1 a 11) ≤ p0 → ∃ r2, S.2.2 a 9 = some r2 ∧ ∃ n4, sh[r2]? = some (1, n4) ∧ vp_in p0 n4 ∧ P ((S.1 r2 p0.toNatClampNeg) &&& (255 : Int32)) S))) : Sp l m_Md_byteAt (d + 1) 0 0 [.ref a, .int p0] sh S (gI sh P) := by
  refine Sp.of k_Md_byteAt (ls := [.ref a, .int p0]) rfl (Nat.le_of_ble_eq_true rfl) ?_
  refine r_iload_n (pc := 0) d_Md_byteAt_0 (x := p0) rfl ?_
  refine r_aload_n (pc := 1) d_Md_byteAt_1 (x := a) rfl ?_
  refine r_getI (pc := 2) d_Md_byteAt_2 f_Md_148 sa rfl ?_
  refine r_icmp_ge (pc := 5) d_Md_byteAt_5 (tgt := 21) (by decide) (fun c1 => ?_) (fun c1 => ?_)
  · replace h := h.1 c1
    refine r_iconst (pc := 21) d_Md_byteAt_21 (v := (-1)) (by decide) ?_
    exact r_ireturn (pc := 22) d_Md_byteAt_22 rfl rfl (Nat.le_refl _) ⟨rfl, _, rfl, h⟩
  · replace h := h.2 c1
    refine r_aload_n (pc := 8) d_Md_byteAt_8 (x := a) rfl ?_
    obtain ⟨r2, er2, h⟩ := h
    refine r_getR (pc := 9) d_Md_byteAt_9 f_Md_34 sa (Or.inr ⟨_, rfl⟩) (r := r2) er2 ?_
    refine r_iload_n (pc := 12) d_Md_byteAt_12 (x := p0) rfl ?_
    obtain ⟨n4, s3, h⟩ := h
    obtain ⟨g5, h⟩ := h
    refine r_bald (pc := 13) d_Md_byteAt_13 s3 g5 ?_
    refine r_sipush (pc := 14) d_Md_byteAt_14 (v := 255) (by decide) ?_
    refine r_iand (pc := 17) d_Md_byteAt_17 ?_
    refine r_goto (pc := 18) d_Md_byteAt_18 (tgt := 22) (by decide) ?_
    exact r_ireturn (pc := 22) d_Md_byteAt_22 rfl rfl (Nat.le_refl _) ⟨rfl, _, rfl, h⟩
set_option maxRecDepth 4000 in
theorem e_Md_isSmall {l : Launch} {d : Nat} {sh : aw_SH} {S : aw_S} {P : Int32 → aw_S → Prop} {p0 : Int32} (h : ((p0 < 97 → P 0 S) ∧ (¬ p0 < 97 → ((122 < p0 → P 0 S) ∧ (¬ 122 < p0 → P 1 S))))) : Sp l m_Md_isSmall (d + 1) 0 0 [.int p0] sh S (gI sh P) := by
  refine Sp.of k_Md_isSmall (ls := [.int p0]) rfl (Nat.le_of_ble_eq_true rfl) ?_
  refine r_iload_n (pc := 0) d_Md_isSmall_0 (x := p0) rfl ?_
  refine r_bipush (pc := 1) d_Md_isSmall_1 (v := 97) (by decide) ?_
  refine r_icmp_lt (pc := 3) d_Md_isSmall_3 (tgt := 16) (by decide) (fun c1 => ?_) (fun c1 => ?_)
  · replace h := h.1 c1
    refine r_iconst (pc := 16) d_Md_isSmall_16 (v := 0) (by decide) ?_
    exact r_zreturn (pc := 17) d_Md_isSmall_17 (v := 0) rfl (by decide) rfl (Nat.le_refl _) ⟨rfl, _, rfl, h⟩
  · replace h := h.2 c1
    refine r_iload_n (pc := 6) d_Md_isSmall_6 (x := p0) rfl ?_
    refine r_bipush (pc := 7) d_Md_isSmall_7 (v := 122) (by decide) ?_
    refine r_icmp_gt (pc := 9) d_Md_isSmall_9 (tgt := 16) (by decide) (fun c2 => ?_) (fun c2 => ?_)
    · replace h := h.1 c2
      refine r_iconst (pc := 16) d_Md_isSmall_16 (v := 0) (by decide) ?_
      exact r_zreturn (pc := 17) d_Md_isSmall_17 (v := 0) rfl (by decide) rfl (Nat.le_refl _) ⟨rfl, _, rfl, h⟩
    · replace h := h.2 c2
      refine r_iconst (pc := 12) d_Md_isSmall_12 (v := 1) (by decide) ?_
      refine r_goto (pc := 13) d_Md_isSmall_13 (tgt := 17) (by decide) ?_
      exact r_zreturn (pc := 17) d_Md_isSmall_17 (v := 1) rfl (by decide) rfl (Nat.le_refl _) ⟨rfl, _, rfl, h⟩
set_option maxRecDepth 4000 in
theorem e_Md_isDigit {l : Launch} {d : Nat} {sh : aw_SH} {S : aw_S} {P : Int32 → aw_S → Prop} {p0 : Int32} (h : ((p0 < 48 → P 0 S) ∧ (¬ p0 < 48 → ((57 < p0 → P 0 S) ∧ (¬ 57 < p0 → P 1 S))))) : Sp l m_Md_isDigit (d + 1) 0 0 [.int p0] sh S (gI sh P) := by
  refine Sp.of k_Md_isDigit (ls := [.int p0]) rfl (Nat.le_of_ble_eq_true rfl) ?_
  refine r_iload_n (pc := 0) d_Md_isDigit_0 (x := p0) rfl ?_
  refine r_bipush (pc := 1) d_Md_isDigit_1 (v := 48) (by decide) ?_
  refine r_icmp_lt (pc := 3) d_Md_isDigit_3 (tgt := 16) (by decide) (fun c1 => ?_) (fun c1 => ?_)
  · replace h := h.1 c1
    refine r_iconst (pc := 16) d_Md_isDigit_16 (v := 0) (by decide) ?_
    exact r_zreturn (pc := 17) d_Md_isDigit_17 (v := 0) rfl (by decide) rfl (Nat.le_refl _) ⟨rfl, _, rfl, h⟩
  · replace h := h.2 c1
    refine r_iload_n (pc := 6) d_Md_isDigit_6 (x := p0) rfl ?_
    refine r_bipush (pc := 7) d_Md_isDigit_7 (v := 57) (by decide) ?_
    refine r_icmp_gt (pc := 9) d_Md_isDigit_9 (tgt := 16) (by decide) (fun c2 => ?_) (fun c2 => ?_)
    · replace h := h.1 c2
      refine r_iconst (pc := 16) d_Md_isDigit_16 (v := 0) (by decide) ?_
      exact r_zreturn (pc := 17) d_Md_isDigit_17 (v := 0) rfl (by decide) rfl (Nat.le_refl _) ⟨rfl, _, rfl, h⟩
    · replace h := h.2 c2
      refine r_iconst (pc := 12) d_Md_isDigit_12 (v := 1) (by decide) ?_
      refine r_goto (pc := 13) d_Md_isDigit_13 (tgt := 17) (by decide) ?_
      exact r_zreturn (pc := 17) d_Md_isDigit_17 (v := 1) rfl (by decide) rfl (Nat.le_refl _) ⟨rfl, _, rfl, h⟩
set_option maxRecDepth 4000 in
theorem e_Md_refuse {l : Launch} {d : Nat} {sh : aw_SH} {S : aw_S} {P : Int32 → aw_S → Prop} {a : Nat} {p0 : Int32} (sa : sh[a]? = some (0, 11)) (h : P (-1) (aw_uI S a 2 p0)) : Sp l m_Md_refuse (d + 1) 0 0 [.ref a, .int p0] sh S (gI sh P) := by
  refine Sp.of k_Md_refuse (ls := [.ref a, .int p0]) rfl (Nat.le_of_ble_eq_true rfl) ?_
  refine r_aload_n (pc := 0) d_Md_refuse_0 (x := a) rfl ?_
  refine r_iload_n (pc := 1) d_Md_refuse_1 (x := p0) rfl ?_
  refine r_putI (pc := 2) d_Md_refuse_2 f_Md_112 sa rfl ?_
  refine r_iconst (pc := 5) d_Md_refuse_5 (v := (-1)) (by decide) ?_
  exact r_ireturn (pc := 6) d_Md_refuse_6 rfl rfl (Nat.le_refl _) ⟨rfl, _, rfl, h⟩
set_option maxRecDepth 4000 in
theorem e_Md_greenPart {l : Launch} {d : Nat} {sh : aw_SH} {S : aw_S} {P : Int32 → aw_S → Prop} {a : Nat} (sa : sh[a]? = some (0, 11)) (h : Sp l m_Md_inWords d 0 0 [.ref a, .float 2] sh S (gI sh (fun x2 S1 => ((x2 < 0 → Sp l m_Md_fails d 0 0 [.ref a, .int 2] sh S1 (gI sh (fun x5 S4 => ((x5 = 0 ∨ x5 = 1) ∧ P x5 S4)))) ∧ (¬ x2 < 0 → ((x2 ≤ 3 → ((1 < x2 → ((¬ x2 = 1 → AW l m_Md_greenPart (d + 1) 0 0 (gI sh P) 0 0 62 [.ref a, .int x2, .null] [] sh S1) ∧ (x2 = 1 → Sp l m_Md_isIn d 0 0 [.ref a, .int (S1.1 a 20), .int 3] sh S1 (gI sh (fun x11 S10 => ((x11 = 0 → AW l m_Md_greenPart (d + 1) 0 0 (gI sh P) 0 0 62 [.ref a, .int x2, .null] [] sh S10) ∧ (¬ x11 = 0 → Sp l m_Md_fails d 0 0 [.ref a, .int 5] sh S10 (gI sh (fun x14 S13 => ((x14 = 0 ∨ x14 = 1) ∧ P x14 S13)))))))))) ∧ (¬ 1 < x2 → Sp l m_Md_isIn d 0 0 [.ref a, .int (S1.1 a 20), .int x2] sh S1 (gI sh (fun x17 S16 => ((¬ x17 = 0 → Sp l m_Md_fails d 0 0 [.ref a, .int 5] sh S16 (gI sh (fun x20 S19 => ((x20 = 0 ∨ x20 = 1) ∧ P x20 S19)))) ∧ (x17 = 0 → ((¬ x2 = 1 → AW l m_Md_greenPart (d + 1) 0 0 (gI sh P) 0 0 62 [.ref a, .int x2, .null] [] sh S16) ∧ (x2 = 1 → Sp l m_Md_isIn d 0 0 [.ref a, .int (S16.1 a 20), .int 3] sh S16 (gI sh (fun x24 S23 => ((x24 = 0 → AW l m_Md_greenPart (d + 1) 0 0 (gI sh P) 0 0 62 [.ref a, .int x2, .null] [] sh S23) ∧ (¬ x24 = 0 → Sp l m_Md_fails d 0 0 [.ref a, .int 5] sh S23 (gI sh (fun x27 S26 => ((x27 = 0 ∨ x27 = 1) ∧ P x27 S26)))))))))))))))) ∧ (¬ x2 ≤ 3 → Sp l m_Md_fails d 0 0 [.ref a, .int 2] sh S1 (gI sh (fun x30 S29 => ((x30 = 0 ∨ x30 = 1) ∧ P x30 S29)))))))))) : Sp l m_Md_greenPart (d + 1) 0 0 [.ref a] sh S (gI sh P) := by
  refine Sp.of k_Md_greenPart (ls := [.ref a, .null, .null]) rfl (Nat.le_of_ble_eq_true rfl) ?_
  refine r_aload_n (pc := 0) d_Md_greenPart_0 (x := a) rfl ?_
  refine r_ldcS (pc := 1) d_Md_greenPart_1 (w := 2) (by decide) ?_
  refine r_callV (pc := 3) (k := a) (As := [.float 2]) (rest := []) (mc' := 0) (ms' := 0) lk_Md_203 in_Md_inWords se_Md_inWords sa rfl d_Md_greenPart_3 k_Md_inWords rfl rfl (Nat.le_of_ble_eq_true rfl) (by decide) (by decide) (Sp.mono h ?_)
  rintro rS1 shS1 S1 ⟨qS1, x2, uS1, h⟩
  subst uS1
  rw [qS1]
  refine r_istore_n (pc := 6) (hk := rfl) (hd := d_Md_greenPart_6) (hi := by decide) (ls2 := [.ref a, .int x2, .null]) (h2 := rfl) ?_
  refine r_iload_n (pc := 7) d_Md_greenPart_7 (x := x2) rfl ?_
  refine r_if_lt (pc := 8) d_Md_greenPart_8 (tgt := 16) (by decide) (fun c3 => ?_) (fun c3 => ?_)
  · replace h := h.1 c3
    refine r_aload_n (pc := 16) d_Md_greenPart_16 (x := a) rfl ?_
    refine r_iconst (pc := 17) d_Md_greenPart_17 (v := 2) (by decide) ?_
    refine r_callV (pc := 18) (k := a) (As := [.int 2]) (rest := []) (mc' := 0) (ms' := 0) lk_Md_200 in_Md_fails se_Md_fails sa rfl d_Md_greenPart_18 k_Md_fails rfl rfl (Nat.le_of_ble_eq_true rfl) (by decide) (by decide) (Sp.mono h ?_)
    rintro rS4 shS4 S4 ⟨qS4, x5, uS4, h⟩
    subst uS4
    rw [qS4]
    obtain ⟨g6, h⟩ := h
    exact r_zreturn (pc := 21) d_Md_greenPart_21 rfl (aw_nb g6) rfl (Nat.le_refl _) ⟨rfl, _, rfl, h⟩
  · replace h := h.2 c3
    refine r_iload_n (pc := 11) d_Md_greenPart_11 (x := x2) rfl ?_
    refine r_iconst (pc := 12) d_Md_greenPart_12 (v := 3) (by decide) ?_
    refine r_icmp_le (pc := 13) d_Md_greenPart_13 (tgt := 22) (by decide) (fun c7 => ?_) (fun c7 => ?_)
    · replace h := h.1 c7
      refine r_iload_n (pc := 22) d_Md_greenPart_22 (x := x2) rfl ?_
      refine r_iconst (pc := 23) d_Md_greenPart_23 (v := 1) (by decide) ?_
      refine r_icmp_gt (pc := 24) d_Md_greenPart_24 (tgt := 39) (by decide) (fun c8 => ?_) (fun c8 => ?_)
      · replace h := h.1 c8
        refine r_iload_n (pc := 39) d_Md_greenPart_39 (x := x2) rfl ?_
        refine r_iconst (pc := 40) d_Md_greenPart_40 (v := 1) (by decide) ?_
        refine r_icmp_ne (pc := 41) d_Md_greenPart_41 (tgt := 62) (by decide) (fun c9 => ?_) (fun c9 => ?_)
        · replace h := h.1 c9
          exact h
        · replace h := h.2 c9
          refine r_aload_n (pc := 44) d_Md_greenPart_44 (x := a) rfl ?_
          refine r_aload_n (pc := 45) d_Md_greenPart_45 (x := a) rfl ?_
          refine r_getI (pc := 46) d_Md_greenPart_46 f_Md_238 sa rfl ?_
          refine r_iconst (pc := 49) d_Md_greenPart_49 (v := 3) (by decide) ?_
          refine r_callV (pc := 50) (k := a) (As := [.int (S1.1 a 20), .int 3]) (rest := []) (mc' := 0) (ms' := 0) lk_Md_241 in_Md_isIn se_Md_isIn sa rfl d_Md_greenPart_50 k_Md_isIn rfl rfl (Nat.le_of_ble_eq_true rfl) (by decide) (by decide) (Sp.mono h ?_)
          rintro rS10 shS10 S10 ⟨qS10, x11, uS10, h⟩
          subst uS10
          rw [qS10]
          refine r_if_eq (pc := 53) d_Md_greenPart_53 (tgt := 62) (by decide) (fun c12 => ?_) (fun c12 => ?_)
          · replace h := h.1 c12
            exact h
          · replace h := h.2 c12
            refine r_aload_n (pc := 56) d_Md_greenPart_56 (x := a) rfl ?_
            refine r_iconst (pc := 57) d_Md_greenPart_57 (v := 5) (by decide) ?_
            refine r_callV (pc := 58) (k := a) (As := [.int 5]) (rest := []) (mc' := 0) (ms' := 0) lk_Md_200 in_Md_fails se_Md_fails sa rfl d_Md_greenPart_58 k_Md_fails rfl rfl (Nat.le_of_ble_eq_true rfl) (by decide) (by decide) (Sp.mono h ?_)
            rintro rS13 shS13 S13 ⟨qS13, x14, uS13, h⟩
            subst uS13
            rw [qS13]
            obtain ⟨g15, h⟩ := h
            exact r_zreturn (pc := 61) d_Md_greenPart_61 rfl (aw_nb g15) rfl (Nat.le_refl _) ⟨rfl, _, rfl, h⟩
      · replace h := h.2 c8
        refine r_aload_n (pc := 27) d_Md_greenPart_27 (x := a) rfl ?_
        refine r_aload_n (pc := 28) d_Md_greenPart_28 (x := a) rfl ?_
        refine r_getI (pc := 29) d_Md_greenPart_29 f_Md_238 sa rfl ?_
        refine r_iload_n (pc := 32) d_Md_greenPart_32 (x := x2) rfl ?_
        refine r_callV (pc := 33) (k := a) (As := [.int (S1.1 a 20), .int x2]) (rest := []) (mc' := 0) (ms' := 0) lk_Md_241 in_Md_isIn se_Md_isIn sa rfl d_Md_greenPart_33 k_Md_isIn rfl rfl (Nat.le_of_ble_eq_true rfl) (by decide) (by decide) (Sp.mono h ?_)
        rintro rS16 shS16 S16 ⟨qS16, x17, uS16, h⟩
        subst uS16
        rw [qS16]
        refine r_if_ne (pc := 36) d_Md_greenPart_36 (tgt := 56) (by decide) (fun c18 => ?_) (fun c18 => ?_)
        · replace h := h.1 c18
          refine r_aload_n (pc := 56) d_Md_greenPart_56 (x := a) rfl ?_
          refine r_iconst (pc := 57) d_Md_greenPart_57 (v := 5) (by decide) ?_
          refine r_callV (pc := 58) (k := a) (As := [.int 5]) (rest := []) (mc' := 0) (ms' := 0) lk_Md_200 in_Md_fails se_Md_fails sa rfl d_Md_greenPart_58 k_Md_fails rfl rfl (Nat.le_of_ble_eq_true rfl) (by decide) (by decide) (Sp.mono h ?_)
          rintro rS19 shS19 S19 ⟨qS19, x20, uS19, h⟩
          subst uS19
          rw [qS19]
          obtain ⟨g21, h⟩ := h
          exact r_zreturn (pc := 61) d_Md_greenPart_61 rfl (aw_nb g21) rfl (Nat.le_refl _) ⟨rfl, _, rfl, h⟩
        · replace h := h.2 c18
          refine r_iload_n (pc := 39) d_Md_greenPart_39 (x := x2) rfl ?_
          refine r_iconst (pc := 40) d_Md_greenPart_40 (v := 1) (by decide) ?_
          refine r_icmp_ne (pc := 41) d_Md_greenPart_41 (tgt := 62) (by decide) (fun c22 => ?_) (fun c22 => ?_)
          · replace h := h.1 c22
            exact h
          · replace h := h.2 c22
            refine r_aload_n (pc := 44) d_Md_greenPart_44 (x := a) rfl ?_
            refine r_aload_n (pc := 45) d_Md_greenPart_45 (x := a) rfl ?_
            refine r_getI (pc := 46) d_Md_greenPart_46 f_Md_238 sa rfl ?_
            refine r_iconst (pc := 49) d_Md_greenPart_49 (v := 3) (by decide) ?_
            refine r_callV (pc := 50) (k := a) (As := [.int (S16.1 a 20), .int 3]) (rest := []) (mc' := 0) (ms' := 0) lk_Md_241 in_Md_isIn se_Md_isIn sa rfl d_Md_greenPart_50 k_Md_isIn rfl rfl (Nat.le_of_ble_eq_true rfl) (by decide) (by decide) (Sp.mono h ?_)
            rintro rS23 shS23 S23 ⟨qS23, x24, uS23, h⟩
            subst uS23
            rw [qS23]
            refine r_if_eq (pc := 53) d_Md_greenPart_53 (tgt := 62) (by decide) (fun c25 => ?_) (fun c25 => ?_)
            · replace h := h.1 c25
              exact h
            · replace h := h.2 c25
              refine r_aload_n (pc := 56) d_Md_greenPart_56 (x := a) rfl ?_
              refine r_iconst (pc := 57) d_Md_greenPart_57 (v := 5) (by decide) ?_
              refine r_callV (pc := 58) (k := a) (As := [.int 5]) (rest := []) (mc' := 0) (ms' := 0) lk_Md_200 in_Md_fails se_Md_fails sa rfl d_Md_greenPart_58 k_Md_fails rfl rfl (Nat.le_of_ble_eq_true rfl) (by decide) (by decide) (Sp.mono h ?_)
              rintro rS26 shS26 S26 ⟨qS26, x27, uS26, h⟩
              subst uS26
              rw [qS26]
              obtain ⟨g28, h⟩ := h
              exact r_zreturn (pc := 61) d_Md_greenPart_61 rfl (aw_nb g28) rfl (Nat.le_refl _) ⟨rfl, _, rfl, h⟩
    · replace h := h.2 c7
      refine r_aload_n (pc := 16) d_Md_greenPart_16 (x := a) rfl ?_
      refine r_iconst (pc := 17) d_Md_greenPart_17 (v := 2) (by decide) ?_
      refine r_callV (pc := 18) (k := a) (As := [.int 2]) (rest := []) (mc' := 0) (ms' := 0) lk_Md_200 in_Md_fails se_Md_fails sa rfl d_Md_greenPart_18 k_Md_fails rfl rfl (Nat.le_of_ble_eq_true rfl) (by decide) (by decide) (Sp.mono h ?_)
      rintro rS29 shS29 S29 ⟨qS29, x30, uS29, h⟩
      subst uS29
      rw [qS29]
      obtain ⟨g31, h⟩ := h
      exact r_zreturn (pc := 21) d_Md_greenPart_21 rfl (aw_nb g31) rfl (Nat.le_refl _) ⟨rfl, _, rfl, h⟩
set_option maxRecDepth 4000 in
theorem s_Md_greenPart_62 {l : Launch} {d : Nat} {sh : aw_SH} {S : aw_S} {P : Int32 → aw_S → Prop} {a : Nat} {i1 : Int32} (sa : sh[a]? = some (0, 11)) (h : ((¬ i1 = 2 → ((¬ i1 = 3 → Sp l m_Md_ahead d 0 0 [.ref a] sh (aw_uI S a 20 ((S.1 a 20) ||| ((1 : Int32) <<< (i1 &&& 31)))) (gV sh (fun S3 => ((¬ i1 = 0 → Sp l m_Md_number d 0 0 [.ref a, .int 2210, .int 1, .int 40] sh S3 (gI sh (fun x6 S5 => ((x6 = 0 → P 0 S5) ∧ (¬ x6 = 0 → Sp l m_Md_wantSign d 0 0 [.ref a, .int 59] sh S5 (gI sh (fun x9 S8 => ((x9 = 0 → P 0 S8) ∧ (¬ x9 = 0 → P 1 S8))))))))) ∧ (i1 = 0 → Sp l m_Md_number d 0 0 [.ref a, .int 2209, .int 0, .int 16] sh S3 (gI sh (fun x12 S11 => ((x12 = 0 → P 0 S11) ∧ (¬ x12 = 0 → Sp l m_Md_wantSign d 0 0 [.ref a, .int 59] sh S11 (gI sh (fun x15 S14 => ((x15 = 0 → P 0 S14) ∧ (¬ x15 = 0 → P 1 S14))))))))))))) ∧ (i1 = 3 → Sp l m_Md_aPass d 0 0 [.ref a] sh (aw_uI S a 20 ((S.1 a 20) ||| ((1 : Int32) <<< (i1 &&& 31)))) (gI sh (fun x18 S17 => ((x18 = 0 → P 0 S17) ∧ (¬ x18 = 0 → Sp l m_Md_wantSign d 0 0 [.ref a, .int 59] sh S17 (gI sh (fun x21 S20 => ((x21 = 0 → P 0 S20) ∧ (¬ x21 = 0 → P 1 S20))))))))))) ∧ (i1 = 2 → Sp l m_Md_aDancer d 0 0 [.ref a] sh S (gI sh (fun x24 S23 => ((x24 = 0 → P 0 S23) ∧ (¬ x24 = 0 → Sp l m_Md_wantSign d 0 0 [.ref a, .int 59] sh S23 (gI sh (fun x27 S26 => ((x27 = 0 → P 0 S26) ∧ (¬ x27 = 0 → P 1 S26))))))))))) : AW l m_Md_greenPart (d + 1) 0 0 (gI sh P) 0 0 62 [.ref a, .int i1, .null] [] sh S := by
  refine r_iload_n (pc := 62) d_Md_greenPart_62 (x := i1) rfl ?_
  refine r_iconst (pc := 63) d_Md_greenPart_63 (v := 2) (by decide) ?_
  refine r_icmp_ne (pc := 64) d_Md_greenPart_64 (tgt := 89) (by decide) (fun c1 => ?_) (fun c1 => ?_)
  · replace h := h.1 c1
    refine r_aload_n (pc := 89) d_Md_greenPart_89 (x := a) rfl ?_
    refine r_dup (pc := 90) d_Md_greenPart_90 rfl ?_
    refine r_getI (pc := 91) d_Md_greenPart_91 f_Md_238 sa rfl ?_
    refine r_iconst (pc := 94) d_Md_greenPart_94 (v := 1) (by decide) ?_
    refine r_iload_n (pc := 95) d_Md_greenPart_95 (x := i1) rfl ?_
    refine r_ishl (pc := 96) d_Md_greenPart_96 ?_
    refine r_ior (pc := 97) d_Md_greenPart_97 ?_
    refine r_putI (pc := 98) d_Md_greenPart_98 f_Md_238 sa rfl ?_
    refine r_iload_n (pc := 101) d_Md_greenPart_101 (x := i1) rfl ?_
    refine r_iconst (pc := 102) d_Md_greenPart_102 (v := 3) (by decide) ?_
    refine r_icmp_ne (pc := 103) d_Md_greenPart_103 (tgt := 128) (by decide) (fun c2 => ?_) (fun c2 => ?_)
    · replace h := h.1 c2
      refine r_aload_n (pc := 128) d_Md_greenPart_128 (x := a) rfl ?_
      refine r_callV (pc := 129) (k := a) (As := []) (rest := []) (mc' := 0) (ms' := 0) lk_Md_194 in_Md_ahead se_Md_ahead sa rfl d_Md_greenPart_129 k_Md_ahead rfl rfl (Nat.le_of_ble_eq_true rfl) (by decide) (by decide) (Sp.mono h ?_)
      rintro rS3 shS3 S3 ⟨qS3, uS3, h⟩
      subst uS3
      rw [qS3]
      refine r_iload_n (pc := 132) d_Md_greenPart_132 (x := i1) rfl ?_
      refine r_if_ne (pc := 133) d_Md_greenPart_133 (tgt := 149) (by decide) (fun c4 => ?_) (fun c4 => ?_)
      · replace h := h.1 c4
        refine r_aload_n (pc := 149) d_Md_greenPart_149 (x := a) rfl ?_
        refine r_sipush (pc := 150) d_Md_greenPart_150 (v := 2210) (by decide) ?_
        refine r_iconst (pc := 153) d_Md_greenPart_153 (v := 1) (by decide) ?_
        refine r_bipush (pc := 154) d_Md_greenPart_154 (v := 40) (by decide) ?_
        refine r_callV (pc := 156) (k := a) (As := [.int 2210, .int 1, .int 40]) (rest := []) (mc' := 0) (ms' := 0) lk_Md_257 in_Md_number se_Md_number sa rfl d_Md_greenPart_156 k_Md_number rfl rfl (Nat.le_of_ble_eq_true rfl) (by decide) (by decide) (Sp.mono h ?_)
        rintro rS5 shS5 S5 ⟨qS5, x6, uS5, h⟩
        subst uS5
        rw [qS5]
        refine r_istore_n (pc := 159) (hk := rfl) (hd := d_Md_greenPart_159) (hi := by decide) (ls2 := [.ref a, .int i1, .int x6]) (h2 := rfl) ?_
        refine r_iload_n (pc := 160) d_Md_greenPart_160 (x := x6) rfl ?_
        refine r_if_eq (pc := 161) d_Md_greenPart_161 (tgt := 177) (by decide) (fun c7 => ?_) (fun c7 => ?_)
        · replace h := h.1 c7
          refine r_iconst (pc := 177) d_Md_greenPart_177 (v := 0) (by decide) ?_
          exact r_zreturn (pc := 178) d_Md_greenPart_178 (v := 0) rfl (by decide) rfl (Nat.le_refl _) ⟨rfl, _, rfl, h⟩
        · replace h := h.2 c7
          refine r_aload_n (pc := 164) d_Md_greenPart_164 (x := a) rfl ?_
          refine r_bipush (pc := 165) d_Md_greenPart_165 (v := 59) (by decide) ?_
          refine r_callV (pc := 167) (k := a) (As := [.int 59]) (rest := []) (mc' := 0) (ms' := 0) lk_Md_277 in_Md_wantSign se_Md_wantSign sa rfl d_Md_greenPart_167 k_Md_wantSign rfl rfl (Nat.le_of_ble_eq_true rfl) (by decide) (by decide) (Sp.mono h ?_)
          rintro rS8 shS8 S8 ⟨qS8, x9, uS8, h⟩
          subst uS8
          rw [qS8]
          refine r_if_eq (pc := 170) d_Md_greenPart_170 (tgt := 177) (by decide) (fun c10 => ?_) (fun c10 => ?_)
          · replace h := h.1 c10
            refine r_iconst (pc := 177) d_Md_greenPart_177 (v := 0) (by decide) ?_
            exact r_zreturn (pc := 178) d_Md_greenPart_178 (v := 0) rfl (by decide) rfl (Nat.le_refl _) ⟨rfl, _, rfl, h⟩
          · replace h := h.2 c10
            refine r_iconst (pc := 173) d_Md_greenPart_173 (v := 1) (by decide) ?_
            refine r_goto (pc := 174) d_Md_greenPart_174 (tgt := 178) (by decide) ?_
            exact r_zreturn (pc := 178) d_Md_greenPart_178 (v := 1) rfl (by decide) rfl (Nat.le_refl _) ⟨rfl, _, rfl, h⟩
      · replace h := h.2 c4
        refine r_aload_n (pc := 136) d_Md_greenPart_136 (x := a) rfl ?_
        refine r_sipush (pc := 137) d_Md_greenPart_137 (v := 2209) (by decide) ?_
        refine r_iconst (pc := 140) d_Md_greenPart_140 (v := 0) (by decide) ?_
        refine r_bipush (pc := 141) d_Md_greenPart_141 (v := 16) (by decide) ?_
        refine r_callV (pc := 143) (k := a) (As := [.int 2209, .int 0, .int 16]) (rest := []) (mc' := 0) (ms' := 0) lk_Md_257 in_Md_number se_Md_number sa rfl d_Md_greenPart_143 k_Md_number rfl rfl (Nat.le_of_ble_eq_true rfl) (by decide) (by decide) (Sp.mono h ?_)
        rintro rS11 shS11 S11 ⟨qS11, x12, uS11, h⟩
        subst uS11
        rw [qS11]
        refine r_goto (pc := 146) d_Md_greenPart_146 (tgt := 159) (by decide) ?_
        refine r_istore_n (pc := 159) (hk := rfl) (hd := d_Md_greenPart_159) (hi := by decide) (ls2 := [.ref a, .int i1, .int x12]) (h2 := rfl) ?_
        refine r_iload_n (pc := 160) d_Md_greenPart_160 (x := x12) rfl ?_
        refine r_if_eq (pc := 161) d_Md_greenPart_161 (tgt := 177) (by decide) (fun c13 => ?_) (fun c13 => ?_)
        · replace h := h.1 c13
          refine r_iconst (pc := 177) d_Md_greenPart_177 (v := 0) (by decide) ?_
          exact r_zreturn (pc := 178) d_Md_greenPart_178 (v := 0) rfl (by decide) rfl (Nat.le_refl _) ⟨rfl, _, rfl, h⟩
        · replace h := h.2 c13
          refine r_aload_n (pc := 164) d_Md_greenPart_164 (x := a) rfl ?_
          refine r_bipush (pc := 165) d_Md_greenPart_165 (v := 59) (by decide) ?_
          refine r_callV (pc := 167) (k := a) (As := [.int 59]) (rest := []) (mc' := 0) (ms' := 0) lk_Md_277 in_Md_wantSign se_Md_wantSign sa rfl d_Md_greenPart_167 k_Md_wantSign rfl rfl (Nat.le_of_ble_eq_true rfl) (by decide) (by decide) (Sp.mono h ?_)
          rintro rS14 shS14 S14 ⟨qS14, x15, uS14, h⟩
          subst uS14
          rw [qS14]
          refine r_if_eq (pc := 170) d_Md_greenPart_170 (tgt := 177) (by decide) (fun c16 => ?_) (fun c16 => ?_)
          · replace h := h.1 c16
            refine r_iconst (pc := 177) d_Md_greenPart_177 (v := 0) (by decide) ?_
            exact r_zreturn (pc := 178) d_Md_greenPart_178 (v := 0) rfl (by decide) rfl (Nat.le_refl _) ⟨rfl, _, rfl, h⟩
          · replace h := h.2 c16
            refine r_iconst (pc := 173) d_Md_greenPart_173 (v := 1) (by decide) ?_
            refine r_goto (pc := 174) d_Md_greenPart_174 (tgt := 178) (by decide) ?_
            exact r_zreturn (pc := 178) d_Md_greenPart_178 (v := 1) rfl (by decide) rfl (Nat.le_refl _) ⟨rfl, _, rfl, h⟩
    · replace h := h.2 c2
      refine r_aload_n (pc := 106) d_Md_greenPart_106 (x := a) rfl ?_
      refine r_callV (pc := 107) (k := a) (As := []) (rest := []) (mc' := 0) (ms' := 0) lk_Md_280 in_Md_aPass se_Md_aPass sa rfl d_Md_greenPart_107 k_Md_aPass rfl rfl (Nat.le_of_ble_eq_true rfl) (by decide) (by decide) (Sp.mono h ?_)
      rintro rS17 shS17 S17 ⟨qS17, x18, uS17, h⟩
      subst uS17
      rw [qS17]
      refine r_if_eq (pc := 110) d_Md_greenPart_110 (tgt := 126) (by decide) (fun c19 => ?_) (fun c19 => ?_)
      · replace h := h.1 c19
        refine r_iconst (pc := 126) d_Md_greenPart_126 (v := 0) (by decide) ?_
        exact r_zreturn (pc := 127) d_Md_greenPart_127 (v := 0) rfl (by decide) rfl (Nat.le_refl _) ⟨rfl, _, rfl, h⟩
      · replace h := h.2 c19
        refine r_aload_n (pc := 113) d_Md_greenPart_113 (x := a) rfl ?_
        refine r_bipush (pc := 114) d_Md_greenPart_114 (v := 59) (by decide) ?_
        refine r_callV (pc := 116) (k := a) (As := [.int 59]) (rest := []) (mc' := 0) (ms' := 0) lk_Md_277 in_Md_wantSign se_Md_wantSign sa rfl d_Md_greenPart_116 k_Md_wantSign rfl rfl (Nat.le_of_ble_eq_true rfl) (by decide) (by decide) (Sp.mono h ?_)
        rintro rS20 shS20 S20 ⟨qS20, x21, uS20, h⟩
        subst uS20
        rw [qS20]
        refine r_if_eq (pc := 119) d_Md_greenPart_119 (tgt := 126) (by decide) (fun c22 => ?_) (fun c22 => ?_)
        · replace h := h.1 c22
          refine r_iconst (pc := 126) d_Md_greenPart_126 (v := 0) (by decide) ?_
          exact r_zreturn (pc := 127) d_Md_greenPart_127 (v := 0) rfl (by decide) rfl (Nat.le_refl _) ⟨rfl, _, rfl, h⟩
        · replace h := h.2 c22
          refine r_iconst (pc := 122) d_Md_greenPart_122 (v := 1) (by decide) ?_
          refine r_goto (pc := 123) d_Md_greenPart_123 (tgt := 127) (by decide) ?_
          exact r_zreturn (pc := 127) d_Md_greenPart_127 (v := 1) rfl (by decide) rfl (Nat.le_refl _) ⟨rfl, _, rfl, h⟩
  · replace h := h.2 c1
    refine r_aload_n (pc := 67) d_Md_greenPart_67 (x := a) rfl ?_
    refine r_callV (pc := 68) (k := a) (As := []) (rest := []) (mc' := 0) (ms' := 0) lk_Md_273 in_Md_aDancer se_Md_aDancer sa rfl d_Md_greenPart_68 k_Md_aDancer rfl rfl (Nat.le_of_ble_eq_true rfl) (by decide) (by decide) (Sp.mono h ?_)
    rintro rS23 shS23 S23 ⟨qS23, x24, uS23, h⟩
    subst uS23
    rw [qS23]
    refine r_if_eq (pc := 71) d_Md_greenPart_71 (tgt := 87) (by decide) (fun c25 => ?_) (fun c25 => ?_)
    · replace h := h.1 c25
      refine r_iconst (pc := 87) d_Md_greenPart_87 (v := 0) (by decide) ?_
      exact r_zreturn (pc := 88) d_Md_greenPart_88 (v := 0) rfl (by decide) rfl (Nat.le_refl _) ⟨rfl, _, rfl, h⟩
    · replace h := h.2 c25
      refine r_aload_n (pc := 74) d_Md_greenPart_74 (x := a) rfl ?_
      refine r_bipush (pc := 75) d_Md_greenPart_75 (v := 59) (by decide) ?_
      refine r_callV (pc := 77) (k := a) (As := [.int 59]) (rest := []) (mc' := 0) (ms' := 0) lk_Md_277 in_Md_wantSign se_Md_wantSign sa rfl d_Md_greenPart_77 k_Md_wantSign rfl rfl (Nat.le_of_ble_eq_true rfl) (by decide) (by decide) (Sp.mono h ?_)
      rintro rS26 shS26 S26 ⟨qS26, x27, uS26, h⟩
      subst uS26
      rw [qS26]
      refine r_if_eq (pc := 80) d_Md_greenPart_80 (tgt := 87) (by decide) (fun c28 => ?_) (fun c28 => ?_)
      · replace h := h.1 c28
        refine r_iconst (pc := 87) d_Md_greenPart_87 (v := 0) (by decide) ?_
        exact r_zreturn (pc := 88) d_Md_greenPart_88 (v := 0) rfl (by decide) rfl (Nat.le_refl _) ⟨rfl, _, rfl, h⟩
      · replace h := h.2 c28
        refine r_iconst (pc := 83) d_Md_greenPart_83 (v := 1) (by decide) ?_
        refine r_goto (pc := 84) d_Md_greenPart_84 (tgt := 88) (by decide) ?_
        exact r_zreturn (pc := 88) d_Md_greenPart_88 (v := 1) rfl (by decide) rfl (Nat.le_refl _) ⟨rfl, _, rfl, h⟩
set_option maxRecDepth 4000 in
theorem e_Md_inWords {l : Launch} {d : Nat} {sh : aw_SH} {S : aw_S} {P : Int32 → aw_S → Prop} {a : Nat} {p0 : UInt32} (sa : sh[a]? = some (0, 11)) (hp0 : p0 = 1 ∨ p0 = 2) (h : (((S.1 a 12) = 2 → AW l m_Md_inWords (d + 1) 0 0 (gI sh P) 0 0 14 [.ref a, .float p0, .int 0, .int 1, .null, .null, .null] [] sh S) ∧ (¬ (S.1 a 12) = 2 → P (-1) S))) : Sp l m_Md_inWords (d + 1) 0 0 [.ref a, .float p0] sh S (gI sh P) := by
  refine Sp.of k_Md_inWords (ls := [.ref a, .float p0, .null, .null, .null, .null, .null]) rfl (Nat.le_of_ble_eq_true rfl) ?_
  refine r_aload_n (pc := 0) d_Md_inWords_0 (x := a) rfl ?_
  refine r_getI (pc := 1) d_Md_inWords_1 f_Md_163 sa rfl ?_
  refine r_iconst (pc := 4) d_Md_inWords_4 (v := 2) (by decide) ?_
  refine r_icmp_eq (pc := 5) d_Md_inWords_5 (tgt := 10) (by decide) (fun c1 => ?_) (fun c1 => ?_)
  · replace h := h.1 c1
    refine r_iconst (pc := 10) d_Md_inWords_10 (v := 0) (by decide) ?_
    refine r_istore_n (pc := 11) (hk := rfl) (hd := d_Md_inWords_11) (hi := by decide) (ls2 := [.ref a, .float p0, .int 0, .null, .null, .null, .null]) (h2 := rfl) ?_
    refine r_iconst (pc := 12) d_Md_inWords_12 (v := 1) (by decide) ?_
    refine r_istore_n (pc := 13) (hk := rfl) (hd := d_Md_inWords_13) (hi := by decide) (ls2 := [.ref a, .float p0, .int 0, .int 1, .null, .null, .null]) (h2 := rfl) ?_
    exact h
  · replace h := h.2 c1
    refine r_iconst (pc := 8) d_Md_inWords_8 (v := (-1)) (by decide) ?_
    exact r_ireturn (pc := 9) d_Md_inWords_9 rfl rfl (Nat.le_refl _) ⟨rfl, _, rfl, h⟩
set_option maxRecDepth 4000 in
theorem s_Md_inWords_14 {l : Launch} {d : Nat} {sh : aw_SH} {S : aw_S} {P : Int32 → aw_S → Prop} {a : Nat} {i1 : UInt32} {i2 : Int32} {i3 : Int32} (sa : sh[a]? = some (0, 11)) (hi1 : i1 = 1 ∨ i1 = 2) (h : Sp l m_St_length d 0 0 [.float i1] sh S (gI sh (fun x2 S1 => ((x2 ≤ i3 → P (-1) S1) ∧ (¬ x2 ≤ i3 → AW l m_Md_inWords (d + 1) 0 0 (gI sh P) 0 0 25 [.ref a, .float i1, .int i2, .int i3, .int i3, .null, .null] [] sh S1))))) : AW l m_Md_inWords (d + 1) 0 0 (gI sh P) 0 0 14 [.ref a, .float i1, .int i2, .int i3, .null, .null, .null] [] sh S := by
  refine r_iload_n (pc := 14) d_Md_inWords_14 (x := i3) rfl ?_
  refine r_aload_nX (pc := 15) d_Md_inWords_15 (x := i1) rfl ?_
  refine r_callX (pc := 16) (k := 0) (w := i1) (As := []) (rest := [.int i3]) (mc' := 0) (ms' := 0) lk_Md_178 in_St_length se_St_length hi1 rfl d_Md_inWords_16 k_St_length rfl rfl (Nat.le_of_ble_eq_true rfl) (by decide) (by decide) (Sp.mono h ?_)
  rintro rS1 shS1 S1 ⟨qS1, x2, uS1, h⟩
  subst uS1
  rw [qS1]
  refine r_icmp_ge (pc := 19) d_Md_inWords_19 (tgt := 133) (by decide) (fun c3 => ?_) (fun c3 => ?_)
  · replace h := h.1 c3
    refine r_iconst (pc := 133) d_Md_inWords_133 (v := (-1)) (by decide) ?_
    exact r_ireturn (pc := 134) d_Md_inWords_134 rfl rfl (Nat.le_refl _) ⟨rfl, _, rfl, h⟩
  · replace h := h.2 c3
    refine r_iload_n (pc := 22) d_Md_inWords_22 (x := i3) rfl ?_
    refine r_istore (pc := 23) (hd := d_Md_inWords_23) (hi := by decide) (ls2 := [.ref a, .float i1, .int i2, .int i3, .int i3, .null, .null]) (h2 := rfl) ?_
    exact h
set_option maxRecDepth 4000 in
theorem s_Md_inWords_25 {l : Launch} {d : Nat} {sh : aw_SH} {S : aw_S} {P : Int32 → aw_S → Prop} {a : Nat} {i1 : UInt32} {i2 : Int32} {i3 : Int32} {i4 : Int32} (sa : sh[a]? = some (0, 11)) (hi1 : i1 = 1 ∨ i1 = 2) (h : Sp l m_St_charAt d 0 0 [.float i1, .int i4] sh S (gI sh (fun x2 S1 => ((x2 = 32 → ((¬ (i4 - i3) = ((S1.1 a 14) - (S1.1 a 13)) → AW l m_Md_inWords (d + 1) 0 0 (gI sh P) 0 0 68 [.ref a, .float i1, .int i2, .int i3, .int i4, .int 0, .int i3] [] sh S1) ∧ ((i4 - i3) = ((S1.1 a 14) - (S1.1 a 13)) → AW l m_Md_inWords (d + 1) 0 0 (gI sh P) 0 0 68 [.ref a, .float i1, .int i2, .int i3, .int i4, .int 1, .int i3] [] sh S1))) ∧ (¬ x2 = 32 → AW l m_Md_inWords (d + 1) 0 0 (gI sh P) 0 0 25 [.ref a, .float i1, .int i2, .int i3, .int (i4 + 1), .null, .null] [] sh S1))))) : AW l m_Md_inWords (d + 1) 0 0 (gI sh P) 0 0 25 [.ref a, .float i1, .int i2, .int i3, .int i4, .null, .null] [] sh S := by
  refine r_aload_nX (pc := 25) d_Md_inWords_25 (x := i1) rfl ?_
  refine r_iload (pc := 26) d_Md_inWords_26 (x := i4) rfl ?_
  refine r_callX (pc := 28) (k := 0) (w := i1) (As := [.int i4]) (rest := []) (mc' := 0) (ms' := 0) lk_Md_184 in_St_charAt se_St_charAt hi1 rfl d_Md_inWords_28 k_St_charAt rfl rfl (Nat.le_of_ble_eq_true rfl) (by decide) (by decide) (Sp.mono h ?_)
  rintro rS1 shS1 S1 ⟨qS1, x2, uS1, h⟩
  subst uS1
  rw [qS1]
  refine r_bipush (pc := 31) d_Md_inWords_31 (v := 32) (by decide) ?_
  refine r_icmp_eq (pc := 33) d_Md_inWords_33 (tgt := 42) (by decide) (fun c3 => ?_) (fun c3 => ?_)
  · replace h := h.1 c3
    refine r_iload (pc := 42) d_Md_inWords_42 (x := i4) rfl ?_
    refine r_iload_n (pc := 44) d_Md_inWords_44 (x := i3) rfl ?_
    refine r_isub (pc := 45) d_Md_inWords_45 ?_
    refine r_aload_n (pc := 46) d_Md_inWords_46 (x := a) rfl ?_
    refine r_getI (pc := 47) d_Md_inWords_47 f_Md_151 sa rfl ?_
    refine r_aload_n (pc := 50) d_Md_inWords_50 (x := a) rfl ?_
    refine r_getI (pc := 51) d_Md_inWords_51 f_Md_157 sa rfl ?_
    refine r_isub (pc := 54) d_Md_inWords_54 ?_
    refine r_icmp_ne (pc := 55) d_Md_inWords_55 (tgt := 62) (by decide) (fun c4 => ?_) (fun c4 => ?_)
    · replace h := h.1 c4
      refine r_iconst (pc := 62) d_Md_inWords_62 (v := 0) (by decide) ?_
      refine r_istore (pc := 63) (hd := d_Md_inWords_63) (hi := by decide) (ls2 := [.ref a, .float i1, .int i2, .int i3, .int i4, .int 0, .null]) (h2 := rfl) ?_
      refine r_iload_n (pc := 65) d_Md_inWords_65 (x := i3) rfl ?_
      refine r_istore (pc := 66) (hd := d_Md_inWords_66) (hi := by decide) (ls2 := [.ref a, .float i1, .int i2, .int i3, .int i4, .int 0, .int i3]) (h2 := rfl) ?_
      exact h
    · replace h := h.2 c4
      refine r_iconst (pc := 58) d_Md_inWords_58 (v := 1) (by decide) ?_
      refine r_goto (pc := 59) d_Md_inWords_59 (tgt := 63) (by decide) ?_
      refine r_istore (pc := 63) (hd := d_Md_inWords_63) (hi := by decide) (ls2 := [.ref a, .float i1, .int i2, .int i3, .int i4, .int 1, .null]) (h2 := rfl) ?_
      refine r_iload_n (pc := 65) d_Md_inWords_65 (x := i3) rfl ?_
      refine r_istore (pc := 66) (hd := d_Md_inWords_66) (hi := by decide) (ls2 := [.ref a, .float i1, .int i2, .int i3, .int i4, .int 1, .int i3]) (h2 := rfl) ?_
      exact h
  · replace h := h.2 c3
    refine r_iinc (pc := 36) d_Md_inWords_36 (hi := by decide) (x := i4) rfl (v := i4 + 1) rfl (ls2 := [.ref a, .float i1, .int i2, .int i3, .int (i4 + 1), .null, .null]) rfl ?_
    refine r_goto (pc := 39) d_Md_inWords_39 (tgt := 25) (by decide) ?_
    exact h
set_option maxRecDepth 4000 in
theorem s_Md_inWords_68 {l : Launch} {d : Nat} {sh : aw_SH} {S : aw_S} {P : Int32 → aw_S → Prop} {a : Nat} {i1 : UInt32} {i2 : Int32} {i3 : Int32} {i4 : Int32} {i5 : Int32} {i6 : Int32} (sa : sh[a]? = some (0, 11)) (hi1 : i1 = 1 ∨ i1 = 2) (h : ((i4 ≤ i6 → ((i5 = 0 → AW l m_Md_inWords (d + 1) 0 0 (gI sh P) 0 0 14 [.ref a, .float i1, .int (i2 + 1), .int (i4 + (1 : Int32)), .null, .null, .null] [] sh S) ∧ (¬ i5 = 0 → P i2 S))) ∧ (¬ i4 ≤ i6 → ((i5 = 0 → ((i5 = 0 → AW l m_Md_inWords (d + 1) 0 0 (gI sh P) 0 0 14 [.ref a, .float i1, .int (i2 + 1), .int (i4 + (1 : Int32)), .null, .null, .null] [] sh S) ∧ (¬ i5 = 0 → P i2 S))) ∧ (¬ i5 = 0 → Sp l m_St_charAt d 0 0 [.float i1, .int i6] sh S (gI sh (fun x6 S5 => Sp l m_Md_byteAt d 0 0 [.ref a, .int (((S5.1 a 13) + i6) - i3)] sh S5 (gI sh (fun x8 S7 => ((¬ x6 = x8 → AW l m_Md_inWords (d + 1) 0 0 (gI sh P) 0 0 68 [.ref a, .float i1, .int i2, .int i3, .int i4, .int 0, .int (i6 + 1)] [] sh S7) ∧ (x6 = x8 → AW l m_Md_inWords (d + 1) 0 0 (gI sh P) 0 0 68 [.ref a, .float i1, .int i2, .int i3, .int i4, .int 1, .int (i6 + 1)] [] sh S7))))))))))) : AW l m_Md_inWords (d + 1) 0 0 (gI sh P) 0 0 68 [.ref a, .float i1, .int i2, .int i3, .int i4, .int i5, .int i6] [] sh S := by
  refine r_iload (pc := 68) d_Md_inWords_68 (x := i6) rfl ?_
  refine r_iload (pc := 70) d_Md_inWords_70 (x := i4) rfl ?_
  refine r_icmp_ge (pc := 72) d_Md_inWords_72 (tgt := 115) (by decide) (fun c1 => ?_) (fun c1 => ?_)
  · replace h := h.1 c1
    refine r_iload (pc := 115) d_Md_inWords_115 (x := i5) rfl ?_
    refine r_if_eq (pc := 117) d_Md_inWords_117 (tgt := 122) (by decide) (fun c2 => ?_) (fun c2 => ?_)
    · replace h := h.1 c2
      refine r_iinc (pc := 122) d_Md_inWords_122 (hi := by decide) (x := i2) rfl (v := i2 + 1) rfl (ls2 := [.ref a, .float i1, .int (i2 + 1), .int i3, .int i4, .int i5, .int i6]) rfl ?_
      refine r_iload (pc := 125) d_Md_inWords_125 (x := i4) rfl ?_
      refine r_iconst (pc := 127) d_Md_inWords_127 (v := 1) (by decide) ?_
      refine r_iadd (pc := 128) d_Md_inWords_128 ?_
      refine r_istore_n (pc := 129) (hk := rfl) (hd := d_Md_inWords_129) (hi := by decide) (ls2 := [.ref a, .float i1, .int (i2 + 1), .int (i4 + (1 : Int32)), .int i4, .int i5, .int i6]) (h2 := rfl) ?_
      refine r_goto (pc := 130) d_Md_inWords_130 (tgt := 14) (by decide) ?_
      exact r_weak (ls2 := [.ref a, .float i1, .int (i2 + 1), .int (i4 + (1 : Int32)), .null, .null, .null]) ⟨Or.inr rfl, Or.inr rfl, Or.inr rfl, Or.inr rfl, Or.inl rfl, Or.inl rfl, Or.inl rfl, trivial⟩ h
    · replace h := h.2 c2
      refine r_iload_n (pc := 120) d_Md_inWords_120 (x := i2) rfl ?_
      exact r_ireturn (pc := 121) d_Md_inWords_121 rfl rfl (Nat.le_refl _) ⟨rfl, _, rfl, h⟩
  · replace h := h.2 c1
    refine r_iload (pc := 75) d_Md_inWords_75 (x := i5) rfl ?_
    refine r_if_eq (pc := 77) d_Md_inWords_77 (tgt := 115) (by decide) (fun c3 => ?_) (fun c3 => ?_)
    · replace h := h.1 c3
      refine r_iload (pc := 115) d_Md_inWords_115 (x := i5) rfl ?_
      refine r_if_eq (pc := 117) d_Md_inWords_117 (tgt := 122) (by decide) (fun c4 => ?_) (fun c4 => ?_)
      · replace h := h.1 c4
        refine r_iinc (pc := 122) d_Md_inWords_122 (hi := by decide) (x := i2) rfl (v := i2 + 1) rfl (ls2 := [.ref a, .float i1, .int (i2 + 1), .int i3, .int i4, .int i5, .int i6]) rfl ?_
        refine r_iload (pc := 125) d_Md_inWords_125 (x := i4) rfl ?_
        refine r_iconst (pc := 127) d_Md_inWords_127 (v := 1) (by decide) ?_
        refine r_iadd (pc := 128) d_Md_inWords_128 ?_
        refine r_istore_n (pc := 129) (hk := rfl) (hd := d_Md_inWords_129) (hi := by decide) (ls2 := [.ref a, .float i1, .int (i2 + 1), .int (i4 + (1 : Int32)), .int i4, .int i5, .int i6]) (h2 := rfl) ?_
        refine r_goto (pc := 130) d_Md_inWords_130 (tgt := 14) (by decide) ?_
        exact r_weak (ls2 := [.ref a, .float i1, .int (i2 + 1), .int (i4 + (1 : Int32)), .null, .null, .null]) ⟨Or.inr rfl, Or.inr rfl, Or.inr rfl, Or.inr rfl, Or.inl rfl, Or.inl rfl, Or.inl rfl, trivial⟩ h
      · replace h := h.2 c4
        refine r_iload_n (pc := 120) d_Md_inWords_120 (x := i2) rfl ?_
        exact r_ireturn (pc := 121) d_Md_inWords_121 rfl rfl (Nat.le_refl _) ⟨rfl, _, rfl, h⟩
    · replace h := h.2 c3
      refine r_aload_nX (pc := 80) d_Md_inWords_80 (x := i1) rfl ?_
      refine r_iload (pc := 81) d_Md_inWords_81 (x := i6) rfl ?_
      refine r_callX (pc := 83) (k := 0) (w := i1) (As := [.int i6]) (rest := []) (mc' := 0) (ms' := 0) lk_Md_184 in_St_charAt se_St_charAt hi1 rfl d_Md_inWords_83 k_St_charAt rfl rfl (Nat.le_of_ble_eq_true rfl) (by decide) (by decide) (Sp.mono h ?_)
      rintro rS5 shS5 S5 ⟨qS5, x6, uS5, h⟩
      subst uS5
      rw [qS5]
      refine r_aload_n (pc := 86) d_Md_inWords_86 (x := a) rfl ?_
      refine r_aload_n (pc := 87) d_Md_inWords_87 (x := a) rfl ?_
      refine r_getI (pc := 88) d_Md_inWords_88 f_Md_157 sa rfl ?_
      refine r_iload (pc := 91) d_Md_inWords_91 (x := i6) rfl ?_
      refine r_iadd (pc := 93) d_Md_inWords_93 ?_
      refine r_iload_n (pc := 94) d_Md_inWords_94 (x := i3) rfl ?_
      refine r_isub (pc := 95) d_Md_inWords_95 ?_
      refine r_callV (pc := 96) (k := a) (As := [.int (((S5.1 a 13) + i6) - i3)]) (rest := [.int x6]) (mc' := 0) (ms' := 0) lk_Md_154 in_Md_byteAt se_Md_byteAt sa rfl d_Md_inWords_96 k_Md_byteAt rfl rfl (Nat.le_of_ble_eq_true rfl) (by decide) (by decide) (Sp.mono h ?_)
      rintro rS7 shS7 S7 ⟨qS7, x8, uS7, h⟩
      subst uS7
      rw [qS7]
      refine r_icmp_ne (pc := 99) d_Md_inWords_99 (tgt := 106) (by decide) (fun c9 => ?_) (fun c9 => ?_)
      · replace h := h.1 c9
        refine r_iconst (pc := 106) d_Md_inWords_106 (v := 0) (by decide) ?_
        refine r_istore (pc := 107) (hd := d_Md_inWords_107) (hi := by decide) (ls2 := [.ref a, .float i1, .int i2, .int i3, .int i4, .int 0, .int i6]) (h2 := rfl) ?_
        refine r_iinc (pc := 109) d_Md_inWords_109 (hi := by decide) (x := i6) rfl (v := i6 + 1) rfl (ls2 := [.ref a, .float i1, .int i2, .int i3, .int i4, .int 0, .int (i6 + 1)]) rfl ?_
        refine r_goto (pc := 112) d_Md_inWords_112 (tgt := 68) (by decide) ?_
        exact h
      · replace h := h.2 c9
        refine r_iconst (pc := 102) d_Md_inWords_102 (v := 1) (by decide) ?_
        refine r_goto (pc := 103) d_Md_inWords_103 (tgt := 107) (by decide) ?_
        refine r_istore (pc := 107) (hd := d_Md_inWords_107) (hi := by decide) (ls2 := [.ref a, .float i1, .int i2, .int i3, .int i4, .int 1, .int i6]) (h2 := rfl) ?_
        refine r_iinc (pc := 109) d_Md_inWords_109 (hi := by decide) (x := i6) rfl (v := i6 + 1) rfl (ls2 := [.ref a, .float i1, .int i2, .int i3, .int i4, .int 1, .int (i6 + 1)]) rfl ?_
        refine r_goto (pc := 112) d_Md_inWords_112 (tgt := 68) (by decide) ?_
        exact h
