set_option maxRecDepth 4000 in
theorem e_Li_begin {l : Launch} {d : Nat} {sh : aw_SH} {S : aw_S} {P : aw_S → Prop} {a : Nat} {p0 : Nat} {p1 : Nat} {p2 : Int32} (sa : sh[a]? = some (0, 7)) (h : P (aw_uI (aw_uI (aw_uI (aw_uI (aw_uI (aw_uR (aw_uR S a 3 (some p0)) a 4 (some p1)) a 5 p2) a 0 0) a 1 0) a 2 0) a 6 0)) : Sp l m_Li_begin (d + 1) 0 0 [.ref a, .ref p0, .ref p1, .int p2] sh S (gV sh P) := by
  refine Sp.of k_Li_begin (ls := [.ref a, .ref p0, .ref p1, .int p2]) rfl (Nat.le_of_ble_eq_true rfl) ?_
  refine r_aload_n (pc := 0) d_Li_begin_0 (x := a) rfl ?_
  refine r_aload_n (pc := 1) d_Li_begin_1 (x := p0) rfl ?_
  refine r_putR (pc := 2) d_Li_begin_2 f_Li_9 sa (Or.inl ⟨_, rfl⟩) ?_
  refine r_aload_n (pc := 5) d_Li_begin_5 (x := a) rfl ?_
  refine r_aload_n (pc := 6) d_Li_begin_6 (x := p1) rfl ?_
  refine r_putR (pc := 7) d_Li_begin_7 f_Li_15 sa (Or.inl ⟨_, rfl⟩) ?_
  refine r_aload_n (pc := 10) d_Li_begin_10 (x := a) rfl ?_
  refine r_iload_n (pc := 11) d_Li_begin_11 (x := p2) rfl ?_
  refine r_putI (pc := 12) d_Li_begin_12 f_Li_19 sa rfl ?_
  refine r_aload_n (pc := 15) d_Li_begin_15 (x := a) rfl ?_
  refine r_iconst (pc := 16) d_Li_begin_16 (v := 0) (by decide) ?_
  refine r_putI (pc := 17) d_Li_begin_17 f_Li_23 sa rfl ?_
  refine r_aload_n (pc := 20) d_Li_begin_20 (x := a) rfl ?_
  refine r_iconst (pc := 21) d_Li_begin_21 (v := 0) (by decide) ?_
  refine r_putI (pc := 22) d_Li_begin_22 f_Li_26 sa rfl ?_
  refine r_aload_n (pc := 25) d_Li_begin_25 (x := a) rfl ?_
  refine r_iconst (pc := 26) d_Li_begin_26 (v := 0) (by decide) ?_
  refine r_putI (pc := 27) d_Li_begin_27 f_Li_29 sa rfl ?_
  refine r_aload_n (pc := 30) d_Li_begin_30 (x := a) rfl ?_
  refine r_iconst (pc := 31) d_Li_begin_31 (v := 0) (by decide) ?_
  refine r_putZ (pc := 32) d_Li_begin_32 f_Li_32 sa rfl (by decide) ?_
  exact r_return (pc := 35) d_Li_begin_35 rfl rfl (Nat.le_refl _) ⟨rfl, rfl, h⟩
set_option maxRecDepth 4000 in
theorem e_Li_doBlock {l : Launch} {d : Nat} {sh : aw_SH} {S : aw_S} {P : aw_S → Prop} {a : Nat} {p0 : Int32} {p1 : Int32} {p2 : Int32} (sa : sh[a]? = some (0, 7)) (h : AW l m_Li_doBlock (d + 1) 0 0 (gV sh P) 0 0 3 [.ref a, .null, .int p1, .int p2, .int p0] [] sh S) : Sp l m_Li_doBlock (d + 1) 0 0 [.ref a, .int p0, .int p1, .int p2] sh S (gV sh P) := by
  refine Sp.of k_Li_doBlock (ls := [.ref a, .int p0, .int p1, .int p2, .null]) rfl (Nat.le_of_ble_eq_true rfl) ?_
  refine r_iload_n (pc := 0) d_Li_doBlock_0 (x := p0) rfl ?_
  refine r_istore (pc := 1) (hd := d_Li_doBlock_1) (hi := by decide) (ls2 := [.ref a, .int p0, .int p1, .int p2, .int p0]) (h2 := rfl) ?_
  exact r_weak (ls2 := [.ref a, .null, .int p1, .int p2, .int p0]) ⟨Or.inr rfl, Or.inl rfl, Or.inr rfl, Or.inr rfl, Or.inr rfl, trivial⟩ h
set_option maxRecDepth 4000 in
theorem s_Li_doBlock_3 {l : Launch} {d : Nat} {sh : aw_SH} {S : aw_S} {P : aw_S → Prop} {a : Nat} {i2 : Int32} {i3 : Int32} {i4 : Int32} (sa : sh[a]? = some (0, 7)) (h : ((i2 ≤ i4 → P S) ∧ (¬ i2 ≤ i4 → ((¬ (S.1 a 6) = 0 → P S) ∧ ((S.1 a 6) = 0 → ((300 ≤ (S.1 a 0) → ∃ r4, (aw_uI (aw_uI S a 2 1) a 6 1).2.2 a 4 = some r4 ∧ sh[r4]? = some (0, 4) ∧ ∃ r6, (aw_uI (aw_uI S a 2 1) a 6 1).2.2 r4 6 = some r6 ∧ ∃ n8, sh[r6]? = some (3, n8) ∧ vp_in i4 n8 ∧ Sp l m_Ma_max d 0 0 [.int (i4 + (1 : Int32)), .int ((aw_uI (aw_uI S a 2 1) a 6 1).1 r6 i4.toNatClampNeg)] sh (aw_uI (aw_uI S a 2 1) a 6 1) (gI sh (fun x11 S10 => AW l m_Li_doBlock (d + 1) 0 0 (gV sh P) 0 0 3 [.ref a, .null, .int i2, .int i3, .int x11] [] sh S10))) ∧ (¬ 300 ≤ (S.1 a 0) → ((i3 ≤ 3 → Sp l m_Li_doStep d 0 0 [.ref a, .int i4, .int i3] sh (aw_uI S a 0 ((S.1 a 0) + (1 : Int32))) (gV sh (fun S13 => ∃ r14, S13.2.2 a 4 = some r14 ∧ sh[r14]? = some (0, 4) ∧ ∃ r16, S13.2.2 r14 6 = some r16 ∧ ∃ n18, sh[r16]? = some (3, n18) ∧ vp_in i4 n18 ∧ Sp l m_Ma_max d 0 0 [.int (i4 + (1 : Int32)), .int (S13.1 r16 i4.toNatClampNeg)] sh S13 (gI sh (fun x21 S20 => AW l m_Li_doBlock (d + 1) 0 0 (gV sh P) 0 0 3 [.ref a, .null, .int i2, .int i3, .int x21] [] sh S20))))) ∧ (¬ i3 ≤ 3 → ∃ r22, (aw_uI (aw_uI S a 2 1) a 6 1).2.2 a 4 = some r22 ∧ sh[r22]? = some (0, 4) ∧ ∃ r24, (aw_uI (aw_uI S a 2 1) a 6 1).2.2 r22 6 = some r24 ∧ ∃ n26, sh[r24]? = some (3, n26) ∧ vp_in i4 n26 ∧ Sp l m_Ma_max d 0 0 [.int (i4 + (1 : Int32)), .int ((aw_uI (aw_uI S a 2 1) a 6 1).1 r24 i4.toNatClampNeg)] sh (aw_uI (aw_uI S a 2 1) a 6 1) (gI sh (fun x29 S28 => AW l m_Li_doBlock (d + 1) 0 0 (gV sh P) 0 0 3 [.ref a, .null, .int i2, .int i3, .int x29] [] sh S28))))))))))) : AW l m_Li_doBlock (d + 1) 0 0 (gV sh P) 0 0 3 [.ref a, .null, .int i2, .int i3, .int i4] [] sh S := by
  refine r_iload (pc := 3) d_Li_doBlock_3 (x := i4) rfl ?_
  refine r_iload_n (pc := 5) d_Li_doBlock_5 (x := i2) rfl ?_
  refine r_icmp_ge (pc := 6) d_Li_doBlock_6 (tgt := 83) (by decide) (fun c1 => ?_) (fun c1 => ?_)
  · replace h := h.1 c1
    exact r_return (pc := 83) d_Li_doBlock_83 rfl rfl (Nat.le_refl _) ⟨rfl, rfl, h⟩
  · replace h := h.2 c1
    refine r_aload_n (pc := 9) d_Li_doBlock_9 (x := a) rfl ?_
    refine r_getI (pc := 10) d_Li_doBlock_10 f_Li_32 sa rfl ?_
    refine r_if_ne (pc := 13) d_Li_doBlock_13 (tgt := 83) (by decide) (fun c2 => ?_) (fun c2 => ?_)
    · replace h := h.1 c2
      exact r_return (pc := 83) d_Li_doBlock_83 rfl rfl (Nat.le_refl _) ⟨rfl, rfl, h⟩
    · replace h := h.2 c2
      refine r_aload_n (pc := 16) d_Li_doBlock_16 (x := a) rfl ?_
      refine r_getI (pc := 17) d_Li_doBlock_17 f_Li_23 sa rfl ?_
      refine r_sipush (pc := 20) d_Li_doBlock_20 (v := 300) (by decide) ?_
      refine r_icmp_ge (pc := 23) d_Li_doBlock_23 (tgt := 31) (by decide) (fun c3 => ?_) (fun c3 => ?_)
      · replace h := h.1 c3
        refine r_aload_n (pc := 31) d_Li_doBlock_31 (x := a) rfl ?_
        refine r_iconst (pc := 32) d_Li_doBlock_32 (v := 1) (by decide) ?_
        refine r_putI (pc := 33) d_Li_doBlock_33 f_Li_29 sa rfl ?_
        refine r_aload_n (pc := 36) d_Li_doBlock_36 (x := a) rfl ?_
        refine r_iconst (pc := 37) d_Li_doBlock_37 (v := 1) (by decide) ?_
        refine r_putZ (pc := 38) d_Li_doBlock_38 f_Li_32 sa rfl (by decide) ?_
        refine r_goto (pc := 41) d_Li_doBlock_41 (tgt := 61) (by decide) ?_
        refine r_iload (pc := 61) d_Li_doBlock_61 (x := i4) rfl ?_
        refine r_iconst (pc := 63) d_Li_doBlock_63 (v := 1) (by decide) ?_
        refine r_iadd (pc := 64) d_Li_doBlock_64 ?_
        refine r_aload_n (pc := 65) d_Li_doBlock_65 (x := a) rfl ?_
        obtain ⟨r4, er4, h⟩ := h
        refine r_getR (pc := 66) d_Li_doBlock_66 f_Li_15 sa (Or.inl ⟨_, rfl⟩) (r := r4) er4 ?_
        obtain ⟨s5, h⟩ := h
        obtain ⟨r6, er6, h⟩ := h
        refine r_getR (pc := 69) d_Li_doBlock_69 f_Li_40 s5 (Or.inr ⟨_, rfl⟩) (r := r6) er6 ?_
        refine r_iload (pc := 72) d_Li_doBlock_72 (x := i4) rfl ?_
        obtain ⟨n8, s7, h⟩ := h
        obtain ⟨g9, h⟩ := h
        refine r_iald (pc := 74) d_Li_doBlock_74 s7 g9 ?_
        refine r_callS (pc := 75) (k := 0) (As := [.int (i4 + (1 : Int32)), .int ((aw_uI (aw_uI S a 2 1) a 6 1).1 r6 i4.toNatClampNeg)]) (rest := []) (mc' := 0) (ms' := 0) lk_Li_46 st_Ma_max d_Li_doBlock_75 k_Ma_max rfl rfl (Nat.le_of_ble_eq_true rfl) (by decide) (by decide) (Sp.mono h ?_)
        rintro rS10 shS10 S10 ⟨qS10, x11, uS10, h⟩
        subst uS10
        rw [qS10]
        refine r_istore (pc := 78) (hd := d_Li_doBlock_78) (hi := by decide) (ls2 := [.ref a, .null, .int i2, .int i3, .int x11]) (h2 := rfl) ?_
        refine r_goto (pc := 80) d_Li_doBlock_80 (tgt := 3) (by decide) ?_
        exact h
      · replace h := h.2 c3
        refine r_iload_n (pc := 26) d_Li_doBlock_26 (x := i3) rfl ?_
        refine r_iconst (pc := 27) d_Li_doBlock_27 (v := 3) (by decide) ?_
        refine r_icmp_le (pc := 28) d_Li_doBlock_28 (tgt := 44) (by decide) (fun c12 => ?_) (fun c12 => ?_)
        · replace h := h.1 c12
          refine r_aload_n (pc := 44) d_Li_doBlock_44 (x := a) rfl ?_
          refine r_dup (pc := 45) d_Li_doBlock_45 rfl ?_
          refine r_getI (pc := 46) d_Li_doBlock_46 f_Li_23 sa rfl ?_
          refine r_iconst (pc := 49) d_Li_doBlock_49 (v := 1) (by decide) ?_
          refine r_iadd (pc := 50) d_Li_doBlock_50 ?_
          refine r_putI (pc := 51) d_Li_doBlock_51 f_Li_23 sa rfl ?_
          refine r_aload_n (pc := 54) d_Li_doBlock_54 (x := a) rfl ?_
          refine r_iload (pc := 55) d_Li_doBlock_55 (x := i4) rfl ?_
          refine r_iload_n (pc := 57) d_Li_doBlock_57 (x := i3) rfl ?_
          refine r_callV (pc := 58) (k := a) (As := [.int i4, .int i3]) (rest := []) (mc' := 0) (ms' := 0) lk_Li_36 in_Li_doStep se_Li_doStep sa rfl d_Li_doBlock_58 k_Li_doStep rfl rfl (Nat.le_of_ble_eq_true rfl) (by decide) (by decide) (Sp.mono h ?_)
          rintro rS13 shS13 S13 ⟨qS13, uS13, h⟩
          subst uS13
          rw [qS13]
          refine r_iload (pc := 61) d_Li_doBlock_61 (x := i4) rfl ?_
          refine r_iconst (pc := 63) d_Li_doBlock_63 (v := 1) (by decide) ?_
          refine r_iadd (pc := 64) d_Li_doBlock_64 ?_
          refine r_aload_n (pc := 65) d_Li_doBlock_65 (x := a) rfl ?_
          obtain ⟨r14, er14, h⟩ := h
          refine r_getR (pc := 66) d_Li_doBlock_66 f_Li_15 sa (Or.inl ⟨_, rfl⟩) (r := r14) er14 ?_
          obtain ⟨s15, h⟩ := h
          obtain ⟨r16, er16, h⟩ := h
          refine r_getR (pc := 69) d_Li_doBlock_69 f_Li_40 s15 (Or.inr ⟨_, rfl⟩) (r := r16) er16 ?_
          refine r_iload (pc := 72) d_Li_doBlock_72 (x := i4) rfl ?_
          obtain ⟨n18, s17, h⟩ := h
          obtain ⟨g19, h⟩ := h
          refine r_iald (pc := 74) d_Li_doBlock_74 s17 g19 ?_
          refine r_callS (pc := 75) (k := 0) (As := [.int (i4 + (1 : Int32)), .int (S13.1 r16 i4.toNatClampNeg)]) (rest := []) (mc' := 0) (ms' := 0) lk_Li_46 st_Ma_max d_Li_doBlock_75 k_Ma_max rfl rfl (Nat.le_of_ble_eq_true rfl) (by decide) (by decide) (Sp.mono h ?_)
          rintro rS20 shS20 S20 ⟨qS20, x21, uS20, h⟩
          subst uS20
          rw [qS20]
          refine r_istore (pc := 78) (hd := d_Li_doBlock_78) (hi := by decide) (ls2 := [.ref a, .null, .int i2, .int i3, .int x21]) (h2 := rfl) ?_
          refine r_goto (pc := 80) d_Li_doBlock_80 (tgt := 3) (by decide) ?_
          exact h
        · replace h := h.2 c12
          refine r_aload_n (pc := 31) d_Li_doBlock_31 (x := a) rfl ?_
          refine r_iconst (pc := 32) d_Li_doBlock_32 (v := 1) (by decide) ?_
          refine r_putI (pc := 33) d_Li_doBlock_33 f_Li_29 sa rfl ?_
          refine r_aload_n (pc := 36) d_Li_doBlock_36 (x := a) rfl ?_
          refine r_iconst (pc := 37) d_Li_doBlock_37 (v := 1) (by decide) ?_
          refine r_putZ (pc := 38) d_Li_doBlock_38 f_Li_32 sa rfl (by decide) ?_
          refine r_goto (pc := 41) d_Li_doBlock_41 (tgt := 61) (by decide) ?_
          refine r_iload (pc := 61) d_Li_doBlock_61 (x := i4) rfl ?_
          refine r_iconst (pc := 63) d_Li_doBlock_63 (v := 1) (by decide) ?_
          refine r_iadd (pc := 64) d_Li_doBlock_64 ?_
          refine r_aload_n (pc := 65) d_Li_doBlock_65 (x := a) rfl ?_
          obtain ⟨r22, er22, h⟩ := h
          refine r_getR (pc := 66) d_Li_doBlock_66 f_Li_15 sa (Or.inl ⟨_, rfl⟩) (r := r22) er22 ?_
          obtain ⟨s23, h⟩ := h
          obtain ⟨r24, er24, h⟩ := h
          refine r_getR (pc := 69) d_Li_doBlock_69 f_Li_40 s23 (Or.inr ⟨_, rfl⟩) (r := r24) er24 ?_
          refine r_iload (pc := 72) d_Li_doBlock_72 (x := i4) rfl ?_
          obtain ⟨n26, s25, h⟩ := h
          obtain ⟨g27, h⟩ := h
          refine r_iald (pc := 74) d_Li_doBlock_74 s25 g27 ?_
          refine r_callS (pc := 75) (k := 0) (As := [.int (i4 + (1 : Int32)), .int ((aw_uI (aw_uI S a 2 1) a 6 1).1 r24 i4.toNatClampNeg)]) (rest := []) (mc' := 0) (ms' := 0) lk_Li_46 st_Ma_max d_Li_doBlock_75 k_Ma_max rfl rfl (Nat.le_of_ble_eq_true rfl) (by decide) (by decide) (Sp.mono h ?_)
          rintro rS28 shS28 S28 ⟨qS28, x29, uS28, h⟩
          subst uS28
          rw [qS28]
          refine r_istore (pc := 78) (hd := d_Li_doBlock_78) (hi := by decide) (ls2 := [.ref a, .null, .int i2, .int i3, .int x29]) (h2 := rfl) ?_
          refine r_goto (pc := 80) d_Li_doBlock_80 (tgt := 3) (by decide) ?_
          exact h
set_option maxRecDepth 4000 in
theorem e_Li_doStep {l : Launch} {d : Nat} {sh : aw_SH} {S : aw_S} {P : aw_S → Prop} {a : Nat} {p0 : Int32} {p1 : Int32} (sa : sh[a]? = some (0, 7)) (h : ∃ r1, S.2.2 a 4 = some r1 ∧ sh[r1]? = some (0, 4) ∧ ∃ r3, S.2.2 r1 4 = some r3 ∧ ∃ n5, sh[r3]? = some (3, n5) ∧ vp_in p0 n5 ∧ ∃ r7, S.2.2 r1 5 = some r7 ∧ ∃ n9, sh[r7]? = some (3, n9) ∧ vp_in p0 n9 ∧ ∃ r11, S.2.2 r1 2 = some r11 ∧ ∃ n13, sh[r11]? = some (3, n13) ∧ vp_in p0 n13 ∧ ((((S.1 r11 p0.toNatClampNeg : Int32).toInt < 4 ∨ 16 < (S.1 r11 p0.toNatClampNeg : Int32).toInt) → P (aw_uI S a 6 1)) ∧ ((S.1 r11 p0.toNatClampNeg) = 4 → ∃ r15, S.2.2 a 3 = some r15 ∧ sh[r15]? = some (0, 2) ∧ Sp l m_Gr_makePass d 0 0 [.ref r15, .int (((2 : Int32) * (S.1 r3 p0.toNatClampNeg)) + (S.1 r7 p0.toNatClampNeg))] sh S (gI sh (fun x18 S17 => ((x18 = (-1) → Sp l m_Li_count d 0 0 [.ref a, .int 0] sh S17 (gV sh (fun S20 => P S20))) ∧ (¬ x18 = (-1) → Sp l m_Li_count d 0 0 [.ref a, .int 1] sh S17 (gV sh (fun S21 => P S21))))))) ∧ ((S.1 r11 p0.toNatClampNeg) = 5 → P (aw_uI S a 6 1)) ∧ ((S.1 r11 p0.toNatClampNeg) = 6 → P (aw_uI S a 6 1)) ∧ ((S.1 r11 p0.toNatClampNeg) = 7 → ∃ r22, S.2.2 a 3 = some r22 ∧ sh[r22]? = some (0, 2) ∧ Sp l m_Gr_doBack d 0 0 [.ref r22] sh S (gI sh (fun x25 S24 => Sp l m_Li_count d 0 0 [.ref a, .int x25] sh S24 (gV sh (fun S26 => P S26))))) ∧ ((S.1 r11 p0.toNatClampNeg) = 8 → ∃ r27, S.2.2 a 3 = some r27 ∧ sh[r27]? = some (0, 2) ∧ Sp l m_Gr_weaveTimes d 0 0 [.ref r27, .int (S.1 r3 p0.toNatClampNeg)] sh S (gI sh (fun x30 S29 => ((x30 ≤ 0 → Sp l m_Li_count d 0 0 [.ref a, .int 0] sh S29 (gV sh (fun S32 => P S32))) ∧ (¬ x30 ≤ 0 → Sp l m_Li_count d 0 0 [.ref a, .int 1] sh S29 (gV sh (fun S33 => P S33))))))) ∧ ((S.1 r11 p0.toNatClampNeg) = 9 → Sp l m_Li_repaint d 0 0 [.ref a, .int (S.1 r3 p0.toNatClampNeg), .int (S.1 r7 p0.toNatClampNeg)] sh S (gI sh (fun x35 S34 => Sp l m_Li_count d 0 0 [.ref a, .int x35] sh S34 (gV sh (fun S36 => P S36))))) ∧ ((S.1 r11 p0.toNatClampNeg) = 10 → Sp l m_Li_passAny d 0 0 [.ref a] sh S (gI sh (fun x38 S37 => Sp l m_Li_count d 0 0 [.ref a, .int x38] sh S37 (gV sh (fun S39 => P S39))))) ∧ ((S.1 r11 p0.toNatClampNeg) = 11 → ∃ r40, S.2.2 r1 3 = some r40 ∧ ∃ n42, sh[r40]? = some (3, n42) ∧ vp_in p0 n42 ∧ Sp l m_Li_holds d 0 0 [.ref a, .int (S.1 r40 p0.toNatClampNeg), .int (S.1 r3 p0.toNatClampNeg), .int (S.1 r7 p0.toNatClampNeg)] sh S (gI sh (fun x45 S44 => ((x45 = 0 → P S44) ∧ (¬ x45 = 0 → ∃ r47, S44.2.2 a 4 = some r47 ∧ sh[r47]? = some (0, 4) ∧ ∃ r49, S44.2.2 r47 6 = some r49 ∧ ∃ n51, sh[r49]? = some (3, n51) ∧ vp_in p0 n51 ∧ Sp l m_Li_doBlock d 0 0 [.ref a, .int (p0 + (1 : Int32)), .int (S44.1 r49 p0.toNatClampNeg), .int (p1 + (1 : Int32))] sh S44 (gV sh (fun S53 => P S53))))))) ∧ ((S.1 r11 p0.toNatClampNeg) = 12 → P (aw_uI S a 6 1)) ∧ ((S.1 r11 p0.toNatClampNeg) = 13 → P (aw_uI S a 6 1)) ∧ ((S.1 r11 p0.toNatClampNeg) = 14 → P (aw_uI S a 6 1)) ∧ ((S.1 r11 p0.toNatClampNeg) = 15 → P (aw_uI S a 6 1)) ∧ ((S.1 r11 p0.toNatClampNeg) = 16 → AW l m_Li_doStep (d + 1) 0 0 (gV sh P) 0 0 231 [.ref a, .int p0, .int p1, .int (S.1 r3 p0.toNatClampNeg), .null, .int 0] [] sh S))) : Sp l m_Li_doStep (d + 1) 0 0 [.ref a, .int p0, .int p1] sh S (gV sh P) := by
  refine Sp.of k_Li_doStep (ls := [.ref a, .int p0, .int p1, .null, .null, .null]) rfl (Nat.le_of_ble_eq_true rfl) ?_
  refine r_aload_n (pc := 0) d_Li_doStep_0 (x := a) rfl ?_
  obtain ⟨r1, er1, h⟩ := h
  refine r_getR (pc := 1) d_Li_doStep_1 f_Li_15 sa (Or.inl ⟨_, rfl⟩) (r := r1) er1 ?_
  obtain ⟨s2, h⟩ := h
  obtain ⟨r3, er3, h⟩ := h
  refine r_getR (pc := 4) d_Li_doStep_4 f_Li_52 s2 (Or.inr ⟨_, rfl⟩) (r := r3) er3 ?_
  refine r_iload_n (pc := 7) d_Li_doStep_7 (x := p0) rfl ?_
  obtain ⟨n5, s4, h⟩ := h
  obtain ⟨g6, h⟩ := h
  refine r_iald (pc := 8) d_Li_doStep_8 s4 g6 ?_
  refine r_istore_n (pc := 9) (hk := rfl) (hd := d_Li_doStep_9) (hi := by decide) (ls2 := [.ref a, .int p0, .int p1, .int (S.1 r3 p0.toNatClampNeg), .null, .null]) (h2 := rfl) ?_
  refine r_aload_n (pc := 10) d_Li_doStep_10 (x := a) rfl ?_
  refine r_getR (pc := 11) d_Li_doStep_11 f_Li_15 sa (Or.inl ⟨_, rfl⟩) (r := r1) er1 ?_
  obtain ⟨r7, er7, h⟩ := h
  refine r_getR (pc := 14) d_Li_doStep_14 f_Li_55 s2 (Or.inr ⟨_, rfl⟩) (r := r7) er7 ?_
  refine r_iload_n (pc := 17) d_Li_doStep_17 (x := p0) rfl ?_
  obtain ⟨n9, s8, h⟩ := h
  obtain ⟨g10, h⟩ := h
  refine r_iald (pc := 18) d_Li_doStep_18 s8 g10 ?_
  refine r_istore (pc := 19) (hd := d_Li_doStep_19) (hi := by decide) (ls2 := [.ref a, .int p0, .int p1, .int (S.1 r3 p0.toNatClampNeg), .int (S.1 r7 p0.toNatClampNeg), .null]) (h2 := rfl) ?_
  refine r_aload_n (pc := 21) d_Li_doStep_21 (x := a) rfl ?_
  refine r_getR (pc := 22) d_Li_doStep_22 f_Li_15 sa (Or.inl ⟨_, rfl⟩) (r := r1) er1 ?_
  obtain ⟨r11, er11, h⟩ := h
  refine r_getR (pc := 25) d_Li_doStep_25 f_Li_58 s2 (Or.inr ⟨_, rfl⟩) (r := r11) er11 ?_
  refine r_iload_n (pc := 28) d_Li_doStep_28 (x := p0) rfl ?_
  obtain ⟨n13, s12, h⟩ := h
  obtain ⟨g14, h⟩ := h
  refine r_iald (pc := 29) d_Li_doStep_29 s12 g14 ?_
  rcases aw_sw (S.1 r11 p0.toNatClampNeg) 4 16 with q54 | ⟨kq54, q54, wq54⟩
  · refine r_tabOut (pc := 30) d_Li_doStep_30 q54 (tgt := 272) (by decide) ?_
    replace h := h.1 q54
    refine r_aload_n (pc := 272) d_Li_doStep_272 (x := a) rfl ?_
    refine r_iconst (pc := 273) d_Li_doStep_273 (v := 1) (by decide) ?_
    refine r_putZ (pc := 274) d_Li_doStep_274 f_Li_32 sa rfl (by decide) ?_
    exact r_return (pc := 277) d_Li_doStep_277 rfl rfl (Nat.le_refl _) ⟨rfl, rfl, h⟩
  · rcases (show kq54 = 0 ∨ kq54 = 1 ∨ kq54 = 2 ∨ kq54 = 3 ∨ kq54 = 4 ∨ kq54 = 5 ∨ kq54 = 6 ∨ kq54 = 7 ∨ kq54 = 8 ∨ kq54 = 9 ∨ kq54 = 10 ∨ kq54 = 11 ∨ kq54 = 12 by omega) with rfl | rfl | rfl | rfl | rfl | rfl | rfl | rfl | rfl | rfl | rfl | rfl | rfl
    · refine r_tabIn (pc := 30) d_Li_doStep_30 (off := 66) (by omega) (by omega) (by rw [q54]; rfl) (tgt := 96) (by decide) ?_
      replace h := h.2.1 (aw_ix (y := 4) q54 (by decide))
      refine r_aload_n (pc := 96) d_Li_doStep_96 (x := a) rfl ?_
      refine r_aload_n (pc := 97) d_Li_doStep_97 (x := a) rfl ?_
      obtain ⟨r15, er15, h⟩ := h
      refine r_getR (pc := 98) d_Li_doStep_98 f_Li_9 sa (Or.inl ⟨_, rfl⟩) (r := r15) er15 ?_
      refine r_iconst (pc := 101) d_Li_doStep_101 (v := 2) (by decide) ?_
      refine r_iload_n (pc := 102) d_Li_doStep_102 (x := (S.1 r3 p0.toNatClampNeg)) rfl ?_
      refine r_imul (pc := 103) d_Li_doStep_103 ?_
      refine r_iload (pc := 104) d_Li_doStep_104 (x := (S.1 r7 p0.toNatClampNeg)) rfl ?_
      refine r_iadd (pc := 106) d_Li_doStep_106 ?_
      obtain ⟨s16, h⟩ := h
      refine r_callV (pc := 107) (k := r15) (As := [.int (((2 : Int32) * (S.1 r3 p0.toNatClampNeg)) + (S.1 r7 p0.toNatClampNeg))]) (rest := [.ref a]) (mc' := 0) (ms' := 0) lk_Li_61 in_Gr_makePass se_Gr_makePass s16 rfl d_Li_doStep_107 k_Gr_makePass rfl rfl (Nat.le_of_ble_eq_true rfl) (by decide) (by decide) (Sp.mono h ?_)
      rintro rS17 shS17 S17 ⟨qS17, x18, uS17, h⟩
      subst uS17
      rw [qS17]
      refine r_iconst (pc := 110) d_Li_doStep_110 (v := (-1)) (by decide) ?_
      refine r_icmp_eq (pc := 111) d_Li_doStep_111 (tgt := 118) (by decide) (fun c19 => ?_) (fun c19 => ?_)
      · replace h := h.1 c19
        refine r_iconst (pc := 118) d_Li_doStep_118 (v := 0) (by decide) ?_
        refine r_callV (pc := 119) (k := a) (As := [.int 0]) (rest := []) (mc' := 0) (ms' := 0) lk_Li_67 in_Li_count se_Li_count sa rfl d_Li_doStep_119 k_Li_count rfl rfl (Nat.le_of_ble_eq_true rfl) (by decide) (by decide) (Sp.mono h ?_)
        rintro rS20 shS20 S20 ⟨qS20, uS20, h⟩
        subst uS20
        rw [qS20]
        refine r_goto (pc := 122) d_Li_doStep_122 (tgt := 277) (by decide) ?_
        exact r_return (pc := 277) d_Li_doStep_277 rfl rfl (Nat.le_refl _) ⟨rfl, rfl, h⟩
      · replace h := h.2 c19
        refine r_iconst (pc := 114) d_Li_doStep_114 (v := 1) (by decide) ?_
        refine r_goto (pc := 115) d_Li_doStep_115 (tgt := 119) (by decide) ?_
        refine r_callV (pc := 119) (k := a) (As := [.int 1]) (rest := []) (mc' := 0) (ms' := 0) lk_Li_67 in_Li_count se_Li_count sa rfl d_Li_doStep_119 k_Li_count rfl rfl (Nat.le_of_ble_eq_true rfl) (by decide) (by decide) (Sp.mono h ?_)
        rintro rS21 shS21 S21 ⟨qS21, uS21, h⟩
        subst uS21
        rw [qS21]
        refine r_goto (pc := 122) d_Li_doStep_122 (tgt := 277) (by decide) ?_
        exact r_return (pc := 277) d_Li_doStep_277 rfl rfl (Nat.le_refl _) ⟨rfl, rfl, h⟩
    · refine r_tabIn (pc := 30) d_Li_doStep_30 (off := 242) (by omega) (by omega) (by rw [q54]; rfl) (tgt := 272) (by decide) ?_
      replace h := h.2.2.1 (aw_ix (y := 5) q54 (by decide))
      refine r_aload_n (pc := 272) d_Li_doStep_272 (x := a) rfl ?_
      refine r_iconst (pc := 273) d_Li_doStep_273 (v := 1) (by decide) ?_
      refine r_putZ (pc := 274) d_Li_doStep_274 f_Li_32 sa rfl (by decide) ?_
      exact r_return (pc := 277) d_Li_doStep_277 rfl rfl (Nat.le_refl _) ⟨rfl, rfl, h⟩
    · refine r_tabIn (pc := 30) d_Li_doStep_30 (off := 242) (by omega) (by omega) (by rw [q54]; rfl) (tgt := 272) (by decide) ?_
      replace h := h.2.2.2.1 (aw_ix (y := 6) q54 (by decide))
      refine r_aload_n (pc := 272) d_Li_doStep_272 (x := a) rfl ?_
      refine r_iconst (pc := 273) d_Li_doStep_273 (v := 1) (by decide) ?_
      refine r_putZ (pc := 274) d_Li_doStep_274 f_Li_32 sa rfl (by decide) ?_
      exact r_return (pc := 277) d_Li_doStep_277 rfl rfl (Nat.le_refl _) ⟨rfl, rfl, h⟩
    · refine r_tabIn (pc := 30) d_Li_doStep_30 (off := 95) (by omega) (by omega) (by rw [q54]; rfl) (tgt := 125) (by decide) ?_
      replace h := h.2.2.2.2.1 (aw_ix (y := 7) q54 (by decide))
      refine r_aload_n (pc := 125) d_Li_doStep_125 (x := a) rfl ?_
      refine r_aload_n (pc := 126) d_Li_doStep_126 (x := a) rfl ?_
      obtain ⟨r22, er22, h⟩ := h
      refine r_getR (pc := 127) d_Li_doStep_127 f_Li_9 sa (Or.inl ⟨_, rfl⟩) (r := r22) er22 ?_
      obtain ⟨s23, h⟩ := h
      refine r_callV (pc := 130) (k := r22) (As := []) (rest := [.ref a]) (mc' := 0) (ms' := 0) lk_Li_71 in_Gr_doBack se_Gr_doBack s23 rfl d_Li_doStep_130 k_Gr_doBack rfl rfl (Nat.le_of_ble_eq_true rfl) (by decide) (by decide) (Sp.mono h ?_)
      rintro rS24 shS24 S24 ⟨qS24, x25, uS24, h⟩
      subst uS24
      rw [qS24]
      refine r_callV (pc := 133) (k := a) (As := [.int x25]) (rest := []) (mc' := 0) (ms' := 0) lk_Li_67 in_Li_count se_Li_count sa rfl d_Li_doStep_133 k_Li_count rfl rfl (Nat.le_of_ble_eq_true rfl) (by decide) (by decide) (Sp.mono h ?_)
      rintro rS26 shS26 S26 ⟨qS26, uS26, h⟩
      subst uS26
      rw [qS26]
      refine r_goto (pc := 136) d_Li_doStep_136 (tgt := 277) (by decide) ?_
      exact r_return (pc := 277) d_Li_doStep_277 rfl rfl (Nat.le_refl _) ⟨rfl, rfl, h⟩
    · refine r_tabIn (pc := 30) d_Li_doStep_30 (off := 109) (by omega) (by omega) (by rw [q54]; rfl) (tgt := 139) (by decide) ?_
      replace h := h.2.2.2.2.2.1 (aw_ix (y := 8) q54 (by decide))
      refine r_aload_n (pc := 139) d_Li_doStep_139 (x := a) rfl ?_
      refine r_aload_n (pc := 140) d_Li_doStep_140 (x := a) rfl ?_
      obtain ⟨r27, er27, h⟩ := h
      refine r_getR (pc := 141) d_Li_doStep_141 f_Li_9 sa (Or.inl ⟨_, rfl⟩) (r := r27) er27 ?_
      refine r_iload_n (pc := 144) d_Li_doStep_144 (x := (S.1 r3 p0.toNatClampNeg)) rfl ?_
      obtain ⟨s28, h⟩ := h
      refine r_callV (pc := 145) (k := r27) (As := [.int (S.1 r3 p0.toNatClampNeg)]) (rest := [.ref a]) (mc' := 0) (ms' := 0) lk_Li_75 in_Gr_weaveTimes se_Gr_weaveTimes s28 rfl d_Li_doStep_145 k_Gr_weaveTimes rfl rfl (Nat.le_of_ble_eq_true rfl) (by decide) (by decide) (Sp.mono h ?_)
      rintro rS29 shS29 S29 ⟨qS29, x30, uS29, h⟩
      subst uS29
      rw [qS29]
      refine r_if_le (pc := 148) d_Li_doStep_148 (tgt := 155) (by decide) (fun c31 => ?_) (fun c31 => ?_)
      · replace h := h.1 c31
        refine r_iconst (pc := 155) d_Li_doStep_155 (v := 0) (by decide) ?_
        refine r_callV (pc := 156) (k := a) (As := [.int 0]) (rest := []) (mc' := 0) (ms' := 0) lk_Li_67 in_Li_count se_Li_count sa rfl d_Li_doStep_156 k_Li_count rfl rfl (Nat.le_of_ble_eq_true rfl) (by decide) (by decide) (Sp.mono h ?_)
        rintro rS32 shS32 S32 ⟨qS32, uS32, h⟩
        subst uS32
        rw [qS32]
        refine r_goto (pc := 159) d_Li_doStep_159 (tgt := 277) (by decide) ?_
        exact r_return (pc := 277) d_Li_doStep_277 rfl rfl (Nat.le_refl _) ⟨rfl, rfl, h⟩
      · replace h := h.2 c31
        refine r_iconst (pc := 151) d_Li_doStep_151 (v := 1) (by decide) ?_
        refine r_goto (pc := 152) d_Li_doStep_152 (tgt := 156) (by decide) ?_
        refine r_callV (pc := 156) (k := a) (As := [.int 1]) (rest := []) (mc' := 0) (ms' := 0) lk_Li_67 in_Li_count se_Li_count sa rfl d_Li_doStep_156 k_Li_count rfl rfl (Nat.le_of_ble_eq_true rfl) (by decide) (by decide) (Sp.mono h ?_)
        rintro rS33 shS33 S33 ⟨qS33, uS33, h⟩
        subst uS33
        rw [qS33]
        refine r_goto (pc := 159) d_Li_doStep_159 (tgt := 277) (by decide) ?_
        exact r_return (pc := 277) d_Li_doStep_277 rfl rfl (Nat.le_refl _) ⟨rfl, rfl, h⟩
    · refine r_tabIn (pc := 30) d_Li_doStep_30 (off := 132) (by omega) (by omega) (by rw [q54]; rfl) (tgt := 162) (by decide) ?_
      replace h := h.2.2.2.2.2.2.1 (aw_ix (y := 9) q54 (by decide))
      refine r_aload_n (pc := 162) d_Li_doStep_162 (x := a) rfl ?_
      refine r_aload_n (pc := 163) d_Li_doStep_163 (x := a) rfl ?_
      refine r_iload_n (pc := 164) d_Li_doStep_164 (x := (S.1 r3 p0.toNatClampNeg)) rfl ?_
      refine r_iload (pc := 165) d_Li_doStep_165 (x := (S.1 r7 p0.toNatClampNeg)) rfl ?_
      refine r_callV (pc := 167) (k := a) (As := [.int (S.1 r3 p0.toNatClampNeg), .int (S.1 r7 p0.toNatClampNeg)]) (rest := [.ref a]) (mc' := 0) (ms' := 0) lk_Li_78 in_Li_repaint se_Li_repaint sa rfl d_Li_doStep_167 k_Li_repaint rfl rfl (Nat.le_of_ble_eq_true rfl) (by decide) (by decide) (Sp.mono h ?_)
      rintro rS34 shS34 S34 ⟨qS34, x35, uS34, h⟩
      subst uS34
      rw [qS34]
      refine r_callV (pc := 170) (k := a) (As := [.int x35]) (rest := []) (mc' := 0) (ms' := 0) lk_Li_67 in_Li_count se_Li_count sa rfl d_Li_doStep_170 k_Li_count rfl rfl (Nat.le_of_ble_eq_true rfl) (by decide) (by decide) (Sp.mono h ?_)
      rintro rS36 shS36 S36 ⟨qS36, uS36, h⟩
      subst uS36
      rw [qS36]
      refine r_goto (pc := 173) d_Li_doStep_173 (tgt := 277) (by decide) ?_
      exact r_return (pc := 277) d_Li_doStep_277 rfl rfl (Nat.le_refl _) ⟨rfl, rfl, h⟩
    · refine r_tabIn (pc := 30) d_Li_doStep_30 (off := 146) (by omega) (by omega) (by rw [q54]; rfl) (tgt := 176) (by decide) ?_
      replace h := h.2.2.2.2.2.2.2.1 (aw_ix (y := 10) q54 (by decide))
      refine r_aload_n (pc := 176) d_Li_doStep_176 (x := a) rfl ?_
      refine r_aload_n (pc := 177) d_Li_doStep_177 (x := a) rfl ?_
      refine r_callV (pc := 178) (k := a) (As := []) (rest := [.ref a]) (mc' := 0) (ms' := 0) lk_Li_82 in_Li_passAny se_Li_passAny sa rfl d_Li_doStep_178 k_Li_passAny rfl rfl (Nat.le_of_ble_eq_true rfl) (by decide) (by decide) (Sp.mono h ?_)
      rintro rS37 shS37 S37 ⟨qS37, x38, uS37, h⟩
      subst uS37
      rw [qS37]
      refine r_callV (pc := 181) (k := a) (As := [.int x38]) (rest := []) (mc' := 0) (ms' := 0) lk_Li_67 in_Li_count se_Li_count sa rfl d_Li_doStep_181 k_Li_count rfl rfl (Nat.le_of_ble_eq_true rfl) (by decide) (by decide) (Sp.mono h ?_)
      rintro rS39 shS39 S39 ⟨qS39, uS39, h⟩
      subst uS39
      rw [qS39]
      refine r_goto (pc := 184) d_Li_doStep_184 (tgt := 277) (by decide) ?_
      exact r_return (pc := 277) d_Li_doStep_277 rfl rfl (Nat.le_refl _) ⟨rfl, rfl, h⟩
    · refine r_tabIn (pc := 30) d_Li_doStep_30 (off := 157) (by omega) (by omega) (by rw [q54]; rfl) (tgt := 187) (by decide) ?_
      replace h := h.2.2.2.2.2.2.2.2.1 (aw_ix (y := 11) q54 (by decide))
      refine r_aload_n (pc := 187) d_Li_doStep_187 (x := a) rfl ?_
      refine r_aload_n (pc := 188) d_Li_doStep_188 (x := a) rfl ?_
      refine r_getR (pc := 189) d_Li_doStep_189 f_Li_15 sa (Or.inl ⟨_, rfl⟩) (r := r1) er1 ?_
      obtain ⟨r40, er40, h⟩ := h
      refine r_getR (pc := 192) d_Li_doStep_192 f_Li_85 s2 (Or.inr ⟨_, rfl⟩) (r := r40) er40 ?_
      refine r_iload_n (pc := 195) d_Li_doStep_195 (x := p0) rfl ?_
      obtain ⟨n42, s41, h⟩ := h
      obtain ⟨g43, h⟩ := h
      refine r_iald (pc := 196) d_Li_doStep_196 s41 g43 ?_
      refine r_iload_n (pc := 197) d_Li_doStep_197 (x := (S.1 r3 p0.toNatClampNeg)) rfl ?_
      refine r_iload (pc := 198) d_Li_doStep_198 (x := (S.1 r7 p0.toNatClampNeg)) rfl ?_
      refine r_callV (pc := 200) (k := a) (As := [.int (S.1 r40 p0.toNatClampNeg), .int (S.1 r3 p0.toNatClampNeg), .int (S.1 r7 p0.toNatClampNeg)]) (rest := []) (mc' := 0) (ms' := 0) lk_Li_88 in_Li_holds se_Li_holds sa rfl d_Li_doStep_200 k_Li_holds rfl rfl (Nat.le_of_ble_eq_true rfl) (by decide) (by decide) (Sp.mono h ?_)
      rintro rS44 shS44 S44 ⟨qS44, x45, uS44, h⟩
      subst uS44
      rw [qS44]
      refine r_if_eq (pc := 203) d_Li_doStep_203 (tgt := 277) (by decide) (fun c46 => ?_) (fun c46 => ?_)
      · replace h := h.1 c46
        exact r_return (pc := 277) d_Li_doStep_277 rfl rfl (Nat.le_refl _) ⟨rfl, rfl, h⟩
      · replace h := h.2 c46
        refine r_aload_n (pc := 206) d_Li_doStep_206 (x := a) rfl ?_
        refine r_iload_n (pc := 207) d_Li_doStep_207 (x := p0) rfl ?_
        refine r_iconst (pc := 208) d_Li_doStep_208 (v := 1) (by decide) ?_
        refine r_iadd (pc := 209) d_Li_doStep_209 ?_
        refine r_aload_n (pc := 210) d_Li_doStep_210 (x := a) rfl ?_
        obtain ⟨r47, er47, h⟩ := h
        refine r_getR (pc := 211) d_Li_doStep_211 f_Li_15 sa (Or.inl ⟨_, rfl⟩) (r := r47) er47 ?_
        obtain ⟨s48, h⟩ := h
        obtain ⟨r49, er49, h⟩ := h
        refine r_getR (pc := 214) d_Li_doStep_214 f_Li_40 s48 (Or.inr ⟨_, rfl⟩) (r := r49) er49 ?_
        refine r_iload_n (pc := 217) d_Li_doStep_217 (x := p0) rfl ?_
        obtain ⟨n51, s50, h⟩ := h
        obtain ⟨g52, h⟩ := h
        refine r_iald (pc := 218) d_Li_doStep_218 s50 g52 ?_
        refine r_iload_n (pc := 219) d_Li_doStep_219 (x := p1) rfl ?_
        refine r_iconst (pc := 220) d_Li_doStep_220 (v := 1) (by decide) ?_
        refine r_iadd (pc := 221) d_Li_doStep_221 ?_
        refine r_callV (pc := 222) (k := a) (As := [.int (p0 + (1 : Int32)), .int (S44.1 r49 p0.toNatClampNeg), .int (p1 + (1 : Int32))]) (rest := []) (mc' := 0) (ms' := 0) lk_Li_92 in_Li_doBlock se_Li_doBlock sa rfl d_Li_doStep_222 k_Li_doBlock rfl rfl (Nat.le_of_ble_eq_true rfl) (by decide) (by decide) (Sp.mono h ?_)
        rintro rS53 shS53 S53 ⟨qS53, uS53, h⟩
        subst uS53
        rw [qS53]
        refine r_goto (pc := 225) d_Li_doStep_225 (tgt := 277) (by decide) ?_
        exact r_return (pc := 277) d_Li_doStep_277 rfl rfl (Nat.le_refl _) ⟨rfl, rfl, h⟩
    · refine r_tabIn (pc := 30) d_Li_doStep_30 (off := 242) (by omega) (by omega) (by rw [q54]; rfl) (tgt := 272) (by decide) ?_
      replace h := h.2.2.2.2.2.2.2.2.2.1 (aw_ix (y := 12) q54 (by decide))
      refine r_aload_n (pc := 272) d_Li_doStep_272 (x := a) rfl ?_
      refine r_iconst (pc := 273) d_Li_doStep_273 (v := 1) (by decide) ?_
      refine r_putZ (pc := 274) d_Li_doStep_274 f_Li_32 sa rfl (by decide) ?_
      exact r_return (pc := 277) d_Li_doStep_277 rfl rfl (Nat.le_refl _) ⟨rfl, rfl, h⟩
    · refine r_tabIn (pc := 30) d_Li_doStep_30 (off := 242) (by omega) (by omega) (by rw [q54]; rfl) (tgt := 272) (by decide) ?_
      replace h := h.2.2.2.2.2.2.2.2.2.2.1 (aw_ix (y := 13) q54 (by decide))
      refine r_aload_n (pc := 272) d_Li_doStep_272 (x := a) rfl ?_
      refine r_iconst (pc := 273) d_Li_doStep_273 (v := 1) (by decide) ?_
      refine r_putZ (pc := 274) d_Li_doStep_274 f_Li_32 sa rfl (by decide) ?_
      exact r_return (pc := 277) d_Li_doStep_277 rfl rfl (Nat.le_refl _) ⟨rfl, rfl, h⟩
    · refine r_tabIn (pc := 30) d_Li_doStep_30 (off := 242) (by omega) (by omega) (by rw [q54]; rfl) (tgt := 272) (by decide) ?_
      replace h := h.2.2.2.2.2.2.2.2.2.2.2.1 (aw_ix (y := 14) q54 (by decide))
      refine r_aload_n (pc := 272) d_Li_doStep_272 (x := a) rfl ?_
      refine r_iconst (pc := 273) d_Li_doStep_273 (v := 1) (by decide) ?_
      refine r_putZ (pc := 274) d_Li_doStep_274 f_Li_32 sa rfl (by decide) ?_
      exact r_return (pc := 277) d_Li_doStep_277 rfl rfl (Nat.le_refl _) ⟨rfl, rfl, h⟩
    · refine r_tabIn (pc := 30) d_Li_doStep_30 (off := 242) (by omega) (by omega) (by rw [q54]; rfl) (tgt := 272) (by decide) ?_
      replace h := h.2.2.2.2.2.2.2.2.2.2.2.2.1 (aw_ix (y := 15) q54 (by decide))
      refine r_aload_n (pc := 272) d_Li_doStep_272 (x := a) rfl ?_
      refine r_iconst (pc := 273) d_Li_doStep_273 (v := 1) (by decide) ?_
      refine r_putZ (pc := 274) d_Li_doStep_274 f_Li_32 sa rfl (by decide) ?_
      exact r_return (pc := 277) d_Li_doStep_277 rfl rfl (Nat.le_refl _) ⟨rfl, rfl, h⟩
    · refine r_tabIn (pc := 30) d_Li_doStep_30 (off := 198) (by omega) (by omega) (by rw [q54]; rfl) (tgt := 228) (by decide) ?_
      replace h := h.2.2.2.2.2.2.2.2.2.2.2.2.2 (aw_ix (y := 16) q54 (by decide))
      refine r_iconst (pc := 228) d_Li_doStep_228 (v := 0) (by decide) ?_
      refine r_istore (pc := 229) (hd := d_Li_doStep_229) (hi := by decide) (ls2 := [.ref a, .int p0, .int p1, .int (S.1 r3 p0.toNatClampNeg), .int (S.1 r7 p0.toNatClampNeg), .int 0]) (h2 := rfl) ?_
      exact r_weak (ls2 := [.ref a, .int p0, .int p1, .int (S.1 r3 p0.toNatClampNeg), .null, .int 0]) ⟨Or.inr rfl, Or.inr rfl, Or.inr rfl, Or.inr rfl, Or.inl rfl, Or.inr rfl, trivial⟩ h
set_option maxRecDepth 4000 in
theorem s_Li_doStep_231 {l : Launch} {d : Nat} {sh : aw_SH} {S : aw_S} {P : aw_S → Prop} {a : Nat} {i1 : Int32} {i2 : Int32} {i3 : Int32} {i5 : Int32} (sa : sh[a]? = some (0, 7)) (h : ((i3 ≤ i5 → P S) ∧ (¬ i3 ≤ i5 → ((¬ (S.1 a 6) = 0 → P S) ∧ ((S.1 a 6) = 0 → ∃ r3, S.2.2 a 4 = some r3 ∧ sh[r3]? = some (0, 4) ∧ ∃ r5, S.2.2 r3 6 = some r5 ∧ ∃ n7, sh[r5]? = some (3, n7) ∧ vp_in i1 n7 ∧ Sp l m_Li_doBlock d 0 0 [.ref a, .int (i1 + (1 : Int32)), .int (S.1 r5 i1.toNatClampNeg), .int (i2 + (1 : Int32))] sh S (gV sh (fun S9 => AW l m_Li_doStep (d + 1) 0 0 (gV sh P) 0 0 231 [.ref a, .int i1, .int i2, .int i3, .null, .int (i5 + 1)] [] sh S9))))))) : AW l m_Li_doStep (d + 1) 0 0 (gV sh P) 0 0 231 [.ref a, .int i1, .int i2, .int i3, .null, .int i5] [] sh S := by
  refine r_iload (pc := 231) d_Li_doStep_231 (x := i5) rfl ?_
  refine r_iload_n (pc := 233) d_Li_doStep_233 (x := i3) rfl ?_
  refine r_icmp_ge (pc := 234) d_Li_doStep_234 (tgt := 269) (by decide) (fun c1 => ?_) (fun c1 => ?_)
  · replace h := h.1 c1
    refine r_goto (pc := 269) d_Li_doStep_269 (tgt := 277) (by decide) ?_
    exact r_return (pc := 277) d_Li_doStep_277 rfl rfl (Nat.le_refl _) ⟨rfl, rfl, h⟩
  · replace h := h.2 c1
    refine r_aload_n (pc := 237) d_Li_doStep_237 (x := a) rfl ?_
    refine r_getI (pc := 238) d_Li_doStep_238 f_Li_32 sa rfl ?_
    refine r_if_ne (pc := 241) d_Li_doStep_241 (tgt := 269) (by decide) (fun c2 => ?_) (fun c2 => ?_)
    · replace h := h.1 c2
      refine r_goto (pc := 269) d_Li_doStep_269 (tgt := 277) (by decide) ?_
      exact r_return (pc := 277) d_Li_doStep_277 rfl rfl (Nat.le_refl _) ⟨rfl, rfl, h⟩
    · replace h := h.2 c2
      refine r_aload_n (pc := 244) d_Li_doStep_244 (x := a) rfl ?_
      refine r_iload_n (pc := 245) d_Li_doStep_245 (x := i1) rfl ?_
      refine r_iconst (pc := 246) d_Li_doStep_246 (v := 1) (by decide) ?_
      refine r_iadd (pc := 247) d_Li_doStep_247 ?_
      refine r_aload_n (pc := 248) d_Li_doStep_248 (x := a) rfl ?_
      obtain ⟨r3, er3, h⟩ := h
      refine r_getR (pc := 249) d_Li_doStep_249 f_Li_15 sa (Or.inl ⟨_, rfl⟩) (r := r3) er3 ?_
      obtain ⟨s4, h⟩ := h
      obtain ⟨r5, er5, h⟩ := h
      refine r_getR (pc := 252) d_Li_doStep_252 f_Li_40 s4 (Or.inr ⟨_, rfl⟩) (r := r5) er5 ?_
      refine r_iload_n (pc := 255) d_Li_doStep_255 (x := i1) rfl ?_
      obtain ⟨n7, s6, h⟩ := h
      obtain ⟨g8, h⟩ := h
      refine r_iald (pc := 256) d_Li_doStep_256 s6 g8 ?_
      refine r_iload_n (pc := 257) d_Li_doStep_257 (x := i2) rfl ?_
      refine r_iconst (pc := 258) d_Li_doStep_258 (v := 1) (by decide) ?_
      refine r_iadd (pc := 259) d_Li_doStep_259 ?_
      refine r_callV (pc := 260) (k := a) (As := [.int (i1 + (1 : Int32)), .int (S.1 r5 i1.toNatClampNeg), .int (i2 + (1 : Int32))]) (rest := []) (mc' := 0) (ms' := 0) lk_Li_92 in_Li_doBlock se_Li_doBlock sa rfl d_Li_doStep_260 k_Li_doBlock rfl rfl (Nat.le_of_ble_eq_true rfl) (by decide) (by decide) (Sp.mono h ?_)
      rintro rS9 shS9 S9 ⟨qS9, uS9, h⟩
      subst uS9
      rw [qS9]
      refine r_iinc (pc := 263) d_Li_doStep_263 (hi := by decide) (x := i5) rfl (v := i5 + 1) rfl (ls2 := [.ref a, .int i1, .int i2, .int i3, .null, .int (i5 + 1)]) rfl ?_
      refine r_goto (pc := 266) d_Li_doStep_266 (tgt := 231) (by decide) ?_
      exact h
set_option maxRecDepth 4000 in
theorem e_Li_count {l : Launch} {d : Nat} {sh : aw_SH} {S : aw_S} {P : aw_S → Prop} {a : Nat} {p0 : Int32} (sa : sh[a]? = some (0, 7)) (h : ((¬ p0 = 0 → P S) ∧ (p0 = 0 → P (aw_uI S a 1 ((S.1 a 1) + (1 : Int32)))))) : Sp l m_Li_count (d + 1) 0 0 [.ref a, .int p0] sh S (gV sh P) := by
  refine Sp.of k_Li_count (ls := [.ref a, .int p0]) rfl (Nat.le_of_ble_eq_true rfl) ?_
  refine r_iload_n (pc := 0) d_Li_count_0 (x := p0) rfl ?_
  refine r_if_ne (pc := 1) d_Li_count_1 (tgt := 14) (by decide) (fun c1 => ?_) (fun c1 => ?_)
  · replace h := h.1 c1
    exact r_return (pc := 14) d_Li_count_14 rfl rfl (Nat.le_refl _) ⟨rfl, rfl, h⟩
  · replace h := h.2 c1
    refine r_aload_n (pc := 4) d_Li_count_4 (x := a) rfl ?_
    refine r_dup (pc := 5) d_Li_count_5 rfl ?_
    refine r_getI (pc := 6) d_Li_count_6 f_Li_26 sa rfl ?_
    refine r_iconst (pc := 9) d_Li_count_9 (v := 1) (by decide) ?_
    refine r_iadd (pc := 10) d_Li_count_10 ?_
    refine r_putI (pc := 11) d_Li_count_11 f_Li_26 sa rfl ?_
    exact r_return (pc := 14) d_Li_count_14 rfl rfl (Nat.le_refl _) ⟨rfl, rfl, h⟩
set_option maxRecDepth 4000 in
theorem e_Li_repaint {l : Launch} {d : Nat} {sh : aw_SH} {S : aw_S} {P : Int32 → aw_S → Prop} {a : Nat} {p0 : Int32} {p1 : Int32} (sa : sh[a]? = some (0, 7)) (h : ∃ r1, S.2.2 a 3 = some r1 ∧ sh[r1]? = some (0, 2) ∧ ∃ r3, S.2.2 r1 6 = some r3 ∧ ∃ n5, sh[r3]? = some (3, n5) ∧ vp_in p0 n5 ∧ ((¬ (S.1 r3 p0.toNatClampNeg) = p1 → vp_in p0 n5 ∧ P 1 (aw_uI S r3 p0.toNatClampNeg p1)) ∧ ((S.1 r3 p0.toNatClampNeg) = p1 → P 0 S))) : Sp l m_Li_repaint (d + 1) 0 0 [.ref a, .int p0, .int p1] sh S (gI sh P) := by
  refine Sp.of k_Li_repaint (ls := [.ref a, .int p0, .int p1]) rfl (Nat.le_of_ble_eq_true rfl) ?_
  refine r_aload_n (pc := 0) d_Li_repaint_0 (x := a) rfl ?_
  obtain ⟨r1, er1, h⟩ := h
  refine r_getR (pc := 1) d_Li_repaint_1 f_Li_9 sa (Or.inl ⟨_, rfl⟩) (r := r1) er1 ?_
  obtain ⟨s2, h⟩ := h
  obtain ⟨r3, er3, h⟩ := h
  refine r_getR (pc := 4) d_Li_repaint_4 f_Li_96 s2 (Or.inr ⟨_, rfl⟩) (r := r3) er3 ?_
  refine r_iload_n (pc := 7) d_Li_repaint_7 (x := p0) rfl ?_
  obtain ⟨n5, s4, h⟩ := h
  obtain ⟨g6, h⟩ := h
  refine r_iald (pc := 8) d_Li_repaint_8 s4 g6 ?_
  refine r_iload_n (pc := 9) d_Li_repaint_9 (x := p1) rfl ?_
  refine r_icmp_ne (pc := 10) d_Li_repaint_10 (tgt := 15) (by decide) (fun c7 => ?_) (fun c7 => ?_)
  · replace h := h.1 c7
    refine r_aload_n (pc := 15) d_Li_repaint_15 (x := a) rfl ?_
    refine r_getR (pc := 16) d_Li_repaint_16 f_Li_9 sa (Or.inl ⟨_, rfl⟩) (r := r1) er1 ?_
    refine r_getR (pc := 19) d_Li_repaint_19 f_Li_96 s2 (Or.inr ⟨_, rfl⟩) (r := r3) er3 ?_
    refine r_iload_n (pc := 22) d_Li_repaint_22 (x := p0) rfl ?_
    refine r_iload_n (pc := 23) d_Li_repaint_23 (x := p1) rfl ?_
    obtain ⟨g8, h⟩ := h
    refine r_iast (pc := 24) d_Li_repaint_24 s4 g8 ?_
    refine r_iconst (pc := 25) d_Li_repaint_25 (v := 1) (by decide) ?_
    exact r_zreturn (pc := 26) d_Li_repaint_26 (v := 1) rfl (by decide) rfl (Nat.le_refl _) ⟨rfl, _, rfl, h⟩
  · replace h := h.2 c7
    refine r_iconst (pc := 13) d_Li_repaint_13 (v := 0) (by decide) ?_
    exact r_zreturn (pc := 14) d_Li_repaint_14 (v := 0) rfl (by decide) rfl (Nat.le_refl _) ⟨rfl, _, rfl, h⟩
set_option maxRecDepth 4000 in
theorem e_Li_passAny {l : Launch} {d : Nat} {sh : aw_SH} {S : aw_S} {P : Int32 → aw_S → Prop} {a : Nat} (sa : sh[a]? = some (0, 7)) (h : ∃ r1, S.2.2 a 3 = some r1 ∧ sh[r1]? = some (0, 2) ∧ Sp l m_Gr_gaps d 0 0 [.ref r1] sh S (gI sh (fun x4 S3 => ((¬ x4 = 0 → Sp l m_Li_drawBy d 0 0 [.ref a, .int x4] sh S3 (gI sh (fun x7 S6 => Sp l m_Li_drawBy d 0 0 [.ref a, .int 2] sh S6 (gI sh (fun x9 S8 => Sp l m_Li_drawBy d 0 0 [.ref a, .int 16] sh S8 (gI sh (fun x11 S10 => ∃ r12, S10.2.2 a 3 = some r12 ∧ sh[r12]? = some (0, 2) ∧ (((S10.1 r12 1) ≤ x11 → Sp l m_Gr_makePass d 0 0 [.ref r12, .int (((2 : Int32) * x7) + x9)] sh S10 (gI sh (fun x17 S16 => ((x17 = (-1) → P 0 S16) ∧ (¬ x17 = (-1) → P 1 S16))))) ∧ (¬ (S10.1 r12 1) ≤ x11 → Sp l m_Gr_makePass d 0 0 [.ref r12, .int (((2 : Int32) * x7) + ((1 : Int32) - x9))] sh S10 (gI sh (fun x21 S20 => ((x21 = (-1) → P 0 S20) ∧ (¬ x21 = (-1) → P 1 S20))))))))))))) ∧ (x4 = 0 → P 0 S3))))) : Sp l m_Li_passAny (d + 1) 0 0 [.ref a] sh S (gI sh P) := by
  refine Sp.of k_Li_passAny (ls := [.ref a, .null, .null, .null, .null]) rfl (Nat.le_of_ble_eq_true rfl) ?_
  refine r_aload_n (pc := 0) d_Li_passAny_0 (x := a) rfl ?_
  obtain ⟨r1, er1, h⟩ := h
  refine r_getR (pc := 1) d_Li_passAny_1 f_Li_9 sa (Or.inl ⟨_, rfl⟩) (r := r1) er1 ?_
  obtain ⟨s2, h⟩ := h
  refine r_callV (pc := 4) (k := r1) (As := []) (rest := []) (mc' := 0) (ms' := 0) lk_Li_99 in_Gr_gaps se_Gr_gaps s2 rfl d_Li_passAny_4 k_Gr_gaps rfl rfl (Nat.le_of_ble_eq_true rfl) (by decide) (by decide) (Sp.mono h ?_)
  rintro rS3 shS3 S3 ⟨qS3, x4, uS3, h⟩
  subst uS3
  rw [qS3]
  refine r_istore_n (pc := 7) (hk := rfl) (hd := d_Li_passAny_7) (hi := by decide) (ls2 := [.ref a, .int x4, .null, .null, .null]) (h2 := rfl) ?_
  refine r_iload_n (pc := 8) d_Li_passAny_8 (x := x4) rfl ?_
  refine r_if_ne (pc := 9) d_Li_passAny_9 (tgt := 14) (by decide) (fun c5 => ?_) (fun c5 => ?_)
  · replace h := h.1 c5
    refine r_aload_n (pc := 14) d_Li_passAny_14 (x := a) rfl ?_
    refine r_iload_n (pc := 15) d_Li_passAny_15 (x := x4) rfl ?_
    refine r_callV (pc := 16) (k := a) (As := [.int x4]) (rest := []) (mc' := 0) (ms' := 0) lk_Li_103 in_Li_drawBy se_Li_drawBy sa rfl d_Li_passAny_16 k_Li_drawBy rfl rfl (Nat.le_of_ble_eq_true rfl) (by decide) (by decide) (Sp.mono h ?_)
    rintro rS6 shS6 S6 ⟨qS6, x7, uS6, h⟩
    subst uS6
    rw [qS6]
    refine r_istore_n (pc := 19) (hk := rfl) (hd := d_Li_passAny_19) (hi := by decide) (ls2 := [.ref a, .int x4, .int x7, .null, .null]) (h2 := rfl) ?_
    refine r_aload_n (pc := 20) d_Li_passAny_20 (x := a) rfl ?_
    refine r_iconst (pc := 21) d_Li_passAny_21 (v := 2) (by decide) ?_
    refine r_callV (pc := 22) (k := a) (As := [.int 2]) (rest := []) (mc' := 0) (ms' := 0) lk_Li_103 in_Li_drawBy se_Li_drawBy sa rfl d_Li_passAny_22 k_Li_drawBy rfl rfl (Nat.le_of_ble_eq_true rfl) (by decide) (by decide) (Sp.mono h ?_)
    rintro rS8 shS8 S8 ⟨qS8, x9, uS8, h⟩
    subst uS8
    rw [qS8]
    refine r_istore_n (pc := 25) (hk := rfl) (hd := d_Li_passAny_25) (hi := by decide) (ls2 := [.ref a, .int x4, .int x7, .int x9, .null]) (h2 := rfl) ?_
    refine r_aload_n (pc := 26) d_Li_passAny_26 (x := a) rfl ?_
    refine r_bipush (pc := 27) d_Li_passAny_27 (v := 16) (by decide) ?_
    refine r_callV (pc := 29) (k := a) (As := [.int 16]) (rest := []) (mc' := 0) (ms' := 0) lk_Li_103 in_Li_drawBy se_Li_drawBy sa rfl d_Li_passAny_29 k_Li_drawBy rfl rfl (Nat.le_of_ble_eq_true rfl) (by decide) (by decide) (Sp.mono h ?_)
    rintro rS10 shS10 S10 ⟨qS10, x11, uS10, h⟩
    subst uS10
    rw [qS10]
    refine r_aload_n (pc := 32) d_Li_passAny_32 (x := a) rfl ?_
    obtain ⟨r12, er12, h⟩ := h
    refine r_getR (pc := 33) d_Li_passAny_33 f_Li_9 sa (Or.inl ⟨_, rfl⟩) (r := r12) er12 ?_
    obtain ⟨s13, h⟩ := h
    refine r_getI (pc := 36) d_Li_passAny_36 f_Li_106 s13 rfl ?_
    refine r_icmp_ge (pc := 39) d_Li_passAny_39 (tgt := 46) (by decide) (fun c14 => ?_) (fun c14 => ?_)
    · replace h := h.1 c14
      refine r_iconst (pc := 46) d_Li_passAny_46 (v := 0) (by decide) ?_
      refine r_istore (pc := 47) (hd := d_Li_passAny_47) (hi := by decide) (ls2 := [.ref a, .int x4, .int x7, .int x9, .int 0]) (h2 := rfl) ?_
      refine r_aload_n (pc := 49) d_Li_passAny_49 (x := a) rfl ?_
      refine r_getR (pc := 50) d_Li_passAny_50 f_Li_9 sa (Or.inl ⟨_, rfl⟩) (r := r12) er12 ?_
      refine r_iconst (pc := 53) d_Li_passAny_53 (v := 2) (by decide) ?_
      refine r_iload_n (pc := 54) d_Li_passAny_54 (x := x7) rfl ?_
      refine r_imul (pc := 55) d_Li_passAny_55 ?_
      refine r_iload (pc := 56) d_Li_passAny_56 (x := 0) rfl ?_
      refine r_if_eq (pc := 58) d_Li_passAny_58 (tgt := 67) (by decide) (fun _ => ?_) (fun q => absurd q (by decide))
      refine r_iload_n (pc := 67) d_Li_passAny_67 (x := x9) rfl ?_
      refine r_iadd (pc := 68) d_Li_passAny_68 ?_
      refine r_callV (pc := 69) (k := r12) (As := [.int (((2 : Int32) * x7) + x9)]) (rest := []) (mc' := 0) (ms' := 0) lk_Li_61 in_Gr_makePass se_Gr_makePass s13 rfl d_Li_passAny_69 k_Gr_makePass rfl rfl (Nat.le_of_ble_eq_true rfl) (by decide) (by decide) (Sp.mono h ?_)
      rintro rS16 shS16 S16 ⟨qS16, x17, uS16, h⟩
      subst uS16
      rw [qS16]
      refine r_iconst (pc := 72) d_Li_passAny_72 (v := (-1)) (by decide) ?_
      refine r_icmp_eq (pc := 73) d_Li_passAny_73 (tgt := 80) (by decide) (fun c18 => ?_) (fun c18 => ?_)
      · replace h := h.1 c18
        refine r_iconst (pc := 80) d_Li_passAny_80 (v := 0) (by decide) ?_
        exact r_zreturn (pc := 81) d_Li_passAny_81 (v := 0) rfl (by decide) rfl (Nat.le_refl _) ⟨rfl, _, rfl, h⟩
      · replace h := h.2 c18
        refine r_iconst (pc := 76) d_Li_passAny_76 (v := 1) (by decide) ?_
        refine r_goto (pc := 77) d_Li_passAny_77 (tgt := 81) (by decide) ?_
        exact r_zreturn (pc := 81) d_Li_passAny_81 (v := 1) rfl (by decide) rfl (Nat.le_refl _) ⟨rfl, _, rfl, h⟩
    · replace h := h.2 c14
      refine r_iconst (pc := 42) d_Li_passAny_42 (v := 1) (by decide) ?_
      refine r_goto (pc := 43) d_Li_passAny_43 (tgt := 47) (by decide) ?_
      refine r_istore (pc := 47) (hd := d_Li_passAny_47) (hi := by decide) (ls2 := [.ref a, .int x4, .int x7, .int x9, .int 1]) (h2 := rfl) ?_
      refine r_aload_n (pc := 49) d_Li_passAny_49 (x := a) rfl ?_
      refine r_getR (pc := 50) d_Li_passAny_50 f_Li_9 sa (Or.inl ⟨_, rfl⟩) (r := r12) er12 ?_
      refine r_iconst (pc := 53) d_Li_passAny_53 (v := 2) (by decide) ?_
      refine r_iload_n (pc := 54) d_Li_passAny_54 (x := x7) rfl ?_
      refine r_imul (pc := 55) d_Li_passAny_55 ?_
      refine r_iload (pc := 56) d_Li_passAny_56 (x := 1) rfl ?_
      refine r_if_eq (pc := 58) d_Li_passAny_58 (tgt := 67) (by decide) (fun q => absurd q (by decide)) (fun _ => ?_)
      refine r_iconst (pc := 61) d_Li_passAny_61 (v := 1) (by decide) ?_
      refine r_iload_n (pc := 62) d_Li_passAny_62 (x := x9) rfl ?_
      refine r_isub (pc := 63) d_Li_passAny_63 ?_
      refine r_goto (pc := 64) d_Li_passAny_64 (tgt := 68) (by decide) ?_
      refine r_iadd (pc := 68) d_Li_passAny_68 ?_
      refine r_callV (pc := 69) (k := r12) (As := [.int (((2 : Int32) * x7) + ((1 : Int32) - x9))]) (rest := []) (mc' := 0) (ms' := 0) lk_Li_61 in_Gr_makePass se_Gr_makePass s13 rfl d_Li_passAny_69 k_Gr_makePass rfl rfl (Nat.le_of_ble_eq_true rfl) (by decide) (by decide) (Sp.mono h ?_)
      rintro rS20 shS20 S20 ⟨qS20, x21, uS20, h⟩
      subst uS20
      rw [qS20]
      refine r_iconst (pc := 72) d_Li_passAny_72 (v := (-1)) (by decide) ?_
      refine r_icmp_eq (pc := 73) d_Li_passAny_73 (tgt := 80) (by decide) (fun c22 => ?_) (fun c22 => ?_)
      · replace h := h.1 c22
        refine r_iconst (pc := 80) d_Li_passAny_80 (v := 0) (by decide) ?_
        exact r_zreturn (pc := 81) d_Li_passAny_81 (v := 0) rfl (by decide) rfl (Nat.le_refl _) ⟨rfl, _, rfl, h⟩
      · replace h := h.2 c22
        refine r_iconst (pc := 76) d_Li_passAny_76 (v := 1) (by decide) ?_
        refine r_goto (pc := 77) d_Li_passAny_77 (tgt := 81) (by decide) ?_
        exact r_zreturn (pc := 81) d_Li_passAny_81 (v := 1) rfl (by decide) rfl (Nat.le_refl _) ⟨rfl, _, rfl, h⟩
  · replace h := h.2 c5
    refine r_iconst (pc := 12) d_Li_passAny_12 (v := 0) (by decide) ?_
    exact r_zreturn (pc := 13) d_Li_passAny_13 (v := 0) rfl (by decide) rfl (Nat.le_refl _) ⟨rfl, _, rfl, h⟩
set_option maxRecDepth 4000 in
theorem e_Li_drawBy {l : Launch} {d : Nat} {sh : aw_SH} {S : aw_S} {P : Int32 → aw_S → Prop} {a : Nat} {p0 : Int32} (sa : sh[a]? = some (0, 7)) (h : ((p0 ≤ 0 → P 0 (aw_uI S a 5 ((((S.1 a 5) * (3269 : Int32)) + (11493 : Int32)) - (((S.1 a 5) * (3269 : Int32)) + (11493 : Int32)) / (65536 : Int32) * (65536 : Int32)))) ∧ (¬ p0 ≤ 0 → ¬ p0 = 0 ∧ P ((((aw_uI S a 5 ((((S.1 a 5) * (3269 : Int32)) + (11493 : Int32)) - (((S.1 a 5) * (3269 : Int32)) + (11493 : Int32)) / (65536 : Int32) * (65536 : Int32))).1 a 5) / (8 : Int32)) - (((aw_uI S a 5 ((((S.1 a 5) * (3269 : Int32)) + (11493 : Int32)) - (((S.1 a 5) * (3269 : Int32)) + (11493 : Int32)) / (65536 : Int32) * (65536 : Int32))).1 a 5) / (8 : Int32)) / p0 * p0) (aw_uI S a 5 ((((S.1 a 5) * (3269 : Int32)) + (11493 : Int32)) - (((S.1 a 5) * (3269 : Int32)) + (11493 : Int32)) / (65536 : Int32) * (65536 : Int32)))))) : Sp l m_Li_drawBy (d + 1) 0 0 [.ref a, .int p0] sh S (gI sh P) := by
  refine Sp.of k_Li_drawBy (ls := [.ref a, .int p0]) rfl (Nat.le_of_ble_eq_true rfl) ?_
  refine r_aload_n (pc := 0) d_Li_drawBy_0 (x := a) rfl ?_
  refine r_aload_n (pc := 1) d_Li_drawBy_1 (x := a) rfl ?_
  refine r_getI (pc := 2) d_Li_drawBy_2 f_Li_19 sa rfl ?_
  refine r_sipush (pc := 5) d_Li_drawBy_5 (v := 3269) (by decide) ?_
  refine r_imul (pc := 8) d_Li_drawBy_8 ?_
  refine r_sipush (pc := 9) d_Li_drawBy_9 (v := 11493) (by decide) ?_
  refine r_iadd (pc := 12) d_Li_drawBy_12 ?_
  refine r_ldc (pc := 13) d_Li_drawBy_13 cc_Li_109 ?_
  refine r_irem (pc := 15) d_Li_drawBy_15 (by decide) ?_
  refine r_putI (pc := 16) d_Li_drawBy_16 f_Li_19 sa rfl ?_
  refine r_iload_n (pc := 19) d_Li_drawBy_19 (x := p0) rfl ?_
  refine r_if_le (pc := 20) d_Li_drawBy_20 (tgt := 35) (by decide) (fun c1 => ?_) (fun c1 => ?_)
  · replace h := h.1 c1
    refine r_iconst (pc := 35) d_Li_drawBy_35 (v := 0) (by decide) ?_
    exact r_ireturn (pc := 36) d_Li_drawBy_36 rfl rfl (Nat.le_refl _) ⟨rfl, _, rfl, h⟩
  · replace h := h.2 c1
    refine r_aload_n (pc := 23) d_Li_drawBy_23 (x := a) rfl ?_
    refine r_getI (pc := 24) d_Li_drawBy_24 f_Li_19 sa rfl ?_
    refine r_bipush (pc := 27) d_Li_drawBy_27 (v := 8) (by decide) ?_
    refine r_idiv (pc := 29) d_Li_drawBy_29 (by decide) ?_
    refine r_iload_n (pc := 30) d_Li_drawBy_30 (x := p0) rfl ?_
    obtain ⟨g2, h⟩ := h
    refine r_irem (pc := 31) d_Li_drawBy_31 g2 ?_
    refine r_goto (pc := 32) d_Li_drawBy_32 (tgt := 36) (by decide) ?_
    exact r_ireturn (pc := 36) d_Li_drawBy_36 rfl rfl (Nat.le_refl _) ⟨rfl, _, rfl, h⟩
set_option maxRecDepth 4000 in
theorem e_Li_holds {l : Launch} {d : Nat} {sh : aw_SH} {S : aw_S} {P : Int32 → aw_S → Prop} {a : Nat} {p0 : Int32} {p1 : Int32} {p2 : Int32} (sa : sh[a]? = some (0, 7)) (h : ((((p0 : Int32).toInt < 12 ∨ 14 < (p0 : Int32).toInt) → Sp l m_Li_compares d 0 0 [.ref a, .int p1, .int p2] sh S (gI sh (fun x2 S1 => ((x2 = 0 ∨ x2 = 1) ∧ P x2 S1)))) ∧ (p0 = 12 → ∃ r4, S.2.2 a 3 = some r4 ∧ sh[r4]? = some (0, 2) ∧ ∃ r6, S.2.2 r4 7 = some r6 ∧ ∃ n8, sh[r6]? = some (3, n8) ∧ vp_in p1 n8 ∧ ((¬ (S.1 r6 p1.toNatClampNeg) = p1 → P 0 S) ∧ ((S.1 r6 p1.toNatClampNeg) = p1 → P 1 S))) ∧ (p0 = 13 → ∃ r11, S.2.2 a 3 = some r11 ∧ sh[r11]? = some (0, 2) ∧ ∃ r13, S.2.2 r11 7 = some r13 ∧ ∃ n15, sh[r13]? = some (3, n15) ∧ vp_in p1 n15 ∧ ((¬ (S.1 r13 p1.toNatClampNeg) = p2 → P 0 S) ∧ ((S.1 r13 p1.toNatClampNeg) = p2 → P 1 S))) ∧ (p0 = 14 → ∃ r18, S.2.2 a 3 = some r18 ∧ sh[r18]? = some (0, 2) ∧ ∃ r20, S.2.2 r18 10 = some r20 ∧ sh[r20]? = some (0, 3) ∧ Sp l m_Gr_colourIn d 0 0 [.ref r18, .int p1, .int (S.1 r20 1)] sh S (gI sh (fun x23 S22 => ((¬ x23 = p2 → P 0 S22) ∧ (x23 = p2 → P 1 S22))))))) : Sp l m_Li_holds (d + 1) 0 0 [.ref a, .int p0, .int p1, .int p2] sh S (gI sh P) := by
  refine Sp.of k_Li_holds (ls := [.ref a, .int p0, .int p1, .int p2]) rfl (Nat.le_of_ble_eq_true rfl) ?_
  refine r_iload_n (pc := 0) d_Li_holds_0 (x := p0) rfl ?_
  rcases aw_sw (p0) 12 14 with q25 | ⟨kq25, q25, wq25⟩
  · refine r_tabOut (pc := 1) d_Li_holds_1 q25 (tgt := 94) (by decide) ?_
    replace h := h.1 q25
    refine r_aload_n (pc := 94) d_Li_holds_94 (x := a) rfl ?_
    refine r_iload_n (pc := 95) d_Li_holds_95 (x := p1) rfl ?_
    refine r_iload_n (pc := 96) d_Li_holds_96 (x := p2) rfl ?_
    refine r_callV (pc := 97) (k := a) (As := [.int p1, .int p2]) (rest := []) (mc' := 0) (ms' := 0) lk_Li_125 in_Li_compares se_Li_compares sa rfl d_Li_holds_97 k_Li_compares rfl rfl (Nat.le_of_ble_eq_true rfl) (by decide) (by decide) (Sp.mono h ?_)
    rintro rS1 shS1 S1 ⟨qS1, x2, uS1, h⟩
    subst uS1
    rw [qS1]
    obtain ⟨g3, h⟩ := h
    exact r_zreturn (pc := 100) d_Li_holds_100 rfl (aw_nb g3) rfl (Nat.le_refl _) ⟨rfl, _, rfl, h⟩
  · rcases (show kq25 = 0 ∨ kq25 = 1 ∨ kq25 = 2 by omega) with rfl | rfl | rfl
    · refine r_tabIn (pc := 1) d_Li_holds_1 (off := 27) (by omega) (by omega) (by rw [q25]; rfl) (tgt := 28) (by decide) ?_
      replace h := h.2.1 (aw_ix (y := 12) q25 (by decide))
      refine r_aload_n (pc := 28) d_Li_holds_28 (x := a) rfl ?_
      obtain ⟨r4, er4, h⟩ := h
      refine r_getR (pc := 29) d_Li_holds_29 f_Li_9 sa (Or.inl ⟨_, rfl⟩) (r := r4) er4 ?_
      obtain ⟨s5, h⟩ := h
      obtain ⟨r6, er6, h⟩ := h
      refine r_getR (pc := 32) d_Li_holds_32 f_Li_110 s5 (Or.inr ⟨_, rfl⟩) (r := r6) er6 ?_
      refine r_iload_n (pc := 35) d_Li_holds_35 (x := p1) rfl ?_
      obtain ⟨n8, s7, h⟩ := h
      obtain ⟨g9, h⟩ := h
      refine r_iald (pc := 36) d_Li_holds_36 s7 g9 ?_
      refine r_iload_n (pc := 37) d_Li_holds_37 (x := p1) rfl ?_
      refine r_icmp_ne (pc := 38) d_Li_holds_38 (tgt := 45) (by decide) (fun c10 => ?_) (fun c10 => ?_)
      · replace h := h.1 c10
        refine r_iconst (pc := 45) d_Li_holds_45 (v := 0) (by decide) ?_
        exact r_zreturn (pc := 46) d_Li_holds_46 (v := 0) rfl (by decide) rfl (Nat.le_refl _) ⟨rfl, _, rfl, h⟩
      · replace h := h.2 c10
        refine r_iconst (pc := 41) d_Li_holds_41 (v := 1) (by decide) ?_
        refine r_goto (pc := 42) d_Li_holds_42 (tgt := 46) (by decide) ?_
        exact r_zreturn (pc := 46) d_Li_holds_46 (v := 1) rfl (by decide) rfl (Nat.le_refl _) ⟨rfl, _, rfl, h⟩
    · refine r_tabIn (pc := 1) d_Li_holds_1 (off := 46) (by omega) (by omega) (by rw [q25]; rfl) (tgt := 47) (by decide) ?_
      replace h := h.2.2.1 (aw_ix (y := 13) q25 (by decide))
      refine r_aload_n (pc := 47) d_Li_holds_47 (x := a) rfl ?_
      obtain ⟨r11, er11, h⟩ := h
      refine r_getR (pc := 48) d_Li_holds_48 f_Li_9 sa (Or.inl ⟨_, rfl⟩) (r := r11) er11 ?_
      obtain ⟨s12, h⟩ := h
      obtain ⟨r13, er13, h⟩ := h
      refine r_getR (pc := 51) d_Li_holds_51 f_Li_110 s12 (Or.inr ⟨_, rfl⟩) (r := r13) er13 ?_
      refine r_iload_n (pc := 54) d_Li_holds_54 (x := p1) rfl ?_
      obtain ⟨n15, s14, h⟩ := h
      obtain ⟨g16, h⟩ := h
      refine r_iald (pc := 55) d_Li_holds_55 s14 g16 ?_
      refine r_iload_n (pc := 56) d_Li_holds_56 (x := p2) rfl ?_
      refine r_icmp_ne (pc := 57) d_Li_holds_57 (tgt := 64) (by decide) (fun c17 => ?_) (fun c17 => ?_)
      · replace h := h.1 c17
        refine r_iconst (pc := 64) d_Li_holds_64 (v := 0) (by decide) ?_
        exact r_zreturn (pc := 65) d_Li_holds_65 (v := 0) rfl (by decide) rfl (Nat.le_refl _) ⟨rfl, _, rfl, h⟩
      · replace h := h.2 c17
        refine r_iconst (pc := 60) d_Li_holds_60 (v := 1) (by decide) ?_
        refine r_goto (pc := 61) d_Li_holds_61 (tgt := 65) (by decide) ?_
        exact r_zreturn (pc := 65) d_Li_holds_65 (v := 1) rfl (by decide) rfl (Nat.le_refl _) ⟨rfl, _, rfl, h⟩
    · refine r_tabIn (pc := 1) d_Li_holds_1 (off := 65) (by omega) (by omega) (by rw [q25]; rfl) (tgt := 66) (by decide) ?_
      replace h := h.2.2.2 (aw_ix (y := 14) q25 (by decide))
      refine r_aload_n (pc := 66) d_Li_holds_66 (x := a) rfl ?_
      obtain ⟨r18, er18, h⟩ := h
      refine r_getR (pc := 67) d_Li_holds_67 f_Li_9 sa (Or.inl ⟨_, rfl⟩) (r := r18) er18 ?_
      refine r_iload_n (pc := 70) d_Li_holds_70 (x := p1) rfl ?_
      refine r_aload_n (pc := 71) d_Li_holds_71 (x := a) rfl ?_
      refine r_getR (pc := 72) d_Li_holds_72 f_Li_9 sa (Or.inl ⟨_, rfl⟩) (r := r18) er18 ?_
      obtain ⟨s19, h⟩ := h
      obtain ⟨r20, er20, h⟩ := h
      refine r_getR (pc := 75) d_Li_holds_75 f_Li_113 s19 (Or.inl ⟨_, rfl⟩) (r := r20) er20 ?_
      obtain ⟨s21, h⟩ := h
      refine r_getI (pc := 78) d_Li_holds_78 f_Li_117 s21 rfl ?_
      refine r_callV (pc := 81) (k := r18) (As := [.int p1, .int (S.1 r20 1)]) (rest := []) (mc' := 0) (ms' := 0) lk_Li_122 in_Gr_colourIn se_Gr_colourIn s19 rfl d_Li_holds_81 k_Gr_colourIn rfl rfl (Nat.le_of_ble_eq_true rfl) (by decide) (by decide) (Sp.mono h ?_)
      rintro rS22 shS22 S22 ⟨qS22, x23, uS22, h⟩
      subst uS22
      rw [qS22]
      refine r_iload_n (pc := 84) d_Li_holds_84 (x := p2) rfl ?_
      refine r_icmp_ne (pc := 85) d_Li_holds_85 (tgt := 92) (by decide) (fun c24 => ?_) (fun c24 => ?_)
      · replace h := h.1 c24
        refine r_iconst (pc := 92) d_Li_holds_92 (v := 0) (by decide) ?_
        exact r_zreturn (pc := 93) d_Li_holds_93 (v := 0) rfl (by decide) rfl (Nat.le_refl _) ⟨rfl, _, rfl, h⟩
      · replace h := h.2 c24
        refine r_iconst (pc := 88) d_Li_holds_88 (v := 1) (by decide) ?_
        refine r_goto (pc := 89) d_Li_holds_89 (tgt := 93) (by decide) ?_
        exact r_zreturn (pc := 93) d_Li_holds_93 (v := 1) rfl (by decide) rfl (Nat.le_refl _) ⟨rfl, _, rfl, h⟩
set_option maxRecDepth 4000 in
theorem e_Li_compares {l : Launch} {d : Nat} {sh : aw_SH} {S : aw_S} {P : Int32 → aw_S → Prop} {a : Nat} {p0 : Int32} {p1 : Int32} (sa : sh[a]? = some (0, 7)) (h : ((¬ p0 = 60 → ((¬ p0 = 62 → ∃ r3, S.2.2 a 3 = some r3 ∧ sh[r3]? = some (0, 2) ∧ ∃ r5, S.2.2 r3 10 = some r5 ∧ sh[r5]? = some (0, 3) ∧ ((¬ (S.1 r5 1) = p1 → P 0 S) ∧ ((S.1 r5 1) = p1 → P 1 S))) ∧ (p0 = 62 → ∃ r8, S.2.2 a 3 = some r8 ∧ sh[r8]? = some (0, 2) ∧ ∃ r10, S.2.2 r8 10 = some r10 ∧ sh[r10]? = some (0, 3) ∧ (((S.1 r10 1) ≤ p1 → P 0 S) ∧ (¬ (S.1 r10 1) ≤ p1 → P 1 S))))) ∧ (p0 = 60 → ∃ r13, S.2.2 a 3 = some r13 ∧ sh[r13]? = some (0, 2) ∧ ∃ r15, S.2.2 r13 10 = some r15 ∧ sh[r15]? = some (0, 3) ∧ ((p1 ≤ (S.1 r15 1) → P 0 S) ∧ (¬ p1 ≤ (S.1 r15 1) → P 1 S))))) : Sp l m_Li_compares (d + 1) 0 0 [.ref a, .int p0, .int p1] sh S (gI sh P) := by
  refine Sp.of k_Li_compares (ls := [.ref a, .int p0, .int p1]) rfl (Nat.le_of_ble_eq_true rfl) ?_
  refine r_iload_n (pc := 0) d_Li_compares_0 (x := p0) rfl ?_
  refine r_bipush (pc := 1) d_Li_compares_1 (v := 60) (by decide) ?_
  refine r_icmp_ne (pc := 3) d_Li_compares_3 (tgt := 26) (by decide) (fun c1 => ?_) (fun c1 => ?_)
  · replace h := h.1 c1
    refine r_iload_n (pc := 26) d_Li_compares_26 (x := p0) rfl ?_
    refine r_bipush (pc := 27) d_Li_compares_27 (v := 62) (by decide) ?_
    refine r_icmp_ne (pc := 29) d_Li_compares_29 (tgt := 54) (by decide) (fun c2 => ?_) (fun c2 => ?_)
    · replace h := h.1 c2
      refine r_aload_n (pc := 54) d_Li_compares_54 (x := a) rfl ?_
      obtain ⟨r3, er3, h⟩ := h
      refine r_getR (pc := 55) d_Li_compares_55 f_Li_9 sa (Or.inl ⟨_, rfl⟩) (r := r3) er3 ?_
      obtain ⟨s4, h⟩ := h
      obtain ⟨r5, er5, h⟩ := h
      refine r_getR (pc := 58) d_Li_compares_58 f_Li_113 s4 (Or.inl ⟨_, rfl⟩) (r := r5) er5 ?_
      obtain ⟨s6, h⟩ := h
      refine r_getI (pc := 61) d_Li_compares_61 f_Li_117 s6 rfl ?_
      refine r_iload_n (pc := 64) d_Li_compares_64 (x := p1) rfl ?_
      refine r_icmp_ne (pc := 65) d_Li_compares_65 (tgt := 72) (by decide) (fun c7 => ?_) (fun c7 => ?_)
      · replace h := h.1 c7
        refine r_iconst (pc := 72) d_Li_compares_72 (v := 0) (by decide) ?_
        exact r_zreturn (pc := 73) d_Li_compares_73 (v := 0) rfl (by decide) rfl (Nat.le_refl _) ⟨rfl, _, rfl, h⟩
      · replace h := h.2 c7
        refine r_iconst (pc := 68) d_Li_compares_68 (v := 1) (by decide) ?_
        refine r_goto (pc := 69) d_Li_compares_69 (tgt := 73) (by decide) ?_
        exact r_zreturn (pc := 73) d_Li_compares_73 (v := 1) rfl (by decide) rfl (Nat.le_refl _) ⟨rfl, _, rfl, h⟩
    · replace h := h.2 c2
      refine r_aload_n (pc := 32) d_Li_compares_32 (x := a) rfl ?_
      obtain ⟨r8, er8, h⟩ := h
      refine r_getR (pc := 33) d_Li_compares_33 f_Li_9 sa (Or.inl ⟨_, rfl⟩) (r := r8) er8 ?_
      obtain ⟨s9, h⟩ := h
      obtain ⟨r10, er10, h⟩ := h
      refine r_getR (pc := 36) d_Li_compares_36 f_Li_113 s9 (Or.inl ⟨_, rfl⟩) (r := r10) er10 ?_
      obtain ⟨s11, h⟩ := h
      refine r_getI (pc := 39) d_Li_compares_39 f_Li_117 s11 rfl ?_
      refine r_iload_n (pc := 42) d_Li_compares_42 (x := p1) rfl ?_
      refine r_icmp_le (pc := 43) d_Li_compares_43 (tgt := 50) (by decide) (fun c12 => ?_) (fun c12 => ?_)
      · replace h := h.1 c12
        refine r_iconst (pc := 50) d_Li_compares_50 (v := 0) (by decide) ?_
        refine r_goto (pc := 51) d_Li_compares_51 (tgt := 73) (by decide) ?_
        exact r_zreturn (pc := 73) d_Li_compares_73 (v := 0) rfl (by decide) rfl (Nat.le_refl _) ⟨rfl, _, rfl, h⟩
      · replace h := h.2 c12
        refine r_iconst (pc := 46) d_Li_compares_46 (v := 1) (by decide) ?_
        refine r_goto (pc := 47) d_Li_compares_47 (tgt := 73) (by decide) ?_
        exact r_zreturn (pc := 73) d_Li_compares_73 (v := 1) rfl (by decide) rfl (Nat.le_refl _) ⟨rfl, _, rfl, h⟩
  · replace h := h.2 c1
    refine r_aload_n (pc := 6) d_Li_compares_6 (x := a) rfl ?_
    obtain ⟨r13, er13, h⟩ := h
    refine r_getR (pc := 7) d_Li_compares_7 f_Li_9 sa (Or.inl ⟨_, rfl⟩) (r := r13) er13 ?_
    obtain ⟨s14, h⟩ := h
    obtain ⟨r15, er15, h⟩ := h
    refine r_getR (pc := 10) d_Li_compares_10 f_Li_113 s14 (Or.inl ⟨_, rfl⟩) (r := r15) er15 ?_
    obtain ⟨s16, h⟩ := h
    refine r_getI (pc := 13) d_Li_compares_13 f_Li_117 s16 rfl ?_
    refine r_iload_n (pc := 16) d_Li_compares_16 (x := p1) rfl ?_
    refine r_icmp_ge (pc := 17) d_Li_compares_17 (tgt := 24) (by decide) (fun c17 => ?_) (fun c17 => ?_)
    · replace h := h.1 c17
      refine r_iconst (pc := 24) d_Li_compares_24 (v := 0) (by decide) ?_
      exact r_zreturn (pc := 25) d_Li_compares_25 (v := 0) rfl (by decide) rfl (Nat.le_refl _) ⟨rfl, _, rfl, h⟩
    · replace h := h.2 c17
      refine r_iconst (pc := 20) d_Li_compares_20 (v := 1) (by decide) ?_
      refine r_goto (pc := 21) d_Li_compares_21 (tgt := 25) (by decide) ?_
      exact r_zreturn (pc := 25) d_Li_compares_25 (v := 1) rfl (by decide) rfl (Nat.le_refl _) ⟨rfl, _, rfl, h⟩
