set_option maxRecDepth 4000 in
theorem e_Md_wrongDance {l : Launch} {d : Nat} {sh : aw_SH} {S : aw_S} {P : Int32 → aw_S → Prop} {a : Nat} {p0 : Int32} {p1 : Int32} (sa : sh[a]? = some (0, 11)) (h : Sp l m_Md_isTray d 0 0 [.int p0] sh S (gI sh (fun x2 S1 => ((x2 = 0 → P 1 S1) ∧ (¬ x2 = 0 → Sp l m_Md_isFrom d 0 0 [.long p1.toInt64, .long 0, .long 40] sh S1 (gI sh (fun x5 S4 => ((¬ x5 = 0 → ∃ r7, S4.2.2 a 6 = some r7 ∧ ∃ n9, sh[r7]? = some (3, n9) ∧ vp_in p0 n9 ∧ ((¬ (S4.1 r7 p0.toNatClampNeg) = (-1) → vp_in p0 n9 ∧ ((p1 ≤ (S4.1 r7 p0.toNatClampNeg) → AW l m_Md_wrongDance (d + 1) 0 0 (gI sh P) 0 0 47 [.ref a, .int p0, .int p1, .int 0] [] sh S4) ∧ (¬ p1 ≤ (S4.1 r7 p0.toNatClampNeg) → P 3 S4))) ∧ ((S4.1 r7 p0.toNatClampNeg) = (-1) → P 2 S4))) ∧ (x5 = 0 → P 1 S4))))))))) : Sp l m_Md_wrongDance (d + 1) 0 0 [.ref a, .int p0, .int p1] sh S (gI sh P) := by
  refine Sp.of k_Md_wrongDance (ls := [.ref a, .int p0, .int p1, .null]) rfl (Nat.le_of_ble_eq_true rfl) ?_
  refine r_iload_n (pc := 0) d_Md_wrongDance_0 (x := p0) rfl ?_
  refine r_callS (pc := 1) (k := 0) (As := [.int p0]) (rest := []) (mc' := 0) (ms' := 0) lk_Md_129 st_Md_isTray d_Md_wrongDance_1 k_Md_isTray rfl rfl (Nat.le_of_ble_eq_true rfl) (by decide) (by decide) (Sp.mono h ?_)
  rintro rS1 shS1 S1 ⟨qS1, x2, uS1, h⟩
  subst uS1
  rw [qS1]
  refine r_if_eq (pc := 4) d_Md_wrongDance_4 (tgt := 19) (by decide) (fun c3 => ?_) (fun c3 => ?_)
  · replace h := h.1 c3
    refine r_iconst (pc := 19) d_Md_wrongDance_19 (v := 1) (by decide) ?_
    exact r_ireturn (pc := 20) d_Md_wrongDance_20 rfl rfl (Nat.le_refl _) ⟨rfl, _, rfl, h⟩
  · replace h := h.2 c3
    refine r_iload_n (pc := 7) d_Md_wrongDance_7 (x := p1) rfl ?_
    refine r_i2l (pc := 8) d_Md_wrongDance_8 ?_
    refine r_lconst (pc := 9) d_Md_wrongDance_9 (v := 0) (by decide) ?_
    refine r_ldc2 (pc := 10) d_Md_wrongDance_10 cl_Md_384 ?_
    refine r_callS (pc := 13) (k := 0) (As := [.long p1.toInt64, .long 0, .long 40]) (rest := []) (mc' := 0) (ms' := 0) lk_Md_372 st_Md_isFrom d_Md_wrongDance_13 k_Md_isFrom rfl rfl (Nat.le_of_ble_eq_true rfl) (by decide) (by decide) (Sp.mono h ?_)
    rintro rS4 shS4 S4 ⟨qS4, x5, uS4, h⟩
    subst uS4
    rw [qS4]
    refine r_if_ne (pc := 16) d_Md_wrongDance_16 (tgt := 21) (by decide) (fun c6 => ?_) (fun c6 => ?_)
    · replace h := h.1 c6
      refine r_aload_n (pc := 21) d_Md_wrongDance_21 (x := a) rfl ?_
      obtain ⟨r7, er7, h⟩ := h
      refine r_getR (pc := 22) d_Md_wrongDance_22 f_Md_24 sa (Or.inr ⟨_, rfl⟩) (r := r7) er7 ?_
      refine r_iload_n (pc := 25) d_Md_wrongDance_25 (x := p0) rfl ?_
      obtain ⟨n9, s8, h⟩ := h
      obtain ⟨g10, h⟩ := h
      refine r_iald (pc := 26) d_Md_wrongDance_26 s8 g10 ?_
      refine r_iconst (pc := 27) d_Md_wrongDance_27 (v := (-1)) (by decide) ?_
      refine r_icmp_ne (pc := 28) d_Md_wrongDance_28 (tgt := 33) (by decide) (fun c11 => ?_) (fun c11 => ?_)
      · replace h := h.1 c11
        refine r_aload_n (pc := 33) d_Md_wrongDance_33 (x := a) rfl ?_
        refine r_getR (pc := 34) d_Md_wrongDance_34 f_Md_24 sa (Or.inr ⟨_, rfl⟩) (r := r7) er7 ?_
        refine r_iload_n (pc := 37) d_Md_wrongDance_37 (x := p0) rfl ?_
        obtain ⟨g12, h⟩ := h
        refine r_iald (pc := 38) d_Md_wrongDance_38 s8 g12 ?_
        refine r_iload_n (pc := 39) d_Md_wrongDance_39 (x := p1) rfl ?_
        refine r_icmp_ge (pc := 40) d_Md_wrongDance_40 (tgt := 45) (by decide) (fun c13 => ?_) (fun c13 => ?_)
        · replace h := h.1 c13
          refine r_iconst (pc := 45) d_Md_wrongDance_45 (v := 0) (by decide) ?_
          refine r_istore_n (pc := 46) (hk := rfl) (hd := d_Md_wrongDance_46) (hi := by decide) (ls2 := [.ref a, .int p0, .int p1, .int 0]) (h2 := rfl) ?_
          exact h
        · replace h := h.2 c13
          refine r_iconst (pc := 43) d_Md_wrongDance_43 (v := 3) (by decide) ?_
          exact r_ireturn (pc := 44) d_Md_wrongDance_44 rfl rfl (Nat.le_refl _) ⟨rfl, _, rfl, h⟩
      · replace h := h.2 c11
        refine r_iconst (pc := 31) d_Md_wrongDance_31 (v := 2) (by decide) ?_
        exact r_ireturn (pc := 32) d_Md_wrongDance_32 rfl rfl (Nat.le_refl _) ⟨rfl, _, rfl, h⟩
    · replace h := h.2 c6
      refine r_iconst (pc := 19) d_Md_wrongDance_19 (v := 1) (by decide) ?_
      exact r_ireturn (pc := 20) d_Md_wrongDance_20 rfl rfl (Nat.le_refl _) ⟨rfl, _, rfl, h⟩
set_option maxRecDepth 4000 in
theorem s_Md_wrongDance_47 {l : Launch} {d : Nat} {sh : aw_SH} {S : aw_S} {P : Int32 → aw_S → Prop} {a : Nat} {i1 : Int32} {i2 : Int32} {i3 : Int32} (sa : sh[a]? = some (0, 11)) (h : ((i2 ≤ i3 → P 0 S) ∧ (¬ i2 ≤ i3 → ∃ r2, S.2.2 a 7 = some r2 ∧ ∃ n4, sh[r2]? = some (4, n4) ∧ vp_in (((60 : Int32) * i1) + i3) n4 ∧ Sp l m_Md_gapsOf d 0 0 [.ref a, .int 0] sh S (gI sh (fun x7 S6 => Sp l m_Md_isFrom d 0 0 [.long (S.2.1 r2 (((60 : Int32) * i1) + i3 : Int32).toNatClampNeg), .long 0, .long (((2 : Int64) * x7.toInt64) - (1 : Int64))] sh S6 (gI sh (fun x9 S8 => ((¬ x9 = 0 → AW l m_Md_wrongDance (d + 1) 0 0 (gI sh P) 0 0 47 [.ref a, .int i1, .int i2, .int (i3 + 1)] [] sh S8) ∧ (x9 = 0 → P 5 S8))))))))) : AW l m_Md_wrongDance (d + 1) 0 0 (gI sh P) 0 0 47 [.ref a, .int i1, .int i2, .int i3] [] sh S := by
  refine r_iload_n (pc := 47) d_Md_wrongDance_47 (x := i3) rfl ?_
  refine r_iload_n (pc := 48) d_Md_wrongDance_48 (x := i2) rfl ?_
  refine r_icmp_ge (pc := 49) d_Md_wrongDance_49 (tgt := 90) (by decide) (fun c1 => ?_) (fun c1 => ?_)
  · replace h := h.1 c1
    refine r_iconst (pc := 90) d_Md_wrongDance_90 (v := 0) (by decide) ?_
    exact r_ireturn (pc := 91) d_Md_wrongDance_91 rfl rfl (Nat.le_refl _) ⟨rfl, _, rfl, h⟩
  · replace h := h.2 c1
    refine r_aload_n (pc := 52) d_Md_wrongDance_52 (x := a) rfl ?_
    obtain ⟨r2, er2, h⟩ := h
    refine r_getR (pc := 53) d_Md_wrongDance_53 f_Md_27 sa (Or.inr ⟨_, rfl⟩) (r := r2) er2 ?_
    refine r_bipush (pc := 56) d_Md_wrongDance_56 (v := 60) (by decide) ?_
    refine r_iload_n (pc := 58) d_Md_wrongDance_58 (x := i1) rfl ?_
    refine r_imul (pc := 59) d_Md_wrongDance_59 ?_
    refine r_iload_n (pc := 60) d_Md_wrongDance_60 (x := i3) rfl ?_
    refine r_iadd (pc := 61) d_Md_wrongDance_61 ?_
    obtain ⟨n4, s3, h⟩ := h
    obtain ⟨g5, h⟩ := h
    refine r_lald (pc := 62) d_Md_wrongDance_62 s3 g5 ?_
    refine r_lconst (pc := 63) d_Md_wrongDance_63 (v := 0) (by decide) ?_
    refine r_ldc2 (pc := 64) d_Md_wrongDance_64 cl_Md_405 ?_
    refine r_aload_n (pc := 67) d_Md_wrongDance_67 (x := a) rfl ?_
    refine r_iconst (pc := 68) d_Md_wrongDance_68 (v := 0) (by decide) ?_
    refine r_callV (pc := 69) (k := a) (As := [.int 0]) (rest := [.long 2, .long 0, .long (S.2.1 r2 (((60 : Int32) * i1) + i3 : Int32).toNatClampNeg)]) (mc' := 0) (ms' := 0) lk_Md_260 in_Md_gapsOf se_Md_gapsOf sa rfl d_Md_wrongDance_69 k_Md_gapsOf rfl rfl (Nat.le_of_ble_eq_true rfl) (by decide) (by decide) (Sp.mono h ?_)
    rintro rS6 shS6 S6 ⟨qS6, x7, uS6, h⟩
    subst uS6
    rw [qS6]
    refine r_i2l (pc := 72) d_Md_wrongDance_72 ?_
    refine r_lmul (pc := 73) d_Md_wrongDance_73 ?_
    refine r_lconst (pc := 74) d_Md_wrongDance_74 (v := 1) (by decide) ?_
    refine r_lsub (pc := 75) d_Md_wrongDance_75 ?_
    refine r_callS (pc := 76) (k := 0) (As := [.long (S.2.1 r2 (((60 : Int32) * i1) + i3 : Int32).toNatClampNeg), .long 0, .long (((2 : Int64) * x7.toInt64) - (1 : Int64))]) (rest := []) (mc' := 0) (ms' := 0) lk_Md_372 st_Md_isFrom d_Md_wrongDance_76 k_Md_isFrom rfl rfl (Nat.le_of_ble_eq_true rfl) (by decide) (by decide) (Sp.mono h ?_)
    rintro rS8 shS8 S8 ⟨qS8, x9, uS8, h⟩
    subst uS8
    rw [qS8]
    refine r_if_ne (pc := 79) d_Md_wrongDance_79 (tgt := 84) (by decide) (fun c10 => ?_) (fun c10 => ?_)
    · replace h := h.1 c10
      refine r_iinc (pc := 84) d_Md_wrongDance_84 (hi := by decide) (x := i3) rfl (v := i3 + 1) rfl (ls2 := [.ref a, .int i1, .int i2, .int (i3 + 1)]) rfl ?_
      refine r_goto (pc := 87) d_Md_wrongDance_87 (tgt := 47) (by decide) ?_
      exact h
    · replace h := h.2 c10
      refine r_iconst (pc := 82) d_Md_wrongDance_82 (v := 5) (by decide) ?_
      exact r_ireturn (pc := 83) d_Md_wrongDance_83 rfl rfl (Nat.le_refl _) ⟨rfl, _, rfl, h⟩
set_option maxRecDepth 4000 in
theorem e_Md_laysDance {l : Launch} {d : Nat} {sh : aw_SH} {S : aw_S} {P : aw_S → Prop} {a : Nat} {p0 : Int32} {p1 : Int32} {p2 : Int32} (sa : sh[a]? = some (0, 11)) (h : AW l m_Md_laysDance (d + 1) 0 0 (gV sh P) 0 0 8 [.ref a, .int p0, .int p1, .int p2, .int 0, .null] [] sh (aw_uI S a 33 0)) : Sp l m_Md_laysDance (d + 1) 0 0 [.ref a, .int p0, .int p1, .int p2] sh S (gV sh P) := by
  refine Sp.of k_Md_laysDance (ls := [.ref a, .int p0, .int p1, .int p2, .null, .null]) rfl (Nat.le_of_ble_eq_true rfl) ?_
  refine r_aload_n (pc := 0) d_Md_laysDance_0 (x := a) rfl ?_
  refine r_iconst (pc := 1) d_Md_laysDance_1 (v := 0) (by decide) ?_
  refine r_putI (pc := 2) d_Md_laysDance_2 f_Md_407 sa rfl ?_
  refine r_iconst (pc := 5) d_Md_laysDance_5 (v := 0) (by decide) ?_
  refine r_istore (pc := 6) (hd := d_Md_laysDance_6) (hi := by decide) (ls2 := [.ref a, .int p0, .int p1, .int p2, .int 0, .null]) (h2 := rfl) ?_
  exact h
set_option maxRecDepth 4000 in
theorem s_Md_laysDance_8 {l : Launch} {d : Nat} {sh : aw_SH} {S : aw_S} {P : aw_S → Prop} {a : Nat} {i1 : Int32} {i2 : Int32} {i3 : Int32} {i4 : Int32} (sa : sh[a]? = some (0, 11)) (h : ((i2 ≤ i4 → P S) ∧ (¬ i2 ≤ i4 → ∃ r2, S.2.2 a 7 = some r2 ∧ ∃ n4, sh[r2]? = some (4, n4) ∧ vp_in (((60 : Int32) * i1) + i4) n4 ∧ ∀ v6 : Int32, v6 = (S.2.1 r2 (((60 : Int32) * i1) + i4 : Int32).toNatClampNeg).toInt32 → ((¬ i4 = i3 → Sp l m_Md_addsDance d 0 0 [.ref a, .int (v6 / (2 : Int32)), .int (v6 - v6 / (2 : Int32) * (2 : Int32))] sh S (gV sh (fun S8 => AW l m_Md_laysDance (d + 1) 0 0 (gV sh P) 0 0 8 [.ref a, .int i1, .int i2, .int i3, .int (i4 + 1), .null] [] sh S8))) ∧ (i4 = i3 → Sp l m_Md_addsDance d 0 0 [.ref a, .int (v6 / (2 : Int32)), .int ((1 : Int32) - (v6 - v6 / (2 : Int32) * (2 : Int32)))] sh S (gV sh (fun S9 => AW l m_Md_laysDance (d + 1) 0 0 (gV sh P) 0 0 8 [.ref a, .int i1, .int i2, .int i3, .int (i4 + 1), .null] [] sh S9))))))) : AW l m_Md_laysDance (d + 1) 0 0 (gV sh P) 0 0 8 [.ref a, .int i1, .int i2, .int i3, .int i4, .null] [] sh S := by
  refine r_iload (pc := 8) d_Md_laysDance_8 (x := i4) rfl ?_
  refine r_iload_n (pc := 10) d_Md_laysDance_10 (x := i2) rfl ?_
  refine r_icmp_ge (pc := 11) d_Md_laysDance_11 (tgt := 62) (by decide) (fun c1 => ?_) (fun c1 => ?_)
  · replace h := h.1 c1
    exact r_return (pc := 62) d_Md_laysDance_62 rfl rfl (Nat.le_refl _) ⟨rfl, rfl, h⟩
  · replace h := h.2 c1
    refine r_aload_n (pc := 14) d_Md_laysDance_14 (x := a) rfl ?_
    obtain ⟨r2, er2, h⟩ := h
    refine r_getR (pc := 15) d_Md_laysDance_15 f_Md_27 sa (Or.inr ⟨_, rfl⟩) (r := r2) er2 ?_
    refine r_bipush (pc := 18) d_Md_laysDance_18 (v := 60) (by decide) ?_
    refine r_iload_n (pc := 20) d_Md_laysDance_20 (x := i1) rfl ?_
    refine r_imul (pc := 21) d_Md_laysDance_21 ?_
    refine r_iload (pc := 22) d_Md_laysDance_22 (x := i4) rfl ?_
    refine r_iadd (pc := 24) d_Md_laysDance_24 ?_
    obtain ⟨n4, s3, h⟩ := h
    obtain ⟨g5, h⟩ := h
    refine r_lald (pc := 25) d_Md_laysDance_25 s3 g5 ?_
    refine r_l2i (pc := 26) d_Md_laysDance_26 ?_
    refine r_ni (fun v6 ev6 => ?_)
    replace h := h v6 ev6
    refine r_istore (pc := 27) (hd := d_Md_laysDance_27) (hi := by decide) (ls2 := [.ref a, .int i1, .int i2, .int i3, .int i4, .int v6]) (h2 := rfl) ?_
    refine r_aload_n (pc := 29) d_Md_laysDance_29 (x := a) rfl ?_
    refine r_iload (pc := 30) d_Md_laysDance_30 (x := v6) rfl ?_
    refine r_iconst (pc := 32) d_Md_laysDance_32 (v := 2) (by decide) ?_
    refine r_idiv (pc := 33) d_Md_laysDance_33 (by decide) ?_
    refine r_iload (pc := 34) d_Md_laysDance_34 (x := i4) rfl ?_
    refine r_iload_n (pc := 36) d_Md_laysDance_36 (x := i3) rfl ?_
    refine r_icmp_ne (pc := 37) d_Md_laysDance_37 (tgt := 49) (by decide) (fun c7 => ?_) (fun c7 => ?_)
    · replace h := h.1 c7
      refine r_iload (pc := 49) d_Md_laysDance_49 (x := v6) rfl ?_
      refine r_iconst (pc := 51) d_Md_laysDance_51 (v := 2) (by decide) ?_
      refine r_irem (pc := 52) d_Md_laysDance_52 (by decide) ?_
      refine r_callV (pc := 53) (k := a) (As := [.int (v6 / (2 : Int32)), .int (v6 - v6 / (2 : Int32) * (2 : Int32))]) (rest := []) (mc' := 0) (ms' := 0) lk_Md_410 in_Md_addsDance se_Md_addsDance sa rfl d_Md_laysDance_53 k_Md_addsDance rfl rfl (Nat.le_of_ble_eq_true rfl) (by decide) (by decide) (Sp.mono h ?_)
      rintro rS8 shS8 S8 ⟨qS8, uS8, h⟩
      subst uS8
      rw [qS8]
      refine r_iinc (pc := 56) d_Md_laysDance_56 (hi := by decide) (x := i4) rfl (v := i4 + 1) rfl (ls2 := [.ref a, .int i1, .int i2, .int i3, .int (i4 + 1), .int v6]) rfl ?_
      refine r_goto (pc := 59) d_Md_laysDance_59 (tgt := 8) (by decide) ?_
      exact r_weak (ls2 := [.ref a, .int i1, .int i2, .int i3, .int (i4 + 1), .null]) ⟨Or.inr rfl, Or.inr rfl, Or.inr rfl, Or.inr rfl, Or.inr rfl, Or.inl rfl, trivial⟩ h
    · replace h := h.2 c7
      refine r_iconst (pc := 40) d_Md_laysDance_40 (v := 1) (by decide) ?_
      refine r_iload (pc := 41) d_Md_laysDance_41 (x := v6) rfl ?_
      refine r_iconst (pc := 43) d_Md_laysDance_43 (v := 2) (by decide) ?_
      refine r_irem (pc := 44) d_Md_laysDance_44 (by decide) ?_
      refine r_isub (pc := 45) d_Md_laysDance_45 ?_
      refine r_goto (pc := 46) d_Md_laysDance_46 (tgt := 53) (by decide) ?_
      refine r_callV (pc := 53) (k := a) (As := [.int (v6 / (2 : Int32)), .int ((1 : Int32) - (v6 - v6 / (2 : Int32) * (2 : Int32)))]) (rest := []) (mc' := 0) (ms' := 0) lk_Md_410 in_Md_addsDance se_Md_addsDance sa rfl d_Md_laysDance_53 k_Md_addsDance rfl rfl (Nat.le_of_ble_eq_true rfl) (by decide) (by decide) (Sp.mono h ?_)
      rintro rS9 shS9 S9 ⟨qS9, uS9, h⟩
      subst uS9
      rw [qS9]
      refine r_iinc (pc := 56) d_Md_laysDance_56 (hi := by decide) (x := i4) rfl (v := i4 + 1) rfl (ls2 := [.ref a, .int i1, .int i2, .int i3, .int (i4 + 1), .int v6]) rfl ?_
      refine r_goto (pc := 59) d_Md_laysDance_59 (tgt := 8) (by decide) ?_
      exact r_weak (ls2 := [.ref a, .int i1, .int i2, .int i3, .int (i4 + 1), .null]) ⟨Or.inr rfl, Or.inr rfl, Or.inr rfl, Or.inr rfl, Or.inr rfl, Or.inl rfl, trivial⟩ h
set_option maxRecDepth 4000 in
theorem e_Md_addsDance {l : Launch} {d : Nat} {sh : aw_SH} {S : aw_S} {P : aw_S → Prop} {a : Nat} {p0 : Int32} {p1 : Int32} (sa : sh[a]? = some (0, 11)) (h : AW l m_Md_addsDance (d + 1) 0 0 (gV sh P) 0 0 5 [.ref a, .int p0, .int p1, .int (-1), .int 0, .null] [] sh S) : Sp l m_Md_addsDance (d + 1) 0 0 [.ref a, .int p0, .int p1] sh S (gV sh P) := by
  refine Sp.of k_Md_addsDance (ls := [.ref a, .int p0, .int p1, .null, .null, .null]) rfl (Nat.le_of_ble_eq_true rfl) ?_
  refine r_iconst (pc := 0) d_Md_addsDance_0 (v := (-1)) (by decide) ?_
  refine r_istore_n (pc := 1) (hk := rfl) (hd := d_Md_addsDance_1) (hi := by decide) (ls2 := [.ref a, .int p0, .int p1, .int (-1), .null, .null]) (h2 := rfl) ?_
  refine r_iconst (pc := 2) d_Md_addsDance_2 (v := 0) (by decide) ?_
  refine r_istore (pc := 3) (hd := d_Md_addsDance_3) (hi := by decide) (ls2 := [.ref a, .int p0, .int p1, .int (-1), .int 0, .null]) (h2 := rfl) ?_
  exact h
set_option maxRecDepth 4000 in
theorem s_Md_addsDance_5 {l : Launch} {d : Nat} {sh : aw_SH} {S : aw_S} {P : aw_S → Prop} {a : Nat} {i1 : Int32} {i2 : Int32} {i3 : Int32} {i4 : Int32} (sa : sh[a]? = some (0, 11)) (h : (((S.1 a 33) ≤ i4 → ((i3 = (-1) → AW l m_Md_addsDance (d + 1) 0 0 (gV sh P) 0 0 61 [.ref a, .int i1, .int i2, .int i3, .int 0, .int (i3 + (1 : Int32))] [] sh S) ∧ (¬ i3 = (-1) → ∃ r3, S.2.2 a 32 = some r3 ∧ ∃ n5, sh[r3]? = some (3, n5) ∧ vp_in i3 n5 ∧ (((S.1 r3 i3.toNatClampNeg) = i2 → AW l m_Md_addsDance (d + 1) 0 0 (gV sh P) 0 0 61 [.ref a, .int i1, .int i2, .int i3, .int 0, .int (i3 + (1 : Int32))] [] sh S) ∧ (¬ (S.1 r3 i3.toNatClampNeg) = i2 → AW l m_Md_addsDance (d + 1) 0 0 (gV sh P) 0 0 61 [.ref a, .int i1, .int i2, .int i3, .int 1, .int (i3 + (1 : Int32))] [] sh S))))) ∧ (¬ (S.1 a 33) ≤ i4 → ∃ r8, S.2.2 a 31 = some r8 ∧ ∃ n10, sh[r8]? = some (3, n10) ∧ vp_in i4 n10 ∧ ((¬ (S.1 r8 i4.toNatClampNeg) = i1 → AW l m_Md_addsDance (d + 1) 0 0 (gV sh P) 0 0 5 [.ref a, .int i1, .int i2, .int i3, .int (i4 + 1), .null] [] sh S) ∧ ((S.1 r8 i4.toNatClampNeg) = i1 → AW l m_Md_addsDance (d + 1) 0 0 (gV sh P) 0 0 5 [.ref a, .int i1, .int i2, .int i4, .int (i4 + 1), .null] [] sh S))))) : AW l m_Md_addsDance (d + 1) 0 0 (gV sh P) 0 0 5 [.ref a, .int i1, .int i2, .int i3, .int i4, .null] [] sh S := by
  refine r_iload (pc := 5) d_Md_addsDance_5 (x := i4) rfl ?_
  refine r_aload_n (pc := 7) d_Md_addsDance_7 (x := a) rfl ?_
  refine r_getI (pc := 8) d_Md_addsDance_8 f_Md_407 sa rfl ?_
  refine r_icmp_ge (pc := 11) d_Md_addsDance_11 (tgt := 34) (by decide) (fun c1 => ?_) (fun c1 => ?_)
  · replace h := h.1 c1
    refine r_iload_n (pc := 34) d_Md_addsDance_34 (x := i3) rfl ?_
    refine r_iconst (pc := 35) d_Md_addsDance_35 (v := (-1)) (by decide) ?_
    refine r_icmp_eq (pc := 36) d_Md_addsDance_36 (tgt := 53) (by decide) (fun c2 => ?_) (fun c2 => ?_)
    · replace h := h.1 c2
      refine r_iconst (pc := 53) d_Md_addsDance_53 (v := 0) (by decide) ?_
      refine r_istore (pc := 54) (hd := d_Md_addsDance_54) (hi := by decide) (ls2 := [.ref a, .int i1, .int i2, .int i3, .int 0, .null]) (h2 := rfl) ?_
      refine r_iload_n (pc := 56) d_Md_addsDance_56 (x := i3) rfl ?_
      refine r_iconst (pc := 57) d_Md_addsDance_57 (v := 1) (by decide) ?_
      refine r_iadd (pc := 58) d_Md_addsDance_58 ?_
      refine r_istore (pc := 59) (hd := d_Md_addsDance_59) (hi := by decide) (ls2 := [.ref a, .int i1, .int i2, .int i3, .int 0, .int (i3 + (1 : Int32))]) (h2 := rfl) ?_
      exact h
    · replace h := h.2 c2
      refine r_aload_n (pc := 39) d_Md_addsDance_39 (x := a) rfl ?_
      obtain ⟨r3, er3, h⟩ := h
      refine r_getR (pc := 40) d_Md_addsDance_40 f_Md_66 sa (Or.inr ⟨_, rfl⟩) (r := r3) er3 ?_
      refine r_iload_n (pc := 43) d_Md_addsDance_43 (x := i3) rfl ?_
      obtain ⟨n5, s4, h⟩ := h
      obtain ⟨g6, h⟩ := h
      refine r_iald (pc := 44) d_Md_addsDance_44 s4 g6 ?_
      refine r_iload_n (pc := 45) d_Md_addsDance_45 (x := i2) rfl ?_
      refine r_icmp_eq (pc := 46) d_Md_addsDance_46 (tgt := 53) (by decide) (fun c7 => ?_) (fun c7 => ?_)
      · replace h := h.1 c7
        refine r_iconst (pc := 53) d_Md_addsDance_53 (v := 0) (by decide) ?_
        refine r_istore (pc := 54) (hd := d_Md_addsDance_54) (hi := by decide) (ls2 := [.ref a, .int i1, .int i2, .int i3, .int 0, .null]) (h2 := rfl) ?_
        refine r_iload_n (pc := 56) d_Md_addsDance_56 (x := i3) rfl ?_
        refine r_iconst (pc := 57) d_Md_addsDance_57 (v := 1) (by decide) ?_
        refine r_iadd (pc := 58) d_Md_addsDance_58 ?_
        refine r_istore (pc := 59) (hd := d_Md_addsDance_59) (hi := by decide) (ls2 := [.ref a, .int i1, .int i2, .int i3, .int 0, .int (i3 + (1 : Int32))]) (h2 := rfl) ?_
        exact h
      · replace h := h.2 c7
        refine r_iconst (pc := 49) d_Md_addsDance_49 (v := 1) (by decide) ?_
        refine r_goto (pc := 50) d_Md_addsDance_50 (tgt := 54) (by decide) ?_
        refine r_istore (pc := 54) (hd := d_Md_addsDance_54) (hi := by decide) (ls2 := [.ref a, .int i1, .int i2, .int i3, .int 1, .null]) (h2 := rfl) ?_
        refine r_iload_n (pc := 56) d_Md_addsDance_56 (x := i3) rfl ?_
        refine r_iconst (pc := 57) d_Md_addsDance_57 (v := 1) (by decide) ?_
        refine r_iadd (pc := 58) d_Md_addsDance_58 ?_
        refine r_istore (pc := 59) (hd := d_Md_addsDance_59) (hi := by decide) (ls2 := [.ref a, .int i1, .int i2, .int i3, .int 1, .int (i3 + (1 : Int32))]) (h2 := rfl) ?_
        exact h
  · replace h := h.2 c1
    refine r_aload_n (pc := 14) d_Md_addsDance_14 (x := a) rfl ?_
    obtain ⟨r8, er8, h⟩ := h
    refine r_getR (pc := 15) d_Md_addsDance_15 f_Md_63 sa (Or.inr ⟨_, rfl⟩) (r := r8) er8 ?_
    refine r_iload (pc := 18) d_Md_addsDance_18 (x := i4) rfl ?_
    obtain ⟨n10, s9, h⟩ := h
    obtain ⟨g11, h⟩ := h
    refine r_iald (pc := 20) d_Md_addsDance_20 s9 g11 ?_
    refine r_iload_n (pc := 21) d_Md_addsDance_21 (x := i1) rfl ?_
    refine r_icmp_ne (pc := 22) d_Md_addsDance_22 (tgt := 28) (by decide) (fun c12 => ?_) (fun c12 => ?_)
    · replace h := h.1 c12
      refine r_iinc (pc := 28) d_Md_addsDance_28 (hi := by decide) (x := i4) rfl (v := i4 + 1) rfl (ls2 := [.ref a, .int i1, .int i2, .int i3, .int (i4 + 1), .null]) rfl ?_
      refine r_goto (pc := 31) d_Md_addsDance_31 (tgt := 5) (by decide) ?_
      exact h
    · replace h := h.2 c12
      refine r_iload (pc := 25) d_Md_addsDance_25 (x := i4) rfl ?_
      refine r_istore_n (pc := 27) (hk := rfl) (hd := d_Md_addsDance_27) (hi := by decide) (ls2 := [.ref a, .int i1, .int i2, .int i4, .int i4, .null]) (h2 := rfl) ?_
      refine r_iinc (pc := 28) d_Md_addsDance_28 (hi := by decide) (x := i4) rfl (v := i4 + 1) rfl (ls2 := [.ref a, .int i1, .int i2, .int i4, .int (i4 + 1), .null]) rfl ?_
      refine r_goto (pc := 31) d_Md_addsDance_31 (tgt := 5) (by decide) ?_
      exact h
set_option maxRecDepth 4000 in
theorem s_Md_addsDance_61 {l : Launch} {d : Nat} {sh : aw_SH} {S : aw_S} {P : aw_S → Prop} {a : Nat} {i1 : Int32} {i2 : Int32} {i3 : Int32} {i4 : Int32} {i5 : Int32} (sa : sh[a]? = some (0, 11)) (h : (((S.1 a 33) ≤ i5 → ((¬ i4 = 0 → AW l m_Md_addsDance (d + 1) 0 0 (gV sh P) 0 0 153 [.ref a, .null, .null, .null, .null, .int i3] [] sh (aw_uI S a 33 ((S.1 a 33) - (1 : Int32)))) ∧ (i4 = 0 → ∃ r3, S.2.2 a 31 = some r3 ∧ ∃ n5, sh[r3]? = some (3, n5) ∧ vp_in (S.1 a 33) n5 ∧ ∃ r7, (aw_uI S r3 ((S.1 a 33 : Int32).toNatClampNeg) i1).2.2 a 32 = some r7 ∧ ∃ n9, sh[r7]? = some (3, n9) ∧ vp_in ((aw_uI S r3 ((S.1 a 33 : Int32).toNatClampNeg) i1).1 a 33) n9 ∧ P (aw_uI (aw_uI (aw_uI S r3 ((S.1 a 33 : Int32).toNatClampNeg) i1) r7 (((aw_uI S r3 ((S.1 a 33 : Int32).toNatClampNeg) i1).1 a 33 : Int32).toNatClampNeg) i2) a 33 (((aw_uI (aw_uI S r3 ((S.1 a 33 : Int32).toNatClampNeg) i1) r7 (((aw_uI S r3 ((S.1 a 33 : Int32).toNatClampNeg) i1).1 a 33 : Int32).toNatClampNeg) i2).1 a 33) + (1 : Int32)))))) ∧ (¬ (S.1 a 33) ≤ i5 → ((i4 = 0 → ((¬ i4 = 0 → AW l m_Md_addsDance (d + 1) 0 0 (gV sh P) 0 0 153 [.ref a, .null, .null, .null, .null, .int i3] [] sh (aw_uI S a 33 ((S.1 a 33) - (1 : Int32)))) ∧ (i4 = 0 → ∃ r13, S.2.2 a 31 = some r13 ∧ ∃ n15, sh[r13]? = some (3, n15) ∧ vp_in (S.1 a 33) n15 ∧ ∃ r17, (aw_uI S r13 ((S.1 a 33 : Int32).toNatClampNeg) i1).2.2 a 32 = some r17 ∧ ∃ n19, sh[r17]? = some (3, n19) ∧ vp_in ((aw_uI S r13 ((S.1 a 33 : Int32).toNatClampNeg) i1).1 a 33) n19 ∧ P (aw_uI (aw_uI (aw_uI S r13 ((S.1 a 33 : Int32).toNatClampNeg) i1) r17 (((aw_uI S r13 ((S.1 a 33 : Int32).toNatClampNeg) i1).1 a 33 : Int32).toNatClampNeg) i2) a 33 (((aw_uI (aw_uI S r13 ((S.1 a 33 : Int32).toNatClampNeg) i1) r17 (((aw_uI S r13 ((S.1 a 33 : Int32).toNatClampNeg) i1).1 a 33 : Int32).toNatClampNeg) i2).1 a 33) + (1 : Int32)))))) ∧ (¬ i4 = 0 → ∃ r21, S.2.2 a 31 = some r21 ∧ ∃ n23, sh[r21]? = some (3, n23) ∧ vp_in i5 n23 ∧ Sp l m_Md_isTouching d 0 0 [.ref a, .int 0, .int (S.1 r21 i5.toNatClampNeg), .int i1] sh S (gI sh (fun x26 S25 => ((¬ x26 = 0 → AW l m_Md_addsDance (d + 1) 0 0 (gV sh P) 0 0 61 [.ref a, .int i1, .int i2, .int i3, .int 0, .int (i5 + 1)] [] sh S25) ∧ (x26 = 0 → AW l m_Md_addsDance (d + 1) 0 0 (gV sh P) 0 0 61 [.ref a, .int i1, .int i2, .int i3, .int 1, .int (i5 + 1)] [] sh S25))))))))) : AW l m_Md_addsDance (d + 1) 0 0 (gV sh P) 0 0 61 [.ref a, .int i1, .int i2, .int i3, .int i4, .int i5] [] sh S := by
  refine r_iload (pc := 61) d_Md_addsDance_61 (x := i5) rfl ?_
  refine r_aload_n (pc := 63) d_Md_addsDance_63 (x := a) rfl ?_
  refine r_getI (pc := 64) d_Md_addsDance_64 f_Md_407 sa rfl ?_
  refine r_icmp_ge (pc := 67) d_Md_addsDance_67 (tgt := 104) (by decide) (fun c1 => ?_) (fun c1 => ?_)
  · replace h := h.1 c1
    refine r_iload (pc := 104) d_Md_addsDance_104 (x := i4) rfl ?_
    refine r_if_ne (pc := 106) d_Md_addsDance_106 (tgt := 140) (by decide) (fun c2 => ?_) (fun c2 => ?_)
    · replace h := h.1 c2
      refine r_aload_n (pc := 140) d_Md_addsDance_140 (x := a) rfl ?_
      refine r_dup (pc := 141) d_Md_addsDance_141 rfl ?_
      refine r_getI (pc := 142) d_Md_addsDance_142 f_Md_407 sa rfl ?_
      refine r_iconst (pc := 145) d_Md_addsDance_145 (v := 1) (by decide) ?_
      refine r_isub (pc := 146) d_Md_addsDance_146 ?_
      refine r_putI (pc := 147) d_Md_addsDance_147 f_Md_407 sa rfl ?_
      refine r_iload_n (pc := 150) d_Md_addsDance_150 (x := i3) rfl ?_
      refine r_istore (pc := 151) (hd := d_Md_addsDance_151) (hi := by decide) (ls2 := [.ref a, .int i1, .int i2, .int i3, .int i4, .int i3]) (h2 := rfl) ?_
      exact r_weak (ls2 := [.ref a, .null, .null, .null, .null, .int i3]) ⟨Or.inr rfl, Or.inl rfl, Or.inl rfl, Or.inl rfl, Or.inl rfl, Or.inr rfl, trivial⟩ h
    · replace h := h.2 c2
      refine r_aload_n (pc := 109) d_Md_addsDance_109 (x := a) rfl ?_
      obtain ⟨r3, er3, h⟩ := h
      refine r_getR (pc := 110) d_Md_addsDance_110 f_Md_63 sa (Or.inr ⟨_, rfl⟩) (r := r3) er3 ?_
      refine r_aload_n (pc := 113) d_Md_addsDance_113 (x := a) rfl ?_
      refine r_getI (pc := 114) d_Md_addsDance_114 f_Md_407 sa rfl ?_
      refine r_iload_n (pc := 117) d_Md_addsDance_117 (x := i1) rfl ?_
      obtain ⟨n5, s4, h⟩ := h
      obtain ⟨g6, h⟩ := h
      refine r_iast (pc := 118) d_Md_addsDance_118 s4 g6 ?_
      refine r_aload_n (pc := 119) d_Md_addsDance_119 (x := a) rfl ?_
      obtain ⟨r7, er7, h⟩ := h
      refine r_getR (pc := 120) d_Md_addsDance_120 f_Md_66 sa (Or.inr ⟨_, rfl⟩) (r := r7) er7 ?_
      refine r_aload_n (pc := 123) d_Md_addsDance_123 (x := a) rfl ?_
      refine r_getI (pc := 124) d_Md_addsDance_124 f_Md_407 sa rfl ?_
      refine r_iload_n (pc := 127) d_Md_addsDance_127 (x := i2) rfl ?_
      obtain ⟨n9, s8, h⟩ := h
      obtain ⟨g10, h⟩ := h
      refine r_iast (pc := 128) d_Md_addsDance_128 s8 g10 ?_
      refine r_aload_n (pc := 129) d_Md_addsDance_129 (x := a) rfl ?_
      refine r_dup (pc := 130) d_Md_addsDance_130 rfl ?_
      refine r_getI (pc := 131) d_Md_addsDance_131 f_Md_407 sa rfl ?_
      refine r_iconst (pc := 134) d_Md_addsDance_134 (v := 1) (by decide) ?_
      refine r_iadd (pc := 135) d_Md_addsDance_135 ?_
      refine r_putI (pc := 136) d_Md_addsDance_136 f_Md_407 sa rfl ?_
      exact r_return (pc := 139) d_Md_addsDance_139 rfl rfl (Nat.le_refl _) ⟨rfl, rfl, h⟩
  · replace h := h.2 c1
    refine r_iload (pc := 70) d_Md_addsDance_70 (x := i4) rfl ?_
    refine r_if_eq (pc := 72) d_Md_addsDance_72 (tgt := 104) (by decide) (fun c11 => ?_) (fun c11 => ?_)
    · replace h := h.1 c11
      refine r_iload (pc := 104) d_Md_addsDance_104 (x := i4) rfl ?_
      refine r_if_ne (pc := 106) d_Md_addsDance_106 (tgt := 140) (by decide) (fun c12 => ?_) (fun c12 => ?_)
      · replace h := h.1 c12
        refine r_aload_n (pc := 140) d_Md_addsDance_140 (x := a) rfl ?_
        refine r_dup (pc := 141) d_Md_addsDance_141 rfl ?_
        refine r_getI (pc := 142) d_Md_addsDance_142 f_Md_407 sa rfl ?_
        refine r_iconst (pc := 145) d_Md_addsDance_145 (v := 1) (by decide) ?_
        refine r_isub (pc := 146) d_Md_addsDance_146 ?_
        refine r_putI (pc := 147) d_Md_addsDance_147 f_Md_407 sa rfl ?_
        refine r_iload_n (pc := 150) d_Md_addsDance_150 (x := i3) rfl ?_
        refine r_istore (pc := 151) (hd := d_Md_addsDance_151) (hi := by decide) (ls2 := [.ref a, .int i1, .int i2, .int i3, .int i4, .int i3]) (h2 := rfl) ?_
        exact r_weak (ls2 := [.ref a, .null, .null, .null, .null, .int i3]) ⟨Or.inr rfl, Or.inl rfl, Or.inl rfl, Or.inl rfl, Or.inl rfl, Or.inr rfl, trivial⟩ h
      · replace h := h.2 c12
        refine r_aload_n (pc := 109) d_Md_addsDance_109 (x := a) rfl ?_
        obtain ⟨r13, er13, h⟩ := h
        refine r_getR (pc := 110) d_Md_addsDance_110 f_Md_63 sa (Or.inr ⟨_, rfl⟩) (r := r13) er13 ?_
        refine r_aload_n (pc := 113) d_Md_addsDance_113 (x := a) rfl ?_
        refine r_getI (pc := 114) d_Md_addsDance_114 f_Md_407 sa rfl ?_
        refine r_iload_n (pc := 117) d_Md_addsDance_117 (x := i1) rfl ?_
        obtain ⟨n15, s14, h⟩ := h
        obtain ⟨g16, h⟩ := h
        refine r_iast (pc := 118) d_Md_addsDance_118 s14 g16 ?_
        refine r_aload_n (pc := 119) d_Md_addsDance_119 (x := a) rfl ?_
        obtain ⟨r17, er17, h⟩ := h
        refine r_getR (pc := 120) d_Md_addsDance_120 f_Md_66 sa (Or.inr ⟨_, rfl⟩) (r := r17) er17 ?_
        refine r_aload_n (pc := 123) d_Md_addsDance_123 (x := a) rfl ?_
        refine r_getI (pc := 124) d_Md_addsDance_124 f_Md_407 sa rfl ?_
        refine r_iload_n (pc := 127) d_Md_addsDance_127 (x := i2) rfl ?_
        obtain ⟨n19, s18, h⟩ := h
        obtain ⟨g20, h⟩ := h
        refine r_iast (pc := 128) d_Md_addsDance_128 s18 g20 ?_
        refine r_aload_n (pc := 129) d_Md_addsDance_129 (x := a) rfl ?_
        refine r_dup (pc := 130) d_Md_addsDance_130 rfl ?_
        refine r_getI (pc := 131) d_Md_addsDance_131 f_Md_407 sa rfl ?_
        refine r_iconst (pc := 134) d_Md_addsDance_134 (v := 1) (by decide) ?_
        refine r_iadd (pc := 135) d_Md_addsDance_135 ?_
        refine r_putI (pc := 136) d_Md_addsDance_136 f_Md_407 sa rfl ?_
        exact r_return (pc := 139) d_Md_addsDance_139 rfl rfl (Nat.le_refl _) ⟨rfl, rfl, h⟩
    · replace h := h.2 c11
      refine r_aload_n (pc := 75) d_Md_addsDance_75 (x := a) rfl ?_
      refine r_iconst (pc := 76) d_Md_addsDance_76 (v := 0) (by decide) ?_
      refine r_aload_n (pc := 77) d_Md_addsDance_77 (x := a) rfl ?_
      obtain ⟨r21, er21, h⟩ := h
      refine r_getR (pc := 78) d_Md_addsDance_78 f_Md_63 sa (Or.inr ⟨_, rfl⟩) (r := r21) er21 ?_
      refine r_iload (pc := 81) d_Md_addsDance_81 (x := i5) rfl ?_
      obtain ⟨n23, s22, h⟩ := h
      obtain ⟨g24, h⟩ := h
      refine r_iald (pc := 83) d_Md_addsDance_83 s22 g24 ?_
      refine r_iload_n (pc := 84) d_Md_addsDance_84 (x := i1) rfl ?_
      refine r_callV (pc := 85) (k := a) (As := [.int 0, .int (S.1 r21 i5.toNatClampNeg), .int i1]) (rest := []) (mc' := 0) (ms' := 0) lk_Md_217 in_Md_isTouching se_Md_isTouching sa rfl d_Md_addsDance_85 k_Md_isTouching rfl rfl (Nat.le_of_ble_eq_true rfl) (by decide) (by decide) (Sp.mono h ?_)
      rintro rS25 shS25 S25 ⟨qS25, x26, uS25, h⟩
      subst uS25
      rw [qS25]
      refine r_if_ne (pc := 88) d_Md_addsDance_88 (tgt := 95) (by decide) (fun c27 => ?_) (fun c27 => ?_)
      · replace h := h.1 c27
        refine r_iconst (pc := 95) d_Md_addsDance_95 (v := 0) (by decide) ?_
        refine r_istore (pc := 96) (hd := d_Md_addsDance_96) (hi := by decide) (ls2 := [.ref a, .int i1, .int i2, .int i3, .int 0, .int i5]) (h2 := rfl) ?_
        refine r_iinc (pc := 98) d_Md_addsDance_98 (hi := by decide) (x := i5) rfl (v := i5 + 1) rfl (ls2 := [.ref a, .int i1, .int i2, .int i3, .int 0, .int (i5 + 1)]) rfl ?_
        refine r_goto (pc := 101) d_Md_addsDance_101 (tgt := 61) (by decide) ?_
        exact h
      · replace h := h.2 c27
        refine r_iconst (pc := 91) d_Md_addsDance_91 (v := 1) (by decide) ?_
        refine r_goto (pc := 92) d_Md_addsDance_92 (tgt := 96) (by decide) ?_
        refine r_istore (pc := 96) (hd := d_Md_addsDance_96) (hi := by decide) (ls2 := [.ref a, .int i1, .int i2, .int i3, .int 1, .int i5]) (h2 := rfl) ?_
        refine r_iinc (pc := 98) d_Md_addsDance_98 (hi := by decide) (x := i5) rfl (v := i5 + 1) rfl (ls2 := [.ref a, .int i1, .int i2, .int i3, .int 1, .int (i5 + 1)]) rfl ?_
        refine r_goto (pc := 101) d_Md_addsDance_101 (tgt := 61) (by decide) ?_
        exact h
set_option maxRecDepth 4000 in
theorem s_Md_addsDance_153 {l : Launch} {d : Nat} {sh : aw_SH} {S : aw_S} {P : aw_S → Prop} {a : Nat} {i5 : Int32} (sa : sh[a]? = some (0, 11)) (h : (((S.1 a 33) ≤ i5 → P S) ∧ (¬ (S.1 a 33) ≤ i5 → ∃ r2, S.2.2 a 31 = some r2 ∧ ∃ n4, sh[r2]? = some (3, n4) ∧ vp_in (i5 + (1 : Int32)) n4 ∧ vp_in i5 n4 ∧ ∃ r7, (aw_uI S r2 i5.toNatClampNeg (S.1 r2 (i5 + (1 : Int32) : Int32).toNatClampNeg)).2.2 a 32 = some r7 ∧ ∃ n9, sh[r7]? = some (3, n9) ∧ vp_in (i5 + (1 : Int32)) n9 ∧ vp_in i5 n9 ∧ AW l m_Md_addsDance (d + 1) 0 0 (gV sh P) 0 0 153 [.ref a, .null, .null, .null, .null, .int (i5 + 1)] [] sh (aw_uI (aw_uI S r2 i5.toNatClampNeg (S.1 r2 (i5 + (1 : Int32) : Int32).toNatClampNeg)) r7 i5.toNatClampNeg ((aw_uI S r2 i5.toNatClampNeg (S.1 r2 (i5 + (1 : Int32) : Int32).toNatClampNeg)).1 r7 (i5 + (1 : Int32) : Int32).toNatClampNeg))))) : AW l m_Md_addsDance (d + 1) 0 0 (gV sh P) 0 0 153 [.ref a, .null, .null, .null, .null, .int i5] [] sh S := by
  refine r_iload (pc := 153) d_Md_addsDance_153 (x := i5) rfl ?_
  refine r_aload_n (pc := 155) d_Md_addsDance_155 (x := a) rfl ?_
  refine r_getI (pc := 156) d_Md_addsDance_156 f_Md_407 sa rfl ?_
  refine r_icmp_ge (pc := 159) d_Md_addsDance_159 (tgt := 200) (by decide) (fun c1 => ?_) (fun c1 => ?_)
  · replace h := h.1 c1
    exact r_return (pc := 200) d_Md_addsDance_200 rfl rfl (Nat.le_refl _) ⟨rfl, rfl, h⟩
  · replace h := h.2 c1
    refine r_aload_n (pc := 162) d_Md_addsDance_162 (x := a) rfl ?_
    obtain ⟨r2, er2, h⟩ := h
    refine r_getR (pc := 163) d_Md_addsDance_163 f_Md_63 sa (Or.inr ⟨_, rfl⟩) (r := r2) er2 ?_
    refine r_iload (pc := 166) d_Md_addsDance_166 (x := i5) rfl ?_
    refine r_aload_n (pc := 168) d_Md_addsDance_168 (x := a) rfl ?_
    refine r_getR (pc := 169) d_Md_addsDance_169 f_Md_63 sa (Or.inr ⟨_, rfl⟩) (r := r2) er2 ?_
    refine r_iload (pc := 172) d_Md_addsDance_172 (x := i5) rfl ?_
    refine r_iconst (pc := 174) d_Md_addsDance_174 (v := 1) (by decide) ?_
    refine r_iadd (pc := 175) d_Md_addsDance_175 ?_
    obtain ⟨n4, s3, h⟩ := h
    obtain ⟨g5, h⟩ := h
    refine r_iald (pc := 176) d_Md_addsDance_176 s3 g5 ?_
    obtain ⟨g6, h⟩ := h
    refine r_iast (pc := 177) d_Md_addsDance_177 s3 g6 ?_
    refine r_aload_n (pc := 178) d_Md_addsDance_178 (x := a) rfl ?_
    obtain ⟨r7, er7, h⟩ := h
    refine r_getR (pc := 179) d_Md_addsDance_179 f_Md_66 sa (Or.inr ⟨_, rfl⟩) (r := r7) er7 ?_
    refine r_iload (pc := 182) d_Md_addsDance_182 (x := i5) rfl ?_
    refine r_aload_n (pc := 184) d_Md_addsDance_184 (x := a) rfl ?_
    refine r_getR (pc := 185) d_Md_addsDance_185 f_Md_66 sa (Or.inr ⟨_, rfl⟩) (r := r7) er7 ?_
    refine r_iload (pc := 188) d_Md_addsDance_188 (x := i5) rfl ?_
    refine r_iconst (pc := 190) d_Md_addsDance_190 (v := 1) (by decide) ?_
    refine r_iadd (pc := 191) d_Md_addsDance_191 ?_
    obtain ⟨n9, s8, h⟩ := h
    obtain ⟨g10, h⟩ := h
    refine r_iald (pc := 192) d_Md_addsDance_192 s8 g10 ?_
    obtain ⟨g11, h⟩ := h
    refine r_iast (pc := 193) d_Md_addsDance_193 s8 g11 ?_
    refine r_iinc (pc := 194) d_Md_addsDance_194 (hi := by decide) (x := i5) rfl (v := i5 + 1) rfl (ls2 := [.ref a, .null, .null, .null, .null, .int (i5 + 1)]) rfl ?_
    refine r_goto (pc := 197) d_Md_addsDance_197 (tgt := 153) (by decide) ?_
    exact h
set_option maxRecDepth 4000 in
theorem e_Md_apartNow {l : Launch} {d : Nat} {sh : aw_SH} {S : aw_S} {P : Int32 → aw_S → Prop} {a : Nat} (sa : sh[a]? = some (0, 11)) (h : ∃ r1, S.2.2 a 0 = some r1 ∧ ∃ n3, sh[r1]? = some (3, n3) ∧ vp_in 3 n3 ∧ Sp l m_Md_alike d 0 0 [.ref a] sh S (gI sh (fun x6 S5 => P (((S.1 r1 (3 : Int32).toNatClampNeg) + (S.1 a 33)) - ((2 : Int32) * x6)) S5))) : Sp l m_Md_apartNow (d + 1) 0 0 [.ref a] sh S (gI sh P) := by
  refine Sp.of k_Md_apartNow (ls := [.ref a]) rfl (Nat.le_of_ble_eq_true rfl) ?_
  refine r_aload_n (pc := 0) d_Md_apartNow_0 (x := a) rfl ?_
  obtain ⟨r1, er1, h⟩ := h
  refine r_getR (pc := 1) d_Md_apartNow_1 f_Md_7 sa (Or.inr ⟨_, rfl⟩) (r := r1) er1 ?_
  refine r_iconst (pc := 4) d_Md_apartNow_4 (v := 3) (by decide) ?_
  obtain ⟨n3, s2, h⟩ := h
  obtain ⟨g4, h⟩ := h
  refine r_iald (pc := 5) d_Md_apartNow_5 s2 g4 ?_
  refine r_aload_n (pc := 6) d_Md_apartNow_6 (x := a) rfl ?_
  refine r_getI (pc := 7) d_Md_apartNow_7 f_Md_407 sa rfl ?_
  refine r_iadd (pc := 10) d_Md_apartNow_10 ?_
  refine r_iconst (pc := 11) d_Md_apartNow_11 (v := 2) (by decide) ?_
  refine r_aload_n (pc := 12) d_Md_apartNow_12 (x := a) rfl ?_
  refine r_callV (pc := 13) (k := a) (As := []) (rest := [.int 2, .int ((S.1 r1 (3 : Int32).toNatClampNeg) + (S.1 a 33))]) (mc' := 0) (ms' := 0) lk_Md_417 in_Md_alike se_Md_alike sa rfl d_Md_apartNow_13 k_Md_alike rfl rfl (Nat.le_of_ble_eq_true rfl) (by decide) (by decide) (Sp.mono h ?_)
  rintro rS5 shS5 S5 ⟨qS5, x6, uS5, h⟩
  subst uS5
  rw [qS5]
  refine r_imul (pc := 16) d_Md_apartNow_16 ?_
  refine r_isub (pc := 17) d_Md_apartNow_17 ?_
  exact r_ireturn (pc := 18) d_Md_apartNow_18 rfl rfl (Nat.le_refl _) ⟨rfl, _, rfl, h⟩
set_option maxRecDepth 4000 in
theorem e_Md_alike {l : Launch} {d : Nat} {sh : aw_SH} {S : aw_S} {P : Int32 → aw_S → Prop} {a : Nat} (sa : sh[a]? = some (0, 11)) (h : AW l m_Md_alike (d + 1) 0 0 (gI sh P) 0 0 2 [.ref a, .int 0, .null, .null, .null] [] sh S) : Sp l m_Md_alike (d + 1) 0 0 [.ref a] sh S (gI sh P) := by
  refine Sp.of k_Md_alike (ls := [.ref a, .null, .null, .null, .null]) rfl (Nat.le_of_ble_eq_true rfl) ?_
  refine r_iconst (pc := 0) d_Md_alike_0 (v := 0) (by decide) ?_
  refine r_istore_n (pc := 1) (hk := rfl) (hd := d_Md_alike_1) (hi := by decide) (ls2 := [.ref a, .int 0, .null, .null, .null]) (h2 := rfl) ?_
  exact h
set_option maxRecDepth 4000 in
theorem s_Md_alike_2 {l : Launch} {d : Nat} {sh : aw_SH} {S : aw_S} {P : Int32 → aw_S → Prop} {a : Nat} {i1 : Int32} (sa : sh[a]? = some (0, 11)) (h : ((40 ≤ i1 → AW l m_Md_alike (d + 1) 0 0 (gI sh P) 0 0 58 [.ref a, .int 0, .int 0, .null, .null] [] sh S) ∧ (¬ 40 ≤ i1 → ∃ r2, S.2.2 a 34 = some r2 ∧ ∃ r3, S.2.2 a 0 = some r3 ∧ ∃ n5, sh[r3]? = some (3, n5) ∧ vp_in 3 n5 ∧ (((S.1 r3 (3 : Int32).toNatClampNeg) ≤ i1 → ∃ n9, sh[r2]? = some (2, n9) ∧ vp_in i1 n9 ∧ ∃ r11, (aw_uI S r2 i1.toNatClampNeg (vp_nar .boolean 0)).2.2 a 35 = some r11 ∧ ((((aw_uI S r2 i1.toNatClampNeg (vp_nar .boolean 0)).1 a 33) ≤ i1 → ∃ n14, sh[r11]? = some (2, n14) ∧ vp_in i1 n14 ∧ AW l m_Md_alike (d + 1) 0 0 (gI sh P) 0 0 2 [.ref a, .int (i1 + 1), .null, .null, .null] [] sh (aw_uI (aw_uI S r2 i1.toNatClampNeg (vp_nar .boolean 0)) r11 i1.toNatClampNeg (vp_nar .boolean 0))) ∧ (¬ ((aw_uI S r2 i1.toNatClampNeg (vp_nar .boolean 0)).1 a 33) ≤ i1 → ∃ n17, sh[r11]? = some (2, n17) ∧ vp_in i1 n17 ∧ AW l m_Md_alike (d + 1) 0 0 (gI sh P) 0 0 2 [.ref a, .int (i1 + 1), .null, .null, .null] [] sh (aw_uI (aw_uI S r2 i1.toNatClampNeg (vp_nar .boolean 0)) r11 i1.toNatClampNeg (vp_nar .boolean 1))))) ∧ (¬ (S.1 r3 (3 : Int32).toNatClampNeg) ≤ i1 → ∃ n20, sh[r2]? = some (2, n20) ∧ vp_in i1 n20 ∧ ∃ r22, (aw_uI S r2 i1.toNatClampNeg (vp_nar .boolean 1)).2.2 a 35 = some r22 ∧ ((((aw_uI S r2 i1.toNatClampNeg (vp_nar .boolean 1)).1 a 33) ≤ i1 → ∃ n25, sh[r22]? = some (2, n25) ∧ vp_in i1 n25 ∧ AW l m_Md_alike (d + 1) 0 0 (gI sh P) 0 0 2 [.ref a, .int (i1 + 1), .null, .null, .null] [] sh (aw_uI (aw_uI S r2 i1.toNatClampNeg (vp_nar .boolean 1)) r22 i1.toNatClampNeg (vp_nar .boolean 0))) ∧ (¬ ((aw_uI S r2 i1.toNatClampNeg (vp_nar .boolean 1)).1 a 33) ≤ i1 → ∃ n28, sh[r22]? = some (2, n28) ∧ vp_in i1 n28 ∧ AW l m_Md_alike (d + 1) 0 0 (gI sh P) 0 0 2 [.ref a, .int (i1 + 1), .null, .null, .null] [] sh (aw_uI (aw_uI S r2 i1.toNatClampNeg (vp_nar .boolean 1)) r22 i1.toNatClampNeg (vp_nar .boolean 1))))))))) : AW l m_Md_alike (d + 1) 0 0 (gI sh P) 0 0 2 [.ref a, .int i1, .null, .null, .null] [] sh S := by
  refine r_iload_n (pc := 2) d_Md_alike_2 (x := i1) rfl ?_
  refine r_bipush (pc := 3) d_Md_alike_3 (v := 40) (by decide) ?_
  refine r_icmp_ge (pc := 5) d_Md_alike_5 (tgt := 54) (by decide) (fun c1 => ?_) (fun c1 => ?_)
  · replace h := h.1 c1
    refine r_iconst (pc := 54) d_Md_alike_54 (v := 0) (by decide) ?_
    refine r_istore_n (pc := 55) (hk := rfl) (hd := d_Md_alike_55) (hi := by decide) (ls2 := [.ref a, .int 0, .null, .null, .null]) (h2 := rfl) ?_
    refine r_iconst (pc := 56) d_Md_alike_56 (v := 0) (by decide) ?_
    refine r_istore_n (pc := 57) (hk := rfl) (hd := d_Md_alike_57) (hi := by decide) (ls2 := [.ref a, .int 0, .int 0, .null, .null]) (h2 := rfl) ?_
    exact h
  · replace h := h.2 c1
    refine r_aload_n (pc := 8) d_Md_alike_8 (x := a) rfl ?_
    obtain ⟨r2, er2, h⟩ := h
    refine r_getR (pc := 9) d_Md_alike_9 f_Md_69 sa (Or.inr ⟨_, rfl⟩) (r := r2) er2 ?_
    refine r_iload_n (pc := 12) d_Md_alike_12 (x := i1) rfl ?_
    refine r_iload_n (pc := 13) d_Md_alike_13 (x := i1) rfl ?_
    refine r_aload_n (pc := 14) d_Md_alike_14 (x := a) rfl ?_
    obtain ⟨r3, er3, h⟩ := h
    refine r_getR (pc := 15) d_Md_alike_15 f_Md_7 sa (Or.inr ⟨_, rfl⟩) (r := r3) er3 ?_
    refine r_iconst (pc := 18) d_Md_alike_18 (v := 3) (by decide) ?_
    obtain ⟨n5, s4, h⟩ := h
    obtain ⟨g6, h⟩ := h
    refine r_iald (pc := 19) d_Md_alike_19 s4 g6 ?_
    refine r_icmp_ge (pc := 20) d_Md_alike_20 (tgt := 27) (by decide) (fun c7 => ?_) (fun c7 => ?_)
    · replace h := h.1 c7
      refine r_iconst (pc := 27) d_Md_alike_27 (v := 0) (by decide) ?_
      obtain ⟨n9, s8, h⟩ := h
      obtain ⟨g10, h⟩ := h
      refine r_zast (pc := 28) d_Md_alike_28 s8 g10 ?_
      refine r_aload_n (pc := 29) d_Md_alike_29 (x := a) rfl ?_
      obtain ⟨r11, er11, h⟩ := h
      refine r_getR (pc := 30) d_Md_alike_30 f_Md_72 sa (Or.inr ⟨_, rfl⟩) (r := r11) er11 ?_
      refine r_iload_n (pc := 33) d_Md_alike_33 (x := i1) rfl ?_
      refine r_iload_n (pc := 34) d_Md_alike_34 (x := i1) rfl ?_
      refine r_aload_n (pc := 35) d_Md_alike_35 (x := a) rfl ?_
      refine r_getI (pc := 36) d_Md_alike_36 f_Md_407 sa rfl ?_
      refine r_icmp_ge (pc := 39) d_Md_alike_39 (tgt := 46) (by decide) (fun c12 => ?_) (fun c12 => ?_)
      · replace h := h.1 c12
        refine r_iconst (pc := 46) d_Md_alike_46 (v := 0) (by decide) ?_
        obtain ⟨n14, s13, h⟩ := h
        obtain ⟨g15, h⟩ := h
        refine r_zast (pc := 47) d_Md_alike_47 s13 g15 ?_
        refine r_iinc (pc := 48) d_Md_alike_48 (hi := by decide) (x := i1) rfl (v := i1 + 1) rfl (ls2 := [.ref a, .int (i1 + 1), .null, .null, .null]) rfl ?_
        refine r_goto (pc := 51) d_Md_alike_51 (tgt := 2) (by decide) ?_
        exact h
      · replace h := h.2 c12
        refine r_iconst (pc := 42) d_Md_alike_42 (v := 1) (by decide) ?_
        refine r_goto (pc := 43) d_Md_alike_43 (tgt := 47) (by decide) ?_
        obtain ⟨n17, s16, h⟩ := h
        obtain ⟨g18, h⟩ := h
        refine r_zast (pc := 47) d_Md_alike_47 s16 g18 ?_
        refine r_iinc (pc := 48) d_Md_alike_48 (hi := by decide) (x := i1) rfl (v := i1 + 1) rfl (ls2 := [.ref a, .int (i1 + 1), .null, .null, .null]) rfl ?_
        refine r_goto (pc := 51) d_Md_alike_51 (tgt := 2) (by decide) ?_
        exact h
    · replace h := h.2 c7
      refine r_iconst (pc := 23) d_Md_alike_23 (v := 1) (by decide) ?_
      refine r_goto (pc := 24) d_Md_alike_24 (tgt := 28) (by decide) ?_
      obtain ⟨n20, s19, h⟩ := h
      obtain ⟨g21, h⟩ := h
      refine r_zast (pc := 28) d_Md_alike_28 s19 g21 ?_
      refine r_aload_n (pc := 29) d_Md_alike_29 (x := a) rfl ?_
      obtain ⟨r22, er22, h⟩ := h
      refine r_getR (pc := 30) d_Md_alike_30 f_Md_72 sa (Or.inr ⟨_, rfl⟩) (r := r22) er22 ?_
      refine r_iload_n (pc := 33) d_Md_alike_33 (x := i1) rfl ?_
      refine r_iload_n (pc := 34) d_Md_alike_34 (x := i1) rfl ?_
      refine r_aload_n (pc := 35) d_Md_alike_35 (x := a) rfl ?_
      refine r_getI (pc := 36) d_Md_alike_36 f_Md_407 sa rfl ?_
      refine r_icmp_ge (pc := 39) d_Md_alike_39 (tgt := 46) (by decide) (fun c23 => ?_) (fun c23 => ?_)
      · replace h := h.1 c23
        refine r_iconst (pc := 46) d_Md_alike_46 (v := 0) (by decide) ?_
        obtain ⟨n25, s24, h⟩ := h
        obtain ⟨g26, h⟩ := h
        refine r_zast (pc := 47) d_Md_alike_47 s24 g26 ?_
        refine r_iinc (pc := 48) d_Md_alike_48 (hi := by decide) (x := i1) rfl (v := i1 + 1) rfl (ls2 := [.ref a, .int (i1 + 1), .null, .null, .null]) rfl ?_
        refine r_goto (pc := 51) d_Md_alike_51 (tgt := 2) (by decide) ?_
        exact h
      · replace h := h.2 c23
        refine r_iconst (pc := 42) d_Md_alike_42 (v := 1) (by decide) ?_
        refine r_goto (pc := 43) d_Md_alike_43 (tgt := 47) (by decide) ?_
        obtain ⟨n28, s27, h⟩ := h
        obtain ⟨g29, h⟩ := h
        refine r_zast (pc := 47) d_Md_alike_47 s27 g29 ?_
        refine r_iinc (pc := 48) d_Md_alike_48 (hi := by decide) (x := i1) rfl (v := i1 + 1) rfl (ls2 := [.ref a, .int (i1 + 1), .null, .null, .null]) rfl ?_
        refine r_goto (pc := 51) d_Md_alike_51 (tgt := 2) (by decide) ?_
        exact h
set_option maxRecDepth 4000 in
theorem s_Md_alike_58 {l : Launch} {d : Nat} {sh : aw_SH} {S : aw_S} {P : Int32 → aw_S → Prop} {a : Nat} {i1 : Int32} {i2 : Int32} (sa : sh[a]? = some (0, 11)) (h : Sp l m_Md_gapsOf d 0 0 [.ref a, .int 0] sh S (gI sh (fun x2 S1 => ((x2 ≤ i2 → P i1 S1) ∧ (¬ x2 ≤ i2 → Sp l m_Md_lowest d 0 0 [.ref a, .int 1, .int i2] sh S1 (gI sh (fun x5 S4 => Sp l m_Md_lowest d 0 0 [.ref a, .int 0, .int i2] sh S4 (gI sh (fun x7 S6 => ((x5 = (-1) → AW l m_Md_alike (d + 1) 0 0 (gI sh P) 0 0 58 [.ref a, .int i1, .int (i2 + 1), .null, .null] [] sh S6) ∧ (¬ x5 = (-1) → ((x7 = (-1) → AW l m_Md_alike (d + 1) 0 0 (gI sh P) 0 0 58 [.ref a, .int i1, .int (i2 + 1), .null, .null] [] sh S6) ∧ (¬ x7 = (-1) → Sp l m_Md_passOf d 0 0 [.ref a, .int x5, .int 1] sh S6 (gI sh (fun x11 S10 => ∃ r12, S10.2.2 a 32 = some r12 ∧ ∃ n14, sh[r12]? = some (3, n14) ∧ vp_in x7 n14 ∧ ((x11 = (S10.1 r12 x7.toNatClampNeg) → ∃ r17, S10.2.2 a 34 = some r17 ∧ ∃ n19, sh[r17]? = some (2, n19) ∧ vp_in x5 n19 ∧ ∃ r21, (aw_uI S10 r17 x5.toNatClampNeg (vp_nar .boolean 0)).2.2 a 35 = some r21 ∧ ∃ n23, sh[r21]? = some (2, n23) ∧ vp_in x7 n23 ∧ AW l m_Md_alike (d + 1) 0 0 (gI sh P) 0 0 58 [.ref a, .int (i1 + 1), .int 0, .null, .null] [] sh (aw_uI (aw_uI S10 r17 x5.toNatClampNeg (vp_nar .boolean 0)) r21 x7.toNatClampNeg (vp_nar .boolean 0))) ∧ (¬ x11 = (S10.1 r12 x7.toNatClampNeg) → AW l m_Md_alike (d + 1) 0 0 (gI sh P) 0 0 58 [.ref a, .int i1, .int (i2 + 1), .null, .null] [] sh S10))))))))))))))))) : AW l m_Md_alike (d + 1) 0 0 (gI sh P) 0 0 58 [.ref a, .int i1, .int i2, .null, .null] [] sh S := by
  refine r_iload_n (pc := 58) d_Md_alike_58 (x := i2) rfl ?_
  refine r_aload_n (pc := 59) d_Md_alike_59 (x := a) rfl ?_
  refine r_iconst (pc := 60) d_Md_alike_60 (v := 0) (by decide) ?_
  refine r_callV (pc := 61) (k := a) (As := [.int 0]) (rest := [.int i2]) (mc' := 0) (ms' := 0) lk_Md_260 in_Md_gapsOf se_Md_gapsOf sa rfl d_Md_alike_61 k_Md_gapsOf rfl rfl (Nat.le_of_ble_eq_true rfl) (by decide) (by decide) (Sp.mono h ?_)
  rintro rS1 shS1 S1 ⟨qS1, x2, uS1, h⟩
  subst uS1
  rw [qS1]
  refine r_icmp_ge (pc := 64) d_Md_alike_64 (tgt := 138) (by decide) (fun c3 => ?_) (fun c3 => ?_)
  · replace h := h.1 c3
    refine r_iload_n (pc := 138) d_Md_alike_138 (x := i1) rfl ?_
    exact r_ireturn (pc := 139) d_Md_alike_139 rfl rfl (Nat.le_refl _) ⟨rfl, _, rfl, h⟩
  · replace h := h.2 c3
    refine r_aload_n (pc := 67) d_Md_alike_67 (x := a) rfl ?_
    refine r_iconst (pc := 68) d_Md_alike_68 (v := 1) (by decide) ?_
    refine r_iload_n (pc := 69) d_Md_alike_69 (x := i2) rfl ?_
    refine r_callV (pc := 70) (k := a) (As := [.int 1, .int i2]) (rest := []) (mc' := 0) (ms' := 0) lk_Md_413 in_Md_lowest se_Md_lowest sa rfl d_Md_alike_70 k_Md_lowest rfl rfl (Nat.le_of_ble_eq_true rfl) (by decide) (by decide) (Sp.mono h ?_)
    rintro rS4 shS4 S4 ⟨qS4, x5, uS4, h⟩
    subst uS4
    rw [qS4]
    refine r_istore_n (pc := 73) (hk := rfl) (hd := d_Md_alike_73) (hi := by decide) (ls2 := [.ref a, .int i1, .int i2, .int x5, .null]) (h2 := rfl) ?_
    refine r_aload_n (pc := 74) d_Md_alike_74 (x := a) rfl ?_
    refine r_iconst (pc := 75) d_Md_alike_75 (v := 0) (by decide) ?_
    refine r_iload_n (pc := 76) d_Md_alike_76 (x := i2) rfl ?_
    refine r_callV (pc := 77) (k := a) (As := [.int 0, .int i2]) (rest := []) (mc' := 0) (ms' := 0) lk_Md_413 in_Md_lowest se_Md_lowest sa rfl d_Md_alike_77 k_Md_lowest rfl rfl (Nat.le_of_ble_eq_true rfl) (by decide) (by decide) (Sp.mono h ?_)
    rintro rS6 shS6 S6 ⟨qS6, x7, uS6, h⟩
    subst uS6
    rw [qS6]
    refine r_istore (pc := 80) (hd := d_Md_alike_80) (hi := by decide) (ls2 := [.ref a, .int i1, .int i2, .int x5, .int x7]) (h2 := rfl) ?_
    refine r_iload_n (pc := 82) d_Md_alike_82 (x := x5) rfl ?_
    refine r_iconst (pc := 83) d_Md_alike_83 (v := (-1)) (by decide) ?_
    refine r_icmp_eq (pc := 84) d_Md_alike_84 (tgt := 109) (by decide) (fun c8 => ?_) (fun c8 => ?_)
    · replace h := h.1 c8
      refine r_iinc (pc := 109) d_Md_alike_109 (hi := by decide) (x := i2) rfl (v := i2 + 1) rfl (ls2 := [.ref a, .int i1, .int (i2 + 1), .int x5, .int x7]) rfl ?_
      refine r_goto (pc := 112) d_Md_alike_112 (tgt := 58) (by decide) ?_
      exact r_weak (ls2 := [.ref a, .int i1, .int (i2 + 1), .null, .null]) ⟨Or.inr rfl, Or.inr rfl, Or.inr rfl, Or.inl rfl, Or.inl rfl, trivial⟩ h
    · replace h := h.2 c8
      refine r_iload (pc := 87) d_Md_alike_87 (x := x7) rfl ?_
      refine r_iconst (pc := 89) d_Md_alike_89 (v := (-1)) (by decide) ?_
      refine r_icmp_eq (pc := 90) d_Md_alike_90 (tgt := 109) (by decide) (fun c9 => ?_) (fun c9 => ?_)
      · replace h := h.1 c9
        refine r_iinc (pc := 109) d_Md_alike_109 (hi := by decide) (x := i2) rfl (v := i2 + 1) rfl (ls2 := [.ref a, .int i1, .int (i2 + 1), .int x5, .int x7]) rfl ?_
        refine r_goto (pc := 112) d_Md_alike_112 (tgt := 58) (by decide) ?_
        exact r_weak (ls2 := [.ref a, .int i1, .int (i2 + 1), .null, .null]) ⟨Or.inr rfl, Or.inr rfl, Or.inr rfl, Or.inl rfl, Or.inl rfl, trivial⟩ h
      · replace h := h.2 c9
        refine r_aload_n (pc := 93) d_Md_alike_93 (x := a) rfl ?_
        refine r_iload_n (pc := 94) d_Md_alike_94 (x := x5) rfl ?_
        refine r_iconst (pc := 95) d_Md_alike_95 (v := 1) (by decide) ?_
        refine r_callV (pc := 96) (k := a) (As := [.int x5, .int 1]) (rest := []) (mc' := 0) (ms' := 0) lk_Md_316 in_Md_passOf se_Md_passOf sa rfl d_Md_alike_96 k_Md_passOf rfl rfl (Nat.le_of_ble_eq_true rfl) (by decide) (by decide) (Sp.mono h ?_)
        rintro rS10 shS10 S10 ⟨qS10, x11, uS10, h⟩
        subst uS10
        rw [qS10]
        refine r_aload_n (pc := 99) d_Md_alike_99 (x := a) rfl ?_
        obtain ⟨r12, er12, h⟩ := h
        refine r_getR (pc := 100) d_Md_alike_100 f_Md_66 sa (Or.inr ⟨_, rfl⟩) (r := r12) er12 ?_
        refine r_iload (pc := 103) d_Md_alike_103 (x := x7) rfl ?_
        obtain ⟨n14, s13, h⟩ := h
        obtain ⟨g15, h⟩ := h
        refine r_iald (pc := 105) d_Md_alike_105 s13 g15 ?_
        refine r_icmp_eq (pc := 106) d_Md_alike_106 (tgt := 115) (by decide) (fun c16 => ?_) (fun c16 => ?_)
        · replace h := h.1 c16
          refine r_aload_n (pc := 115) d_Md_alike_115 (x := a) rfl ?_
          obtain ⟨r17, er17, h⟩ := h
          refine r_getR (pc := 116) d_Md_alike_116 f_Md_69 sa (Or.inr ⟨_, rfl⟩) (r := r17) er17 ?_
          refine r_iload_n (pc := 119) d_Md_alike_119 (x := x5) rfl ?_
          refine r_iconst (pc := 120) d_Md_alike_120 (v := 0) (by decide) ?_
          obtain ⟨n19, s18, h⟩ := h
          obtain ⟨g20, h⟩ := h
          refine r_zast (pc := 121) d_Md_alike_121 s18 g20 ?_
          refine r_aload_n (pc := 122) d_Md_alike_122 (x := a) rfl ?_
          obtain ⟨r21, er21, h⟩ := h
          refine r_getR (pc := 123) d_Md_alike_123 f_Md_72 sa (Or.inr ⟨_, rfl⟩) (r := r21) er21 ?_
          refine r_iload (pc := 126) d_Md_alike_126 (x := x7) rfl ?_
          refine r_iconst (pc := 128) d_Md_alike_128 (v := 0) (by decide) ?_
          obtain ⟨n23, s22, h⟩ := h
          obtain ⟨g24, h⟩ := h
          refine r_zast (pc := 129) d_Md_alike_129 s22 g24 ?_
          refine r_iinc (pc := 130) d_Md_alike_130 (hi := by decide) (x := i1) rfl (v := i1 + 1) rfl (ls2 := [.ref a, .int (i1 + 1), .int i2, .int x5, .int x7]) rfl ?_
          refine r_iconst (pc := 133) d_Md_alike_133 (v := 0) (by decide) ?_
          refine r_istore_n (pc := 134) (hk := rfl) (hd := d_Md_alike_134) (hi := by decide) (ls2 := [.ref a, .int (i1 + 1), .int 0, .int x5, .int x7]) (h2 := rfl) ?_
          refine r_goto (pc := 135) d_Md_alike_135 (tgt := 58) (by decide) ?_
          exact r_weak (ls2 := [.ref a, .int (i1 + 1), .int 0, .null, .null]) ⟨Or.inr rfl, Or.inr rfl, Or.inr rfl, Or.inl rfl, Or.inl rfl, trivial⟩ h
        · replace h := h.2 c16
          refine r_iinc (pc := 109) d_Md_alike_109 (hi := by decide) (x := i2) rfl (v := i2 + 1) rfl (ls2 := [.ref a, .int i1, .int (i2 + 1), .int x5, .int x7]) rfl ?_
          refine r_goto (pc := 112) d_Md_alike_112 (tgt := 58) (by decide) ?_
          exact r_weak (ls2 := [.ref a, .int i1, .int (i2 + 1), .null, .null]) ⟨Or.inr rfl, Or.inr rfl, Or.inr rfl, Or.inl rfl, Or.inl rfl, trivial⟩ h
set_option maxRecDepth 4000 in
theorem e_Md_lowest {l : Launch} {d : Nat} {sh : aw_SH} {S : aw_S} {P : Int32 → aw_S → Prop} {a : Nat} {p0 : Int32} {p1 : Int32} (sa : sh[a]? = some (0, 11)) (h : ((p0 = 0 → AW l m_Md_lowest (d + 1) 0 0 (gI sh P) 0 0 21 [.ref a, .int p0, .int p1, .int (S.1 a 33), .int 0, .null, .null] [] sh S) ∧ (¬ p0 = 0 → ∃ r2, S.2.2 a 0 = some r2 ∧ ∃ n4, sh[r2]? = some (3, n4) ∧ vp_in 3 n4 ∧ AW l m_Md_lowest (d + 1) 0 0 (gI sh P) 0 0 21 [.ref a, .int p0, .int p1, .int (S.1 r2 (3 : Int32).toNatClampNeg), .int 0, .null, .null] [] sh S))) : Sp l m_Md_lowest (d + 1) 0 0 [.ref a, .int p0, .int p1] sh S (gI sh P) := by
  refine Sp.of k_Md_lowest (ls := [.ref a, .int p0, .int p1, .null, .null, .null, .null]) rfl (Nat.le_of_ble_eq_true rfl) ?_
  refine r_iload_n (pc := 0) d_Md_lowest_0 (x := p0) rfl ?_
  refine r_if_eq (pc := 1) d_Md_lowest_1 (tgt := 13) (by decide) (fun c1 => ?_) (fun c1 => ?_)
  · replace h := h.1 c1
    refine r_aload_n (pc := 13) d_Md_lowest_13 (x := a) rfl ?_
    refine r_getI (pc := 14) d_Md_lowest_14 f_Md_407 sa rfl ?_
    refine r_istore_n (pc := 17) (hk := rfl) (hd := d_Md_lowest_17) (hi := by decide) (ls2 := [.ref a, .int p0, .int p1, .int (S.1 a 33), .null, .null, .null]) (h2 := rfl) ?_
    refine r_iconst (pc := 18) d_Md_lowest_18 (v := 0) (by decide) ?_
    refine r_istore (pc := 19) (hd := d_Md_lowest_19) (hi := by decide) (ls2 := [.ref a, .int p0, .int p1, .int (S.1 a 33), .int 0, .null, .null]) (h2 := rfl) ?_
    exact h
  · replace h := h.2 c1
    refine r_aload_n (pc := 4) d_Md_lowest_4 (x := a) rfl ?_
    obtain ⟨r2, er2, h⟩ := h
    refine r_getR (pc := 5) d_Md_lowest_5 f_Md_7 sa (Or.inr ⟨_, rfl⟩) (r := r2) er2 ?_
    refine r_iconst (pc := 8) d_Md_lowest_8 (v := 3) (by decide) ?_
    obtain ⟨n4, s3, h⟩ := h
    obtain ⟨g5, h⟩ := h
    refine r_iald (pc := 9) d_Md_lowest_9 s3 g5 ?_
    refine r_goto (pc := 10) d_Md_lowest_10 (tgt := 17) (by decide) ?_
    refine r_istore_n (pc := 17) (hk := rfl) (hd := d_Md_lowest_17) (hi := by decide) (ls2 := [.ref a, .int p0, .int p1, .int (S.1 r2 (3 : Int32).toNatClampNeg), .null, .null, .null]) (h2 := rfl) ?_
    refine r_iconst (pc := 18) d_Md_lowest_18 (v := 0) (by decide) ?_
    refine r_istore (pc := 19) (hd := d_Md_lowest_19) (hi := by decide) (ls2 := [.ref a, .int p0, .int p1, .int (S.1 r2 (3 : Int32).toNatClampNeg), .int 0, .null, .null]) (h2 := rfl) ?_
    exact h
set_option maxRecDepth 4000 in
theorem s_Md_lowest_21 {l : Launch} {d : Nat} {sh : aw_SH} {S : aw_S} {P : Int32 → aw_S → Prop} {a : Nat} {i1 : Int32} {i2 : Int32} {i3 : Int32} {i4 : Int32} (sa : sh[a]? = some (0, 11)) (h : ((i3 ≤ i4 → P (-1) S) ∧ (¬ i3 ≤ i4 → ((i1 = 0 → ∃ r3, S.2.2 a 35 = some r3 ∧ ∃ n5, sh[r3]? = some (2, n5) ∧ vp_in i4 n5 ∧ ((i1 = 0 → ∃ r8, S.2.2 a 31 = some r8 ∧ ∃ n10, sh[r8]? = some (3, n10) ∧ vp_in i4 n10 ∧ (((S.1 r3 i4.toNatClampNeg) = 0 → (((S.1 r3 i4.toNatClampNeg) = 0 → AW l m_Md_lowest (d + 1) 0 0 (gI sh P) 0 0 21 [.ref a, .int i1, .int i2, .int i3, .int (i4 + 1), .null, .null] [] sh S) ∧ (¬ (S.1 r3 i4.toNatClampNeg) = 0 → Sp l m_Md_isTouching d 0 0 [.ref a, .int 0, .int (S.1 r8 i4.toNatClampNeg), .int i2] sh S (gI sh (fun x15 S14 => ((x15 = 0 → AW l m_Md_lowest (d + 1) 0 0 (gI sh P) 0 0 21 [.ref a, .int i1, .int i2, .int i3, .int (i4 + 1), .null, .null] [] sh S14) ∧ (¬ x15 = 0 → P (-1) S14))))))) ∧ (¬ (S.1 r3 i4.toNatClampNeg) = 0 → ((¬ (S.1 r8 i4.toNatClampNeg) = i2 → (((S.1 r3 i4.toNatClampNeg) = 0 → AW l m_Md_lowest (d + 1) 0 0 (gI sh P) 0 0 21 [.ref a, .int i1, .int i2, .int i3, .int (i4 + 1), .null, .null] [] sh S) ∧ (¬ (S.1 r3 i4.toNatClampNeg) = 0 → Sp l m_Md_isTouching d 0 0 [.ref a, .int 0, .int (S.1 r8 i4.toNatClampNeg), .int i2] sh S (gI sh (fun x20 S19 => ((x20 = 0 → AW l m_Md_lowest (d + 1) 0 0 (gI sh P) 0 0 21 [.ref a, .int i1, .int i2, .int i3, .int (i4 + 1), .null, .null] [] sh S19) ∧ (¬ x20 = 0 → P (-1) S19))))))) ∧ ((S.1 r8 i4.toNatClampNeg) = i2 → P i4 S))))) ∧ (¬ i1 = 0 → Sp l m_Md_passOf d 0 0 [.ref a, .int i4, .int 0] sh S (gI sh (fun x23 S22 => (((S.1 r3 i4.toNatClampNeg) = 0 → (((S.1 r3 i4.toNatClampNeg) = 0 → AW l m_Md_lowest (d + 1) 0 0 (gI sh P) 0 0 21 [.ref a, .int i1, .int i2, .int i3, .int (i4 + 1), .null, .null] [] sh S22) ∧ (¬ (S.1 r3 i4.toNatClampNeg) = 0 → Sp l m_Md_isTouching d 0 0 [.ref a, .int 0, .int x23, .int i2] sh S22 (gI sh (fun x27 S26 => ((x27 = 0 → AW l m_Md_lowest (d + 1) 0 0 (gI sh P) 0 0 21 [.ref a, .int i1, .int i2, .int i3, .int (i4 + 1), .null, .null] [] sh S26) ∧ (¬ x27 = 0 → P (-1) S26))))))) ∧ (¬ (S.1 r3 i4.toNatClampNeg) = 0 → ((¬ x23 = i2 → (((S.1 r3 i4.toNatClampNeg) = 0 → AW l m_Md_lowest (d + 1) 0 0 (gI sh P) 0 0 21 [.ref a, .int i1, .int i2, .int i3, .int (i4 + 1), .null, .null] [] sh S22) ∧ (¬ (S.1 r3 i4.toNatClampNeg) = 0 → Sp l m_Md_isTouching d 0 0 [.ref a, .int 0, .int x23, .int i2] sh S22 (gI sh (fun x32 S31 => ((x32 = 0 → AW l m_Md_lowest (d + 1) 0 0 (gI sh P) 0 0 21 [.ref a, .int i1, .int i2, .int i3, .int (i4 + 1), .null, .null] [] sh S31) ∧ (¬ x32 = 0 → P (-1) S31))))))) ∧ (x23 = i2 → P i4 S22))))))))) ∧ (¬ i1 = 0 → ∃ r34, S.2.2 a 34 = some r34 ∧ ∃ n36, sh[r34]? = some (2, n36) ∧ vp_in i4 n36 ∧ ((i1 = 0 → ∃ r39, S.2.2 a 31 = some r39 ∧ ∃ n41, sh[r39]? = some (3, n41) ∧ vp_in i4 n41 ∧ (((S.1 r34 i4.toNatClampNeg) = 0 → (((S.1 r34 i4.toNatClampNeg) = 0 → AW l m_Md_lowest (d + 1) 0 0 (gI sh P) 0 0 21 [.ref a, .int i1, .int i2, .int i3, .int (i4 + 1), .null, .null] [] sh S) ∧ (¬ (S.1 r34 i4.toNatClampNeg) = 0 → Sp l m_Md_isTouching d 0 0 [.ref a, .int 0, .int (S.1 r39 i4.toNatClampNeg), .int i2] sh S (gI sh (fun x46 S45 => ((x46 = 0 → AW l m_Md_lowest (d + 1) 0 0 (gI sh P) 0 0 21 [.ref a, .int i1, .int i2, .int i3, .int (i4 + 1), .null, .null] [] sh S45) ∧ (¬ x46 = 0 → P (-1) S45))))))) ∧ (¬ (S.1 r34 i4.toNatClampNeg) = 0 → ((¬ (S.1 r39 i4.toNatClampNeg) = i2 → (((S.1 r34 i4.toNatClampNeg) = 0 → AW l m_Md_lowest (d + 1) 0 0 (gI sh P) 0 0 21 [.ref a, .int i1, .int i2, .int i3, .int (i4 + 1), .null, .null] [] sh S) ∧ (¬ (S.1 r34 i4.toNatClampNeg) = 0 → Sp l m_Md_isTouching d 0 0 [.ref a, .int 0, .int (S.1 r39 i4.toNatClampNeg), .int i2] sh S (gI sh (fun x51 S50 => ((x51 = 0 → AW l m_Md_lowest (d + 1) 0 0 (gI sh P) 0 0 21 [.ref a, .int i1, .int i2, .int i3, .int (i4 + 1), .null, .null] [] sh S50) ∧ (¬ x51 = 0 → P (-1) S50))))))) ∧ ((S.1 r39 i4.toNatClampNeg) = i2 → P i4 S))))) ∧ (¬ i1 = 0 → Sp l m_Md_passOf d 0 0 [.ref a, .int i4, .int 0] sh S (gI sh (fun x54 S53 => (((S.1 r34 i4.toNatClampNeg) = 0 → (((S.1 r34 i4.toNatClampNeg) = 0 → AW l m_Md_lowest (d + 1) 0 0 (gI sh P) 0 0 21 [.ref a, .int i1, .int i2, .int i3, .int (i4 + 1), .null, .null] [] sh S53) ∧ (¬ (S.1 r34 i4.toNatClampNeg) = 0 → Sp l m_Md_isTouching d 0 0 [.ref a, .int 0, .int x54, .int i2] sh S53 (gI sh (fun x58 S57 => ((x58 = 0 → AW l m_Md_lowest (d + 1) 0 0 (gI sh P) 0 0 21 [.ref a, .int i1, .int i2, .int i3, .int (i4 + 1), .null, .null] [] sh S57) ∧ (¬ x58 = 0 → P (-1) S57))))))) ∧ (¬ (S.1 r34 i4.toNatClampNeg) = 0 → ((¬ x54 = i2 → (((S.1 r34 i4.toNatClampNeg) = 0 → AW l m_Md_lowest (d + 1) 0 0 (gI sh P) 0 0 21 [.ref a, .int i1, .int i2, .int i3, .int (i4 + 1), .null, .null] [] sh S53) ∧ (¬ (S.1 r34 i4.toNatClampNeg) = 0 → Sp l m_Md_isTouching d 0 0 [.ref a, .int 0, .int x54, .int i2] sh S53 (gI sh (fun x63 S62 => ((x63 = 0 → AW l m_Md_lowest (d + 1) 0 0 (gI sh P) 0 0 21 [.ref a, .int i1, .int i2, .int i3, .int (i4 + 1), .null, .null] [] sh S62) ∧ (¬ x63 = 0 → P (-1) S62))))))) ∧ (x54 = i2 → P i4 S53))))))))))))) : AW l m_Md_lowest (d + 1) 0 0 (gI sh P) 0 0 21 [.ref a, .int i1, .int i2, .int i3, .int i4, .null, .null] [] sh S := by
  refine r_iload (pc := 21) d_Md_lowest_21 (x := i4) rfl ?_
  refine r_iload_n (pc := 23) d_Md_lowest_23 (x := i3) rfl ?_
  refine r_icmp_ge (pc := 24) d_Md_lowest_24 (tgt := 111) (by decide) (fun c1 => ?_) (fun c1 => ?_)
  · replace h := h.1 c1
    refine r_iconst (pc := 111) d_Md_lowest_111 (v := (-1)) (by decide) ?_
    exact r_ireturn (pc := 112) d_Md_lowest_112 rfl rfl (Nat.le_refl _) ⟨rfl, _, rfl, h⟩
  · replace h := h.2 c1
    refine r_iload_n (pc := 27) d_Md_lowest_27 (x := i1) rfl ?_
    refine r_if_eq (pc := 28) d_Md_lowest_28 (tgt := 41) (by decide) (fun c2 => ?_) (fun c2 => ?_)
    · replace h := h.1 c2
      refine r_aload_n (pc := 41) d_Md_lowest_41 (x := a) rfl ?_
      obtain ⟨r3, er3, h⟩ := h
      refine r_getR (pc := 42) d_Md_lowest_42 f_Md_72 sa (Or.inr ⟨_, rfl⟩) (r := r3) er3 ?_
      refine r_iload (pc := 45) d_Md_lowest_45 (x := i4) rfl ?_
      obtain ⟨n5, s4, h⟩ := h
      obtain ⟨g6, h⟩ := h
      refine r_zald (pc := 47) d_Md_lowest_47 s4 g6 ?_
      refine r_istore (pc := 48) (hd := d_Md_lowest_48) (hi := by decide) (ls2 := [.ref a, .int i1, .int i2, .int i3, .int i4, .int (S.1 r3 i4.toNatClampNeg), .null]) (h2 := rfl) ?_
      refine r_iload_n (pc := 50) d_Md_lowest_50 (x := i1) rfl ?_
      refine r_if_eq (pc := 51) d_Md_lowest_51 (tgt := 64) (by decide) (fun c7 => ?_) (fun c7 => ?_)
      · replace h := h.1 c7
        refine r_aload_n (pc := 64) d_Md_lowest_64 (x := a) rfl ?_
        obtain ⟨r8, er8, h⟩ := h
        refine r_getR (pc := 65) d_Md_lowest_65 f_Md_63 sa (Or.inr ⟨_, rfl⟩) (r := r8) er8 ?_
        refine r_iload (pc := 68) d_Md_lowest_68 (x := i4) rfl ?_
        obtain ⟨n10, s9, h⟩ := h
        obtain ⟨g11, h⟩ := h
        refine r_iald (pc := 70) d_Md_lowest_70 s9 g11 ?_
        refine r_istore (pc := 71) (hd := d_Md_lowest_71) (hi := by decide) (ls2 := [.ref a, .int i1, .int i2, .int i3, .int i4, .int (S.1 r3 i4.toNatClampNeg), .int (S.1 r8 i4.toNatClampNeg)]) (h2 := rfl) ?_
        refine r_iload (pc := 73) d_Md_lowest_73 (x := (S.1 r3 i4.toNatClampNeg)) rfl ?_
        refine r_if_eq (pc := 75) d_Md_lowest_75 (tgt := 87) (by decide) (fun c12 => ?_) (fun c12 => ?_)
        · replace h := h.1 c12
          refine r_iload (pc := 87) d_Md_lowest_87 (x := (S.1 r3 i4.toNatClampNeg)) rfl ?_
          refine r_if_eq (pc := 89) d_Md_lowest_89 (tgt := 105) (by decide) (fun c13 => ?_) (fun c13 => ?_)
          · replace h := h.1 c13
            refine r_iinc (pc := 105) d_Md_lowest_105 (hi := by decide) (x := i4) rfl (v := i4 + 1) rfl (ls2 := [.ref a, .int i1, .int i2, .int i3, .int (i4 + 1), .int (S.1 r3 i4.toNatClampNeg), .int (S.1 r8 i4.toNatClampNeg)]) rfl ?_
            refine r_goto (pc := 108) d_Md_lowest_108 (tgt := 21) (by decide) ?_
            exact r_weak (ls2 := [.ref a, .int i1, .int i2, .int i3, .int (i4 + 1), .null, .null]) ⟨Or.inr rfl, Or.inr rfl, Or.inr rfl, Or.inr rfl, Or.inr rfl, Or.inl rfl, Or.inl rfl, trivial⟩ h
          · replace h := h.2 c13
            refine r_aload_n (pc := 92) d_Md_lowest_92 (x := a) rfl ?_
            refine r_iconst (pc := 93) d_Md_lowest_93 (v := 0) (by decide) ?_
            refine r_iload (pc := 94) d_Md_lowest_94 (x := (S.1 r8 i4.toNatClampNeg)) rfl ?_
            refine r_iload_n (pc := 96) d_Md_lowest_96 (x := i2) rfl ?_
            refine r_callV (pc := 97) (k := a) (As := [.int 0, .int (S.1 r8 i4.toNatClampNeg), .int i2]) (rest := []) (mc' := 0) (ms' := 0) lk_Md_217 in_Md_isTouching se_Md_isTouching sa rfl d_Md_lowest_97 k_Md_isTouching rfl rfl (Nat.le_of_ble_eq_true rfl) (by decide) (by decide) (Sp.mono h ?_)
            rintro rS14 shS14 S14 ⟨qS14, x15, uS14, h⟩
            subst uS14
            rw [qS14]
            refine r_if_eq (pc := 100) d_Md_lowest_100 (tgt := 105) (by decide) (fun c16 => ?_) (fun c16 => ?_)
            · replace h := h.1 c16
              refine r_iinc (pc := 105) d_Md_lowest_105 (hi := by decide) (x := i4) rfl (v := i4 + 1) rfl (ls2 := [.ref a, .int i1, .int i2, .int i3, .int (i4 + 1), .int (S.1 r3 i4.toNatClampNeg), .int (S.1 r8 i4.toNatClampNeg)]) rfl ?_
              refine r_goto (pc := 108) d_Md_lowest_108 (tgt := 21) (by decide) ?_
              exact r_weak (ls2 := [.ref a, .int i1, .int i2, .int i3, .int (i4 + 1), .null, .null]) ⟨Or.inr rfl, Or.inr rfl, Or.inr rfl, Or.inr rfl, Or.inr rfl, Or.inl rfl, Or.inl rfl, trivial⟩ h
            · replace h := h.2 c16
              refine r_iconst (pc := 103) d_Md_lowest_103 (v := (-1)) (by decide) ?_
              exact r_ireturn (pc := 104) d_Md_lowest_104 rfl rfl (Nat.le_refl _) ⟨rfl, _, rfl, h⟩
        · replace h := h.2 c12
          refine r_iload (pc := 78) d_Md_lowest_78 (x := (S.1 r8 i4.toNatClampNeg)) rfl ?_
          refine r_iload_n (pc := 80) d_Md_lowest_80 (x := i2) rfl ?_
          refine r_icmp_ne (pc := 81) d_Md_lowest_81 (tgt := 87) (by decide) (fun c17 => ?_) (fun c17 => ?_)
          · replace h := h.1 c17
            refine r_iload (pc := 87) d_Md_lowest_87 (x := (S.1 r3 i4.toNatClampNeg)) rfl ?_
            refine r_if_eq (pc := 89) d_Md_lowest_89 (tgt := 105) (by decide) (fun c18 => ?_) (fun c18 => ?_)
            · replace h := h.1 c18
              refine r_iinc (pc := 105) d_Md_lowest_105 (hi := by decide) (x := i4) rfl (v := i4 + 1) rfl (ls2 := [.ref a, .int i1, .int i2, .int i3, .int (i4 + 1), .int (S.1 r3 i4.toNatClampNeg), .int (S.1 r8 i4.toNatClampNeg)]) rfl ?_
              refine r_goto (pc := 108) d_Md_lowest_108 (tgt := 21) (by decide) ?_
              exact r_weak (ls2 := [.ref a, .int i1, .int i2, .int i3, .int (i4 + 1), .null, .null]) ⟨Or.inr rfl, Or.inr rfl, Or.inr rfl, Or.inr rfl, Or.inr rfl, Or.inl rfl, Or.inl rfl, trivial⟩ h
            · replace h := h.2 c18
              refine r_aload_n (pc := 92) d_Md_lowest_92 (x := a) rfl ?_
              refine r_iconst (pc := 93) d_Md_lowest_93 (v := 0) (by decide) ?_
              refine r_iload (pc := 94) d_Md_lowest_94 (x := (S.1 r8 i4.toNatClampNeg)) rfl ?_
              refine r_iload_n (pc := 96) d_Md_lowest_96 (x := i2) rfl ?_
              refine r_callV (pc := 97) (k := a) (As := [.int 0, .int (S.1 r8 i4.toNatClampNeg), .int i2]) (rest := []) (mc' := 0) (ms' := 0) lk_Md_217 in_Md_isTouching se_Md_isTouching sa rfl d_Md_lowest_97 k_Md_isTouching rfl rfl (Nat.le_of_ble_eq_true rfl) (by decide) (by decide) (Sp.mono h ?_)
              rintro rS19 shS19 S19 ⟨qS19, x20, uS19, h⟩
              subst uS19
              rw [qS19]
              refine r_if_eq (pc := 100) d_Md_lowest_100 (tgt := 105) (by decide) (fun c21 => ?_) (fun c21 => ?_)
              · replace h := h.1 c21
                refine r_iinc (pc := 105) d_Md_lowest_105 (hi := by decide) (x := i4) rfl (v := i4 + 1) rfl (ls2 := [.ref a, .int i1, .int i2, .int i3, .int (i4 + 1), .int (S.1 r3 i4.toNatClampNeg), .int (S.1 r8 i4.toNatClampNeg)]) rfl ?_
                refine r_goto (pc := 108) d_Md_lowest_108 (tgt := 21) (by decide) ?_
                exact r_weak (ls2 := [.ref a, .int i1, .int i2, .int i3, .int (i4 + 1), .null, .null]) ⟨Or.inr rfl, Or.inr rfl, Or.inr rfl, Or.inr rfl, Or.inr rfl, Or.inl rfl, Or.inl rfl, trivial⟩ h
              · replace h := h.2 c21
                refine r_iconst (pc := 103) d_Md_lowest_103 (v := (-1)) (by decide) ?_
                exact r_ireturn (pc := 104) d_Md_lowest_104 rfl rfl (Nat.le_refl _) ⟨rfl, _, rfl, h⟩
          · replace h := h.2 c17
            refine r_iload (pc := 84) d_Md_lowest_84 (x := i4) rfl ?_
            exact r_ireturn (pc := 86) d_Md_lowest_86 rfl rfl (Nat.le_refl _) ⟨rfl, _, rfl, h⟩
      · replace h := h.2 c7
        refine r_aload_n (pc := 54) d_Md_lowest_54 (x := a) rfl ?_
        refine r_iload (pc := 55) d_Md_lowest_55 (x := i4) rfl ?_
        refine r_iconst (pc := 57) d_Md_lowest_57 (v := 0) (by decide) ?_
        refine r_callV (pc := 58) (k := a) (As := [.int i4, .int 0]) (rest := []) (mc' := 0) (ms' := 0) lk_Md_316 in_Md_passOf se_Md_passOf sa rfl d_Md_lowest_58 k_Md_passOf rfl rfl (Nat.le_of_ble_eq_true rfl) (by decide) (by decide) (Sp.mono h ?_)
        rintro rS22 shS22 S22 ⟨qS22, x23, uS22, h⟩
        subst uS22
        rw [qS22]
        refine r_goto (pc := 61) d_Md_lowest_61 (tgt := 71) (by decide) ?_
        refine r_istore (pc := 71) (hd := d_Md_lowest_71) (hi := by decide) (ls2 := [.ref a, .int i1, .int i2, .int i3, .int i4, .int (S.1 r3 i4.toNatClampNeg), .int x23]) (h2 := rfl) ?_
        refine r_iload (pc := 73) d_Md_lowest_73 (x := (S.1 r3 i4.toNatClampNeg)) rfl ?_
        refine r_if_eq (pc := 75) d_Md_lowest_75 (tgt := 87) (by decide) (fun c24 => ?_) (fun c24 => ?_)
        · replace h := h.1 c24
          refine r_iload (pc := 87) d_Md_lowest_87 (x := (S.1 r3 i4.toNatClampNeg)) rfl ?_
          refine r_if_eq (pc := 89) d_Md_lowest_89 (tgt := 105) (by decide) (fun c25 => ?_) (fun c25 => ?_)
          · replace h := h.1 c25
            refine r_iinc (pc := 105) d_Md_lowest_105 (hi := by decide) (x := i4) rfl (v := i4 + 1) rfl (ls2 := [.ref a, .int i1, .int i2, .int i3, .int (i4 + 1), .int (S.1 r3 i4.toNatClampNeg), .int x23]) rfl ?_
            refine r_goto (pc := 108) d_Md_lowest_108 (tgt := 21) (by decide) ?_
            exact r_weak (ls2 := [.ref a, .int i1, .int i2, .int i3, .int (i4 + 1), .null, .null]) ⟨Or.inr rfl, Or.inr rfl, Or.inr rfl, Or.inr rfl, Or.inr rfl, Or.inl rfl, Or.inl rfl, trivial⟩ h
          · replace h := h.2 c25
            refine r_aload_n (pc := 92) d_Md_lowest_92 (x := a) rfl ?_
            refine r_iconst (pc := 93) d_Md_lowest_93 (v := 0) (by decide) ?_
            refine r_iload (pc := 94) d_Md_lowest_94 (x := x23) rfl ?_
            refine r_iload_n (pc := 96) d_Md_lowest_96 (x := i2) rfl ?_
            refine r_callV (pc := 97) (k := a) (As := [.int 0, .int x23, .int i2]) (rest := []) (mc' := 0) (ms' := 0) lk_Md_217 in_Md_isTouching se_Md_isTouching sa rfl d_Md_lowest_97 k_Md_isTouching rfl rfl (Nat.le_of_ble_eq_true rfl) (by decide) (by decide) (Sp.mono h ?_)
            rintro rS26 shS26 S26 ⟨qS26, x27, uS26, h⟩
            subst uS26
            rw [qS26]
            refine r_if_eq (pc := 100) d_Md_lowest_100 (tgt := 105) (by decide) (fun c28 => ?_) (fun c28 => ?_)
            · replace h := h.1 c28
              refine r_iinc (pc := 105) d_Md_lowest_105 (hi := by decide) (x := i4) rfl (v := i4 + 1) rfl (ls2 := [.ref a, .int i1, .int i2, .int i3, .int (i4 + 1), .int (S.1 r3 i4.toNatClampNeg), .int x23]) rfl ?_
              refine r_goto (pc := 108) d_Md_lowest_108 (tgt := 21) (by decide) ?_
              exact r_weak (ls2 := [.ref a, .int i1, .int i2, .int i3, .int (i4 + 1), .null, .null]) ⟨Or.inr rfl, Or.inr rfl, Or.inr rfl, Or.inr rfl, Or.inr rfl, Or.inl rfl, Or.inl rfl, trivial⟩ h
            · replace h := h.2 c28
              refine r_iconst (pc := 103) d_Md_lowest_103 (v := (-1)) (by decide) ?_
              exact r_ireturn (pc := 104) d_Md_lowest_104 rfl rfl (Nat.le_refl _) ⟨rfl, _, rfl, h⟩
        · replace h := h.2 c24
          refine r_iload (pc := 78) d_Md_lowest_78 (x := x23) rfl ?_
          refine r_iload_n (pc := 80) d_Md_lowest_80 (x := i2) rfl ?_
          refine r_icmp_ne (pc := 81) d_Md_lowest_81 (tgt := 87) (by decide) (fun c29 => ?_) (fun c29 => ?_)
          · replace h := h.1 c29
            refine r_iload (pc := 87) d_Md_lowest_87 (x := (S.1 r3 i4.toNatClampNeg)) rfl ?_
            refine r_if_eq (pc := 89) d_Md_lowest_89 (tgt := 105) (by decide) (fun c30 => ?_) (fun c30 => ?_)
            · replace h := h.1 c30
              refine r_iinc (pc := 105) d_Md_lowest_105 (hi := by decide) (x := i4) rfl (v := i4 + 1) rfl (ls2 := [.ref a, .int i1, .int i2, .int i3, .int (i4 + 1), .int (S.1 r3 i4.toNatClampNeg), .int x23]) rfl ?_
              refine r_goto (pc := 108) d_Md_lowest_108 (tgt := 21) (by decide) ?_
              exact r_weak (ls2 := [.ref a, .int i1, .int i2, .int i3, .int (i4 + 1), .null, .null]) ⟨Or.inr rfl, Or.inr rfl, Or.inr rfl, Or.inr rfl, Or.inr rfl, Or.inl rfl, Or.inl rfl, trivial⟩ h
            · replace h := h.2 c30
              refine r_aload_n (pc := 92) d_Md_lowest_92 (x := a) rfl ?_
              refine r_iconst (pc := 93) d_Md_lowest_93 (v := 0) (by decide) ?_
              refine r_iload (pc := 94) d_Md_lowest_94 (x := x23) rfl ?_
              refine r_iload_n (pc := 96) d_Md_lowest_96 (x := i2) rfl ?_
              refine r_callV (pc := 97) (k := a) (As := [.int 0, .int x23, .int i2]) (rest := []) (mc' := 0) (ms' := 0) lk_Md_217 in_Md_isTouching se_Md_isTouching sa rfl d_Md_lowest_97 k_Md_isTouching rfl rfl (Nat.le_of_ble_eq_true rfl) (by decide) (by decide) (Sp.mono h ?_)
              rintro rS31 shS31 S31 ⟨qS31, x32, uS31, h⟩
              subst uS31
              rw [qS31]
              refine r_if_eq (pc := 100) d_Md_lowest_100 (tgt := 105) (by decide) (fun c33 => ?_) (fun c33 => ?_)
              · replace h := h.1 c33
                refine r_iinc (pc := 105) d_Md_lowest_105 (hi := by decide) (x := i4) rfl (v := i4 + 1) rfl (ls2 := [.ref a, .int i1, .int i2, .int i3, .int (i4 + 1), .int (S.1 r3 i4.toNatClampNeg), .int x23]) rfl ?_
                refine r_goto (pc := 108) d_Md_lowest_108 (tgt := 21) (by decide) ?_
                exact r_weak (ls2 := [.ref a, .int i1, .int i2, .int i3, .int (i4 + 1), .null, .null]) ⟨Or.inr rfl, Or.inr rfl, Or.inr rfl, Or.inr rfl, Or.inr rfl, Or.inl rfl, Or.inl rfl, trivial⟩ h
              · replace h := h.2 c33
                refine r_iconst (pc := 103) d_Md_lowest_103 (v := (-1)) (by decide) ?_
                exact r_ireturn (pc := 104) d_Md_lowest_104 rfl rfl (Nat.le_refl _) ⟨rfl, _, rfl, h⟩
          · replace h := h.2 c29
            refine r_iload (pc := 84) d_Md_lowest_84 (x := i4) rfl ?_
            exact r_ireturn (pc := 86) d_Md_lowest_86 rfl rfl (Nat.le_refl _) ⟨rfl, _, rfl, h⟩
    · replace h := h.2 c2
      refine r_aload_n (pc := 31) d_Md_lowest_31 (x := a) rfl ?_
      obtain ⟨r34, er34, h⟩ := h
      refine r_getR (pc := 32) d_Md_lowest_32 f_Md_69 sa (Or.inr ⟨_, rfl⟩) (r := r34) er34 ?_
      refine r_iload (pc := 35) d_Md_lowest_35 (x := i4) rfl ?_
      obtain ⟨n36, s35, h⟩ := h
      obtain ⟨g37, h⟩ := h
      refine r_zald (pc := 37) d_Md_lowest_37 s35 g37 ?_
      refine r_goto (pc := 38) d_Md_lowest_38 (tgt := 48) (by decide) ?_
      refine r_istore (pc := 48) (hd := d_Md_lowest_48) (hi := by decide) (ls2 := [.ref a, .int i1, .int i2, .int i3, .int i4, .int (S.1 r34 i4.toNatClampNeg), .null]) (h2 := rfl) ?_
      refine r_iload_n (pc := 50) d_Md_lowest_50 (x := i1) rfl ?_
      refine r_if_eq (pc := 51) d_Md_lowest_51 (tgt := 64) (by decide) (fun c38 => ?_) (fun c38 => ?_)
      · replace h := h.1 c38
        refine r_aload_n (pc := 64) d_Md_lowest_64 (x := a) rfl ?_
        obtain ⟨r39, er39, h⟩ := h
        refine r_getR (pc := 65) d_Md_lowest_65 f_Md_63 sa (Or.inr ⟨_, rfl⟩) (r := r39) er39 ?_
        refine r_iload (pc := 68) d_Md_lowest_68 (x := i4) rfl ?_
        obtain ⟨n41, s40, h⟩ := h
        obtain ⟨g42, h⟩ := h
        refine r_iald (pc := 70) d_Md_lowest_70 s40 g42 ?_
        refine r_istore (pc := 71) (hd := d_Md_lowest_71) (hi := by decide) (ls2 := [.ref a, .int i1, .int i2, .int i3, .int i4, .int (S.1 r34 i4.toNatClampNeg), .int (S.1 r39 i4.toNatClampNeg)]) (h2 := rfl) ?_
        refine r_iload (pc := 73) d_Md_lowest_73 (x := (S.1 r34 i4.toNatClampNeg)) rfl ?_
        refine r_if_eq (pc := 75) d_Md_lowest_75 (tgt := 87) (by decide) (fun c43 => ?_) (fun c43 => ?_)
        · replace h := h.1 c43
          refine r_iload (pc := 87) d_Md_lowest_87 (x := (S.1 r34 i4.toNatClampNeg)) rfl ?_
          refine r_if_eq (pc := 89) d_Md_lowest_89 (tgt := 105) (by decide) (fun c44 => ?_) (fun c44 => ?_)
          · replace h := h.1 c44
            refine r_iinc (pc := 105) d_Md_lowest_105 (hi := by decide) (x := i4) rfl (v := i4 + 1) rfl (ls2 := [.ref a, .int i1, .int i2, .int i3, .int (i4 + 1), .int (S.1 r34 i4.toNatClampNeg), .int (S.1 r39 i4.toNatClampNeg)]) rfl ?_
            refine r_goto (pc := 108) d_Md_lowest_108 (tgt := 21) (by decide) ?_
            exact r_weak (ls2 := [.ref a, .int i1, .int i2, .int i3, .int (i4 + 1), .null, .null]) ⟨Or.inr rfl, Or.inr rfl, Or.inr rfl, Or.inr rfl, Or.inr rfl, Or.inl rfl, Or.inl rfl, trivial⟩ h
          · replace h := h.2 c44
            refine r_aload_n (pc := 92) d_Md_lowest_92 (x := a) rfl ?_
            refine r_iconst (pc := 93) d_Md_lowest_93 (v := 0) (by decide) ?_
            refine r_iload (pc := 94) d_Md_lowest_94 (x := (S.1 r39 i4.toNatClampNeg)) rfl ?_
            refine r_iload_n (pc := 96) d_Md_lowest_96 (x := i2) rfl ?_
            refine r_callV (pc := 97) (k := a) (As := [.int 0, .int (S.1 r39 i4.toNatClampNeg), .int i2]) (rest := []) (mc' := 0) (ms' := 0) lk_Md_217 in_Md_isTouching se_Md_isTouching sa rfl d_Md_lowest_97 k_Md_isTouching rfl rfl (Nat.le_of_ble_eq_true rfl) (by decide) (by decide) (Sp.mono h ?_)
            rintro rS45 shS45 S45 ⟨qS45, x46, uS45, h⟩
            subst uS45
            rw [qS45]
            refine r_if_eq (pc := 100) d_Md_lowest_100 (tgt := 105) (by decide) (fun c47 => ?_) (fun c47 => ?_)
            · replace h := h.1 c47
              refine r_iinc (pc := 105) d_Md_lowest_105 (hi := by decide) (x := i4) rfl (v := i4 + 1) rfl (ls2 := [.ref a, .int i1, .int i2, .int i3, .int (i4 + 1), .int (S.1 r34 i4.toNatClampNeg), .int (S.1 r39 i4.toNatClampNeg)]) rfl ?_
              refine r_goto (pc := 108) d_Md_lowest_108 (tgt := 21) (by decide) ?_
              exact r_weak (ls2 := [.ref a, .int i1, .int i2, .int i3, .int (i4 + 1), .null, .null]) ⟨Or.inr rfl, Or.inr rfl, Or.inr rfl, Or.inr rfl, Or.inr rfl, Or.inl rfl, Or.inl rfl, trivial⟩ h
            · replace h := h.2 c47
              refine r_iconst (pc := 103) d_Md_lowest_103 (v := (-1)) (by decide) ?_
              exact r_ireturn (pc := 104) d_Md_lowest_104 rfl rfl (Nat.le_refl _) ⟨rfl, _, rfl, h⟩
        · replace h := h.2 c43
          refine r_iload (pc := 78) d_Md_lowest_78 (x := (S.1 r39 i4.toNatClampNeg)) rfl ?_
          refine r_iload_n (pc := 80) d_Md_lowest_80 (x := i2) rfl ?_
          refine r_icmp_ne (pc := 81) d_Md_lowest_81 (tgt := 87) (by decide) (fun c48 => ?_) (fun c48 => ?_)
          · replace h := h.1 c48
            refine r_iload (pc := 87) d_Md_lowest_87 (x := (S.1 r34 i4.toNatClampNeg)) rfl ?_
            refine r_if_eq (pc := 89) d_Md_lowest_89 (tgt := 105) (by decide) (fun c49 => ?_) (fun c49 => ?_)
            · replace h := h.1 c49
              refine r_iinc (pc := 105) d_Md_lowest_105 (hi := by decide) (x := i4) rfl (v := i4 + 1) rfl (ls2 := [.ref a, .int i1, .int i2, .int i3, .int (i4 + 1), .int (S.1 r34 i4.toNatClampNeg), .int (S.1 r39 i4.toNatClampNeg)]) rfl ?_
              refine r_goto (pc := 108) d_Md_lowest_108 (tgt := 21) (by decide) ?_
              exact r_weak (ls2 := [.ref a, .int i1, .int i2, .int i3, .int (i4 + 1), .null, .null]) ⟨Or.inr rfl, Or.inr rfl, Or.inr rfl, Or.inr rfl, Or.inr rfl, Or.inl rfl, Or.inl rfl, trivial⟩ h
            · replace h := h.2 c49
              refine r_aload_n (pc := 92) d_Md_lowest_92 (x := a) rfl ?_
              refine r_iconst (pc := 93) d_Md_lowest_93 (v := 0) (by decide) ?_
              refine r_iload (pc := 94) d_Md_lowest_94 (x := (S.1 r39 i4.toNatClampNeg)) rfl ?_
              refine r_iload_n (pc := 96) d_Md_lowest_96 (x := i2) rfl ?_
              refine r_callV (pc := 97) (k := a) (As := [.int 0, .int (S.1 r39 i4.toNatClampNeg), .int i2]) (rest := []) (mc' := 0) (ms' := 0) lk_Md_217 in_Md_isTouching se_Md_isTouching sa rfl d_Md_lowest_97 k_Md_isTouching rfl rfl (Nat.le_of_ble_eq_true rfl) (by decide) (by decide) (Sp.mono h ?_)
              rintro rS50 shS50 S50 ⟨qS50, x51, uS50, h⟩
              subst uS50
              rw [qS50]
              refine r_if_eq (pc := 100) d_Md_lowest_100 (tgt := 105) (by decide) (fun c52 => ?_) (fun c52 => ?_)
              · replace h := h.1 c52
                refine r_iinc (pc := 105) d_Md_lowest_105 (hi := by decide) (x := i4) rfl (v := i4 + 1) rfl (ls2 := [.ref a, .int i1, .int i2, .int i3, .int (i4 + 1), .int (S.1 r34 i4.toNatClampNeg), .int (S.1 r39 i4.toNatClampNeg)]) rfl ?_
                refine r_goto (pc := 108) d_Md_lowest_108 (tgt := 21) (by decide) ?_
                exact r_weak (ls2 := [.ref a, .int i1, .int i2, .int i3, .int (i4 + 1), .null, .null]) ⟨Or.inr rfl, Or.inr rfl, Or.inr rfl, Or.inr rfl, Or.inr rfl, Or.inl rfl, Or.inl rfl, trivial⟩ h
              · replace h := h.2 c52
                refine r_iconst (pc := 103) d_Md_lowest_103 (v := (-1)) (by decide) ?_
                exact r_ireturn (pc := 104) d_Md_lowest_104 rfl rfl (Nat.le_refl _) ⟨rfl, _, rfl, h⟩
          · replace h := h.2 c48
            refine r_iload (pc := 84) d_Md_lowest_84 (x := i4) rfl ?_
            exact r_ireturn (pc := 86) d_Md_lowest_86 rfl rfl (Nat.le_refl _) ⟨rfl, _, rfl, h⟩
      · replace h := h.2 c38
        refine r_aload_n (pc := 54) d_Md_lowest_54 (x := a) rfl ?_
        refine r_iload (pc := 55) d_Md_lowest_55 (x := i4) rfl ?_
        refine r_iconst (pc := 57) d_Md_lowest_57 (v := 0) (by decide) ?_
        refine r_callV (pc := 58) (k := a) (As := [.int i4, .int 0]) (rest := []) (mc' := 0) (ms' := 0) lk_Md_316 in_Md_passOf se_Md_passOf sa rfl d_Md_lowest_58 k_Md_passOf rfl rfl (Nat.le_of_ble_eq_true rfl) (by decide) (by decide) (Sp.mono h ?_)
        rintro rS53 shS53 S53 ⟨qS53, x54, uS53, h⟩
        subst uS53
        rw [qS53]
        refine r_goto (pc := 61) d_Md_lowest_61 (tgt := 71) (by decide) ?_
        refine r_istore (pc := 71) (hd := d_Md_lowest_71) (hi := by decide) (ls2 := [.ref a, .int i1, .int i2, .int i3, .int i4, .int (S.1 r34 i4.toNatClampNeg), .int x54]) (h2 := rfl) ?_
        refine r_iload (pc := 73) d_Md_lowest_73 (x := (S.1 r34 i4.toNatClampNeg)) rfl ?_
        refine r_if_eq (pc := 75) d_Md_lowest_75 (tgt := 87) (by decide) (fun c55 => ?_) (fun c55 => ?_)
        · replace h := h.1 c55
          refine r_iload (pc := 87) d_Md_lowest_87 (x := (S.1 r34 i4.toNatClampNeg)) rfl ?_
          refine r_if_eq (pc := 89) d_Md_lowest_89 (tgt := 105) (by decide) (fun c56 => ?_) (fun c56 => ?_)
          · replace h := h.1 c56
            refine r_iinc (pc := 105) d_Md_lowest_105 (hi := by decide) (x := i4) rfl (v := i4 + 1) rfl (ls2 := [.ref a, .int i1, .int i2, .int i3, .int (i4 + 1), .int (S.1 r34 i4.toNatClampNeg), .int x54]) rfl ?_
            refine r_goto (pc := 108) d_Md_lowest_108 (tgt := 21) (by decide) ?_
            exact r_weak (ls2 := [.ref a, .int i1, .int i2, .int i3, .int (i4 + 1), .null, .null]) ⟨Or.inr rfl, Or.inr rfl, Or.inr rfl, Or.inr rfl, Or.inr rfl, Or.inl rfl, Or.inl rfl, trivial⟩ h
          · replace h := h.2 c56
            refine r_aload_n (pc := 92) d_Md_lowest_92 (x := a) rfl ?_
            refine r_iconst (pc := 93) d_Md_lowest_93 (v := 0) (by decide) ?_
            refine r_iload (pc := 94) d_Md_lowest_94 (x := x54) rfl ?_
            refine r_iload_n (pc := 96) d_Md_lowest_96 (x := i2) rfl ?_
            refine r_callV (pc := 97) (k := a) (As := [.int 0, .int x54, .int i2]) (rest := []) (mc' := 0) (ms' := 0) lk_Md_217 in_Md_isTouching se_Md_isTouching sa rfl d_Md_lowest_97 k_Md_isTouching rfl rfl (Nat.le_of_ble_eq_true rfl) (by decide) (by decide) (Sp.mono h ?_)
            rintro rS57 shS57 S57 ⟨qS57, x58, uS57, h⟩
            subst uS57
            rw [qS57]
            refine r_if_eq (pc := 100) d_Md_lowest_100 (tgt := 105) (by decide) (fun c59 => ?_) (fun c59 => ?_)
            · replace h := h.1 c59
              refine r_iinc (pc := 105) d_Md_lowest_105 (hi := by decide) (x := i4) rfl (v := i4 + 1) rfl (ls2 := [.ref a, .int i1, .int i2, .int i3, .int (i4 + 1), .int (S.1 r34 i4.toNatClampNeg), .int x54]) rfl ?_
              refine r_goto (pc := 108) d_Md_lowest_108 (tgt := 21) (by decide) ?_
              exact r_weak (ls2 := [.ref a, .int i1, .int i2, .int i3, .int (i4 + 1), .null, .null]) ⟨Or.inr rfl, Or.inr rfl, Or.inr rfl, Or.inr rfl, Or.inr rfl, Or.inl rfl, Or.inl rfl, trivial⟩ h
            · replace h := h.2 c59
              refine r_iconst (pc := 103) d_Md_lowest_103 (v := (-1)) (by decide) ?_
              exact r_ireturn (pc := 104) d_Md_lowest_104 rfl rfl (Nat.le_refl _) ⟨rfl, _, rfl, h⟩
        · replace h := h.2 c55
          refine r_iload (pc := 78) d_Md_lowest_78 (x := x54) rfl ?_
          refine r_iload_n (pc := 80) d_Md_lowest_80 (x := i2) rfl ?_
          refine r_icmp_ne (pc := 81) d_Md_lowest_81 (tgt := 87) (by decide) (fun c60 => ?_) (fun c60 => ?_)
          · replace h := h.1 c60
            refine r_iload (pc := 87) d_Md_lowest_87 (x := (S.1 r34 i4.toNatClampNeg)) rfl ?_
            refine r_if_eq (pc := 89) d_Md_lowest_89 (tgt := 105) (by decide) (fun c61 => ?_) (fun c61 => ?_)
            · replace h := h.1 c61
              refine r_iinc (pc := 105) d_Md_lowest_105 (hi := by decide) (x := i4) rfl (v := i4 + 1) rfl (ls2 := [.ref a, .int i1, .int i2, .int i3, .int (i4 + 1), .int (S.1 r34 i4.toNatClampNeg), .int x54]) rfl ?_
              refine r_goto (pc := 108) d_Md_lowest_108 (tgt := 21) (by decide) ?_
              exact r_weak (ls2 := [.ref a, .int i1, .int i2, .int i3, .int (i4 + 1), .null, .null]) ⟨Or.inr rfl, Or.inr rfl, Or.inr rfl, Or.inr rfl, Or.inr rfl, Or.inl rfl, Or.inl rfl, trivial⟩ h
            · replace h := h.2 c61
              refine r_aload_n (pc := 92) d_Md_lowest_92 (x := a) rfl ?_
              refine r_iconst (pc := 93) d_Md_lowest_93 (v := 0) (by decide) ?_
              refine r_iload (pc := 94) d_Md_lowest_94 (x := x54) rfl ?_
              refine r_iload_n (pc := 96) d_Md_lowest_96 (x := i2) rfl ?_
              refine r_callV (pc := 97) (k := a) (As := [.int 0, .int x54, .int i2]) (rest := []) (mc' := 0) (ms' := 0) lk_Md_217 in_Md_isTouching se_Md_isTouching sa rfl d_Md_lowest_97 k_Md_isTouching rfl rfl (Nat.le_of_ble_eq_true rfl) (by decide) (by decide) (Sp.mono h ?_)
              rintro rS62 shS62 S62 ⟨qS62, x63, uS62, h⟩
              subst uS62
              rw [qS62]
              refine r_if_eq (pc := 100) d_Md_lowest_100 (tgt := 105) (by decide) (fun c64 => ?_) (fun c64 => ?_)
              · replace h := h.1 c64
                refine r_iinc (pc := 105) d_Md_lowest_105 (hi := by decide) (x := i4) rfl (v := i4 + 1) rfl (ls2 := [.ref a, .int i1, .int i2, .int i3, .int (i4 + 1), .int (S.1 r34 i4.toNatClampNeg), .int x54]) rfl ?_
                refine r_goto (pc := 108) d_Md_lowest_108 (tgt := 21) (by decide) ?_
                exact r_weak (ls2 := [.ref a, .int i1, .int i2, .int i3, .int (i4 + 1), .null, .null]) ⟨Or.inr rfl, Or.inr rfl, Or.inr rfl, Or.inr rfl, Or.inr rfl, Or.inl rfl, Or.inl rfl, trivial⟩ h
              · replace h := h.2 c64
                refine r_iconst (pc := 103) d_Md_lowest_103 (v := (-1)) (by decide) ?_
                exact r_ireturn (pc := 104) d_Md_lowest_104 rfl rfl (Nat.le_refl _) ⟨rfl, _, rfl, h⟩
          · replace h := h.2 c60
            refine r_iload (pc := 84) d_Md_lowest_84 (x := i4) rfl ?_
            exact r_ireturn (pc := 86) d_Md_lowest_86 rfl rfl (Nat.le_refl _) ⟨rfl, _, rfl, h⟩
set_option maxRecDepth 4000 in
theorem e_Md_apart {l : Launch} {d : Nat} {sh : aw_SH} {S : aw_S} {P : Int32 → aw_S → Prop} {a : Nat} {p0 : Int32} {p1 : Int32} (sa : sh[a]? = some (0, 11)) (h : Sp l m_Md_wrongDance d 0 0 [.ref a, .int p0, .int p1] sh S (gI sh (fun x2 S1 => ((x2 ≤ 0 → Sp l m_Md_laysDance d 0 0 [.ref a, .int p0, .int p1, .int (-1)] sh S1 (gV sh (fun S4 => Sp l m_Md_apartNow d 0 0 [.ref a] sh S4 (gI sh (fun x6 S5 => Sp l m_Md_gives d 0 0 [.ref a, .int x6] sh S5 (gI sh (fun x8 S7 => P x8 S7))))))) ∧ (¬ x2 ≤ 0 → Sp l m_Md_refuse d 0 0 [.ref a, .int x2] sh S1 (gI sh (fun x10 S9 => P x10 S9))))))) : Sp l m_Md_apart (d + 1) 0 0 [.ref a, .int p0, .int p1] sh S (gI sh P) := by
  refine Sp.of k_Md_apart (ls := [.ref a, .int p0, .int p1, .null]) rfl (Nat.le_of_ble_eq_true rfl) ?_
  refine r_aload_n (pc := 0) d_Md_apart_0 (x := a) rfl ?_
  refine r_iload_n (pc := 1) d_Md_apart_1 (x := p0) rfl ?_
  refine r_iload_n (pc := 2) d_Md_apart_2 (x := p1) rfl ?_
  refine r_callV (pc := 3) (k := a) (As := [.int p0, .int p1]) (rest := []) (mc' := 0) (ms' := 0) lk_Md_420 in_Md_wrongDance se_Md_wrongDance sa rfl d_Md_apart_3 k_Md_wrongDance rfl rfl (Nat.le_of_ble_eq_true rfl) (by decide) (by decide) (Sp.mono h ?_)
  rintro rS1 shS1 S1 ⟨qS1, x2, uS1, h⟩
  subst uS1
  rw [qS1]
  refine r_istore_n (pc := 6) (hk := rfl) (hd := d_Md_apart_6) (hi := by decide) (ls2 := [.ref a, .int p0, .int p1, .int x2]) (h2 := rfl) ?_
  refine r_iload_n (pc := 7) d_Md_apart_7 (x := x2) rfl ?_
  refine r_if_le (pc := 8) d_Md_apart_8 (tgt := 17) (by decide) (fun c3 => ?_) (fun c3 => ?_)
  · replace h := h.1 c3
    refine r_aload_n (pc := 17) d_Md_apart_17 (x := a) rfl ?_
    refine r_iload_n (pc := 18) d_Md_apart_18 (x := p0) rfl ?_
    refine r_iload_n (pc := 19) d_Md_apart_19 (x := p1) rfl ?_
    refine r_iconst (pc := 20) d_Md_apart_20 (v := (-1)) (by decide) ?_
    refine r_callV (pc := 21) (k := a) (As := [.int p0, .int p1, .int (-1)]) (rest := []) (mc' := 0) (ms' := 0) lk_Md_423 in_Md_laysDance se_Md_laysDance sa rfl d_Md_apart_21 k_Md_laysDance rfl rfl (Nat.le_of_ble_eq_true rfl) (by decide) (by decide) (Sp.mono h ?_)
    rintro rS4 shS4 S4 ⟨qS4, uS4, h⟩
    subst uS4
    rw [qS4]
    refine r_aload_n (pc := 24) d_Md_apart_24 (x := a) rfl ?_
    refine r_aload_n (pc := 25) d_Md_apart_25 (x := a) rfl ?_
    refine r_callV (pc := 26) (k := a) (As := []) (rest := [.ref a]) (mc' := 0) (ms' := 0) lk_Md_427 in_Md_apartNow se_Md_apartNow sa rfl d_Md_apart_26 k_Md_apartNow rfl rfl (Nat.le_of_ble_eq_true rfl) (by decide) (by decide) (Sp.mono h ?_)
    rintro rS5 shS5 S5 ⟨qS5, x6, uS5, h⟩
    subst uS5
    rw [qS5]
    refine r_callV (pc := 29) (k := a) (As := [.int x6]) (rest := []) (mc' := 0) (ms' := 0) lk_Md_122 in_Md_gives se_Md_gives sa rfl d_Md_apart_29 k_Md_gives rfl rfl (Nat.le_of_ble_eq_true rfl) (by decide) (by decide) (Sp.mono h ?_)
    rintro rS7 shS7 S7 ⟨qS7, x8, uS7, h⟩
    subst uS7
    rw [qS7]
    exact r_ireturn (pc := 32) d_Md_apart_32 rfl rfl (Nat.le_refl _) ⟨rfl, _, rfl, h⟩
  · replace h := h.2 c3
    refine r_aload_n (pc := 11) d_Md_apart_11 (x := a) rfl ?_
    refine r_iload_n (pc := 12) d_Md_apart_12 (x := x2) rfl ?_
    refine r_callV (pc := 13) (k := a) (As := [.int x2]) (rest := []) (mc' := 0) (ms' := 0) lk_Md_118 in_Md_refuse se_Md_refuse sa rfl d_Md_apart_13 k_Md_refuse rfl rfl (Nat.le_of_ble_eq_true rfl) (by decide) (by decide) (Sp.mono h ?_)
    rintro rS9 shS9 S9 ⟨qS9, x10, uS9, h⟩
    subst uS9
    rw [qS9]
    exact r_ireturn (pc := 16) d_Md_apart_16 rfl rfl (Nat.le_refl _) ⟨rfl, _, rfl, h⟩
set_option maxRecDepth 4000 in
theorem e_Md_slips {l : Launch} {d : Nat} {sh : aw_SH} {S : aw_S} {P : Int32 → aw_S → Prop} {a : Nat} {p0 : Int32} {p1 : Int32} (sa : sh[a]? = some (0, 11)) (h : Sp l m_Md_wrongDance d 0 0 [.ref a, .int p0, .int p1] sh S (gI sh (fun x2 S1 => ((x2 ≤ 0 → Sp l m_Md_slipOf d 0 0 [.ref a, .int p0, .int p1, .int (-1)] sh S1 (gI sh (fun x5 S4 => Sp l m_Md_gives d 0 0 [.ref a, .int x5] sh S4 (gI sh (fun x7 S6 => P x7 S6))))) ∧ (¬ x2 ≤ 0 → Sp l m_Md_refuse d 0 0 [.ref a, .int x2] sh S1 (gI sh (fun x9 S8 => P x9 S8))))))) : Sp l m_Md_slips (d + 1) 0 0 [.ref a, .int p0, .int p1] sh S (gI sh P) := by
  refine Sp.of k_Md_slips (ls := [.ref a, .int p0, .int p1, .null]) rfl (Nat.le_of_ble_eq_true rfl) ?_
  refine r_aload_n (pc := 0) d_Md_slips_0 (x := a) rfl ?_
  refine r_iload_n (pc := 1) d_Md_slips_1 (x := p0) rfl ?_
  refine r_iload_n (pc := 2) d_Md_slips_2 (x := p1) rfl ?_
  refine r_callV (pc := 3) (k := a) (As := [.int p0, .int p1]) (rest := []) (mc' := 0) (ms' := 0) lk_Md_420 in_Md_wrongDance se_Md_wrongDance sa rfl d_Md_slips_3 k_Md_wrongDance rfl rfl (Nat.le_of_ble_eq_true rfl) (by decide) (by decide) (Sp.mono h ?_)
  rintro rS1 shS1 S1 ⟨qS1, x2, uS1, h⟩
  subst uS1
  rw [qS1]
  refine r_istore_n (pc := 6) (hk := rfl) (hd := d_Md_slips_6) (hi := by decide) (ls2 := [.ref a, .int p0, .int p1, .int x2]) (h2 := rfl) ?_
  refine r_iload_n (pc := 7) d_Md_slips_7 (x := x2) rfl ?_
  refine r_if_le (pc := 8) d_Md_slips_8 (tgt := 19) (by decide) (fun c3 => ?_) (fun c3 => ?_)
  · replace h := h.1 c3
    refine r_aload_n (pc := 19) d_Md_slips_19 (x := a) rfl ?_
    refine r_aload_n (pc := 20) d_Md_slips_20 (x := a) rfl ?_
    refine r_iload_n (pc := 21) d_Md_slips_21 (x := p0) rfl ?_
    refine r_iload_n (pc := 22) d_Md_slips_22 (x := p1) rfl ?_
    refine r_iconst (pc := 23) d_Md_slips_23 (v := (-1)) (by decide) ?_
    refine r_callV (pc := 24) (k := a) (As := [.int p0, .int p1, .int (-1)]) (rest := [.ref a]) (mc' := 0) (ms' := 0) lk_Md_430 in_Md_slipOf se_Md_slipOf sa rfl d_Md_slips_24 k_Md_slipOf rfl rfl (Nat.le_of_ble_eq_true rfl) (by decide) (by decide) (Sp.mono h ?_)
    rintro rS4 shS4 S4 ⟨qS4, x5, uS4, h⟩
    subst uS4
    rw [qS4]
    refine r_callV (pc := 27) (k := a) (As := [.int x5]) (rest := []) (mc' := 0) (ms' := 0) lk_Md_122 in_Md_gives se_Md_gives sa rfl d_Md_slips_27 k_Md_gives rfl rfl (Nat.le_of_ble_eq_true rfl) (by decide) (by decide) (Sp.mono h ?_)
    rintro rS6 shS6 S6 ⟨qS6, x7, uS6, h⟩
    subst uS6
    rw [qS6]
    exact r_ireturn (pc := 30) d_Md_slips_30 rfl rfl (Nat.le_refl _) ⟨rfl, _, rfl, h⟩
  · replace h := h.2 c3
    refine r_aload_n (pc := 11) d_Md_slips_11 (x := a) rfl ?_
    refine r_iload_n (pc := 12) d_Md_slips_12 (x := x2) rfl ?_
    refine r_callV (pc := 13) (k := a) (As := [.int x2]) (rest := []) (mc' := 0) (ms' := 0) lk_Md_118 in_Md_refuse se_Md_refuse sa rfl d_Md_slips_13 k_Md_refuse rfl rfl (Nat.le_of_ble_eq_true rfl) (by decide) (by decide) (Sp.mono h ?_)
    rintro rS8 shS8 S8 ⟨qS8, x9, uS8, h⟩
    subst uS8
    rw [qS8]
    refine r_goto (pc := 16) d_Md_slips_16 (tgt := 30) (by decide) ?_
    exact r_ireturn (pc := 30) d_Md_slips_30 rfl rfl (Nat.le_refl _) ⟨rfl, _, rfl, h⟩
set_option maxRecDepth 4000 in
theorem e_Md_slipOf {l : Launch} {d : Nat} {sh : aw_SH} {S : aw_S} {P : Int32 → aw_S → Prop} {a : Nat} {p0 : Int32} {p1 : Int32} {p2 : Int32} (sa : sh[a]? = some (0, 11)) (h : AW l m_Md_slipOf (d + 1) 0 0 (gI sh P) 0 0 6 [.ref a, .int p0, .int p1, .int p2, .int 0, .int 0] [] sh S) : Sp l m_Md_slipOf (d + 1) 0 0 [.ref a, .int p0, .int p1, .int p2] sh S (gI sh P) := by
  refine Sp.of k_Md_slipOf (ls := [.ref a, .int p0, .int p1, .int p2, .null, .null]) rfl (Nat.le_of_ble_eq_true rfl) ?_
  refine r_iconst (pc := 0) d_Md_slipOf_0 (v := 0) (by decide) ?_
  refine r_istore (pc := 1) (hd := d_Md_slipOf_1) (hi := by decide) (ls2 := [.ref a, .int p0, .int p1, .int p2, .int 0, .null]) (h2 := rfl) ?_
  refine r_iconst (pc := 3) d_Md_slipOf_3 (v := 0) (by decide) ?_
  refine r_istore (pc := 4) (hd := d_Md_slipOf_4) (hi := by decide) (ls2 := [.ref a, .int p0, .int p1, .int p2, .int 0, .int 0]) (h2 := rfl) ?_
  exact h
set_option maxRecDepth 4000 in
theorem s_Md_slipOf_6 {l : Launch} {d : Nat} {sh : aw_SH} {S : aw_S} {P : Int32 → aw_S → Prop} {a : Nat} {i1 : Int32} {i2 : Int32} {i3 : Int32} {i4 : Int32} {i5 : Int32} (sa : sh[a]? = some (0, 11)) (h : ((i2 ≤ i5 → ((0 ≤ i3 → P (-1) S) ∧ (¬ 0 ≤ i3 → P i4 S))) ∧ (¬ i2 ≤ i5 → Sp l m_Md_laysDance d 0 0 [.ref a, .int i1, .int i2, .int i5] sh S (gV sh (fun S3 => Sp l m_Md_apartNow d 0 0 [.ref a] sh S3 (gI sh (fun x5 S4 => ((x5 ≤ 0 → ((¬ i4 = i3 → AW l m_Md_slipOf (d + 1) 0 0 (gI sh P) 0 0 6 [.ref a, .int i1, .int i2, .int i3, .int (i4 + 1), .int (i5 + 1)] [] sh S4) ∧ (i4 = i3 → P i5 S4))) ∧ (¬ x5 ≤ 0 → AW l m_Md_slipOf (d + 1) 0 0 (gI sh P) 0 0 6 [.ref a, .int i1, .int i2, .int i3, .int i4, .int (i5 + 1)] [] sh S4))))))))) : AW l m_Md_slipOf (d + 1) 0 0 (gI sh P) 0 0 6 [.ref a, .int i1, .int i2, .int i3, .int i4, .int i5] [] sh S := by
  refine r_iload (pc := 6) d_Md_slipOf_6 (x := i5) rfl ?_
  refine r_iload_n (pc := 8) d_Md_slipOf_8 (x := i2) rfl ?_
  refine r_icmp_ge (pc := 9) d_Md_slipOf_9 (tgt := 48) (by decide) (fun c1 => ?_) (fun c1 => ?_)
  · replace h := h.1 c1
    refine r_iload_n (pc := 48) d_Md_slipOf_48 (x := i3) rfl ?_
    refine r_if_ge (pc := 49) d_Md_slipOf_49 (tgt := 57) (by decide) (fun c2 => ?_) (fun c2 => ?_)
    · replace h := h.1 c2
      refine r_iconst (pc := 57) d_Md_slipOf_57 (v := (-1)) (by decide) ?_
      exact r_ireturn (pc := 58) d_Md_slipOf_58 rfl rfl (Nat.le_refl _) ⟨rfl, _, rfl, h⟩
    · replace h := h.2 c2
      refine r_iload (pc := 52) d_Md_slipOf_52 (x := i4) rfl ?_
      refine r_goto (pc := 54) d_Md_slipOf_54 (tgt := 58) (by decide) ?_
      exact r_ireturn (pc := 58) d_Md_slipOf_58 rfl rfl (Nat.le_refl _) ⟨rfl, _, rfl, h⟩
  · replace h := h.2 c1
    refine r_aload_n (pc := 12) d_Md_slipOf_12 (x := a) rfl ?_
    refine r_iload_n (pc := 13) d_Md_slipOf_13 (x := i1) rfl ?_
    refine r_iload_n (pc := 14) d_Md_slipOf_14 (x := i2) rfl ?_
    refine r_iload (pc := 15) d_Md_slipOf_15 (x := i5) rfl ?_
    refine r_callV (pc := 17) (k := a) (As := [.int i1, .int i2, .int i5]) (rest := []) (mc' := 0) (ms' := 0) lk_Md_423 in_Md_laysDance se_Md_laysDance sa rfl d_Md_slipOf_17 k_Md_laysDance rfl rfl (Nat.le_of_ble_eq_true rfl) (by decide) (by decide) (Sp.mono h ?_)
    rintro rS3 shS3 S3 ⟨qS3, uS3, h⟩
    subst uS3
    rw [qS3]
    refine r_aload_n (pc := 20) d_Md_slipOf_20 (x := a) rfl ?_
    refine r_callV (pc := 21) (k := a) (As := []) (rest := []) (mc' := 0) (ms' := 0) lk_Md_427 in_Md_apartNow se_Md_apartNow sa rfl d_Md_slipOf_21 k_Md_apartNow rfl rfl (Nat.le_of_ble_eq_true rfl) (by decide) (by decide) (Sp.mono h ?_)
    rintro rS4 shS4 S4 ⟨qS4, x5, uS4, h⟩
    subst uS4
    rw [qS4]
    refine r_if_le (pc := 24) d_Md_slipOf_24 (tgt := 30) (by decide) (fun c6 => ?_) (fun c6 => ?_)
    · replace h := h.1 c6
      refine r_iload (pc := 30) d_Md_slipOf_30 (x := i4) rfl ?_
      refine r_iload_n (pc := 32) d_Md_slipOf_32 (x := i3) rfl ?_
      refine r_icmp_ne (pc := 33) d_Md_slipOf_33 (tgt := 39) (by decide) (fun c7 => ?_) (fun c7 => ?_)
      · replace h := h.1 c7
        refine r_iinc (pc := 39) d_Md_slipOf_39 (hi := by decide) (x := i4) rfl (v := i4 + 1) rfl (ls2 := [.ref a, .int i1, .int i2, .int i3, .int (i4 + 1), .int i5]) rfl ?_
        refine r_iinc (pc := 42) d_Md_slipOf_42 (hi := by decide) (x := i5) rfl (v := i5 + 1) rfl (ls2 := [.ref a, .int i1, .int i2, .int i3, .int (i4 + 1), .int (i5 + 1)]) rfl ?_
        refine r_goto (pc := 45) d_Md_slipOf_45 (tgt := 6) (by decide) ?_
        exact h
      · replace h := h.2 c7
        refine r_iload (pc := 36) d_Md_slipOf_36 (x := i5) rfl ?_
        exact r_ireturn (pc := 38) d_Md_slipOf_38 rfl rfl (Nat.le_refl _) ⟨rfl, _, rfl, h⟩
    · replace h := h.2 c6
      refine r_goto (pc := 27) d_Md_slipOf_27 (tgt := 42) (by decide) ?_
      refine r_iinc (pc := 42) d_Md_slipOf_42 (hi := by decide) (x := i5) rfl (v := i5 + 1) rfl (ls2 := [.ref a, .int i1, .int i2, .int i3, .int i4, .int (i5 + 1)]) rfl ?_
      refine r_goto (pc := 45) d_Md_slipOf_45 (tgt := 6) (by decide) ?_
      exact h
set_option maxRecDepth 4000 in
theorem e_Md_slipAt {l : Launch} {d : Nat} {sh : aw_SH} {S : aw_S} {P : Int32 → aw_S → Prop} {a : Nat} {p0 : Int32} {p1 : Int32} {p2 : Int32} (sa : sh[a]? = some (0, 11)) (h : ((0 ≤ p2 → Sp l m_Md_wrongDance d 0 0 [.ref a, .int p0, .int p1] sh S (gI sh (fun x3 S2 => ((x3 ≤ 0 → Sp l m_Md_slipOf d 0 0 [.ref a, .int p0, .int p1, .int p2] sh S2 (gI sh (fun x6 S5 => Sp l m_Md_orNone d 0 0 [.ref a, .int x6] sh S5 (gI sh (fun x8 S7 => P x8 S7))))) ∧ (¬ x3 ≤ 0 → Sp l m_Md_refuse d 0 0 [.ref a, .int x3] sh S2 (gI sh (fun x10 S9 => P x10 S9))))))) ∧ (¬ 0 ≤ p2 → Sp l m_Md_refuse d 0 0 [.ref a, .int 1] sh S (gI sh (fun x13 S12 => P x13 S12))))) : Sp l m_Md_slipAt (d + 1) 0 0 [.ref a, .int p0, .int p1, .int p2] sh S (gI sh P) := by
  refine Sp.of k_Md_slipAt (ls := [.ref a, .int p0, .int p1, .int p2, .null]) rfl (Nat.le_of_ble_eq_true rfl) ?_
  refine r_iload_n (pc := 0) d_Md_slipAt_0 (x := p2) rfl ?_
  refine r_if_ge (pc := 1) d_Md_slipAt_1 (tgt := 8) (by decide) (fun c1 => ?_) (fun c1 => ?_)
  · replace h := h.1 c1
    refine r_aload_n (pc := 8) d_Md_slipAt_8 (x := a) rfl ?_
    refine r_iload_n (pc := 9) d_Md_slipAt_9 (x := p0) rfl ?_
    refine r_iload_n (pc := 10) d_Md_slipAt_10 (x := p1) rfl ?_
    refine r_callV (pc := 11) (k := a) (As := [.int p0, .int p1]) (rest := []) (mc' := 0) (ms' := 0) lk_Md_420 in_Md_wrongDance se_Md_wrongDance sa rfl d_Md_slipAt_11 k_Md_wrongDance rfl rfl (Nat.le_of_ble_eq_true rfl) (by decide) (by decide) (Sp.mono h ?_)
    rintro rS2 shS2 S2 ⟨qS2, x3, uS2, h⟩
    subst uS2
    rw [qS2]
    refine r_istore (pc := 14) (hd := d_Md_slipAt_14) (hi := by decide) (ls2 := [.ref a, .int p0, .int p1, .int p2, .int x3]) (h2 := rfl) ?_
    refine r_iload (pc := 16) d_Md_slipAt_16 (x := x3) rfl ?_
    refine r_if_le (pc := 18) d_Md_slipAt_18 (tgt := 30) (by decide) (fun c4 => ?_) (fun c4 => ?_)
    · replace h := h.1 c4
      refine r_aload_n (pc := 30) d_Md_slipAt_30 (x := a) rfl ?_
      refine r_aload_n (pc := 31) d_Md_slipAt_31 (x := a) rfl ?_
      refine r_iload_n (pc := 32) d_Md_slipAt_32 (x := p0) rfl ?_
      refine r_iload_n (pc := 33) d_Md_slipAt_33 (x := p1) rfl ?_
      refine r_iload_n (pc := 34) d_Md_slipAt_34 (x := p2) rfl ?_
      refine r_callV (pc := 35) (k := a) (As := [.int p0, .int p1, .int p2]) (rest := [.ref a]) (mc' := 0) (ms' := 0) lk_Md_430 in_Md_slipOf se_Md_slipOf sa rfl d_Md_slipAt_35 k_Md_slipOf rfl rfl (Nat.le_of_ble_eq_true rfl) (by decide) (by decide) (Sp.mono h ?_)
      rintro rS5 shS5 S5 ⟨qS5, x6, uS5, h⟩
      subst uS5
      rw [qS5]
      refine r_callV (pc := 38) (k := a) (As := [.int x6]) (rest := []) (mc' := 0) (ms' := 0) lk_Md_433 in_Md_orNone se_Md_orNone sa rfl d_Md_slipAt_38 k_Md_orNone rfl rfl (Nat.le_of_ble_eq_true rfl) (by decide) (by decide) (Sp.mono h ?_)
      rintro rS7 shS7 S7 ⟨qS7, x8, uS7, h⟩
      subst uS7
      rw [qS7]
      exact r_ireturn (pc := 41) d_Md_slipAt_41 rfl rfl (Nat.le_refl _) ⟨rfl, _, rfl, h⟩
    · replace h := h.2 c4
      refine r_aload_n (pc := 21) d_Md_slipAt_21 (x := a) rfl ?_
      refine r_iload (pc := 22) d_Md_slipAt_22 (x := x3) rfl ?_
      refine r_callV (pc := 24) (k := a) (As := [.int x3]) (rest := []) (mc' := 0) (ms' := 0) lk_Md_118 in_Md_refuse se_Md_refuse sa rfl d_Md_slipAt_24 k_Md_refuse rfl rfl (Nat.le_of_ble_eq_true rfl) (by decide) (by decide) (Sp.mono h ?_)
      rintro rS9 shS9 S9 ⟨qS9, x10, uS9, h⟩
      subst uS9
      rw [qS9]
      refine r_goto (pc := 27) d_Md_slipAt_27 (tgt := 41) (by decide) ?_
      exact r_ireturn (pc := 41) d_Md_slipAt_41 rfl rfl (Nat.le_refl _) ⟨rfl, _, rfl, h⟩
  · replace h := h.2 c1
    refine r_iconst (pc := 4) d_Md_slipAt_4 (v := 1) (by decide) ?_
    refine r_goto (pc := 5) d_Md_slipAt_5 (tgt := 14) (by decide) ?_
    refine r_istore (pc := 14) (hd := d_Md_slipAt_14) (hi := by decide) (ls2 := [.ref a, .int p0, .int p1, .int p2, .int 1]) (h2 := rfl) ?_
    refine r_iload (pc := 16) d_Md_slipAt_16 (x := 1) rfl ?_
    refine r_if_le (pc := 18) d_Md_slipAt_18 (tgt := 30) (by decide) (fun q => absurd q (by decide)) (fun _ => ?_)
    refine r_aload_n (pc := 21) d_Md_slipAt_21 (x := a) rfl ?_
    refine r_iload (pc := 22) d_Md_slipAt_22 (x := 1) rfl ?_
    refine r_callV (pc := 24) (k := a) (As := [.int 1]) (rest := []) (mc' := 0) (ms' := 0) lk_Md_118 in_Md_refuse se_Md_refuse sa rfl d_Md_slipAt_24 k_Md_refuse rfl rfl (Nat.le_of_ble_eq_true rfl) (by decide) (by decide) (Sp.mono h ?_)
    rintro rS12 shS12 S12 ⟨qS12, x13, uS12, h⟩
    subst uS12
    rw [qS12]
    refine r_goto (pc := 27) d_Md_slipAt_27 (tgt := 41) (by decide) ?_
    exact r_ireturn (pc := 41) d_Md_slipAt_41 rfl rfl (Nat.le_refl _) ⟨rfl, _, rfl, h⟩
set_option maxRecDepth 4000 in
theorem e_Md_orNone {l : Launch} {d : Nat} {sh : aw_SH} {S : aw_S} {P : Int32 → aw_S → Prop} {a : Nat} {p0 : Int32} (sa : sh[a]? = some (0, 11)) (h : ((¬ p0 = (-1) → Sp l m_Md_gives d 0 0 [.ref a, .int p0] sh S (gI sh (fun x3 S2 => P x3 S2))) ∧ (p0 = (-1) → Sp l m_Md_refuse d 0 0 [.ref a, .int 6] sh S (gI sh (fun x5 S4 => P x5 S4))))) : Sp l m_Md_orNone (d + 1) 0 0 [.ref a, .int p0] sh S (gI sh P) := by
  refine Sp.of k_Md_orNone (ls := [.ref a, .int p0]) rfl (Nat.le_of_ble_eq_true rfl) ?_
  refine r_iload_n (pc := 0) d_Md_orNone_0 (x := p0) rfl ?_
  refine r_iconst (pc := 1) d_Md_orNone_1 (v := (-1)) (by decide) ?_
  refine r_icmp_ne (pc := 2) d_Md_orNone_2 (tgt := 12) (by decide) (fun c1 => ?_) (fun c1 => ?_)
  · replace h := h.1 c1
    refine r_aload_n (pc := 12) d_Md_orNone_12 (x := a) rfl ?_
    refine r_iload_n (pc := 13) d_Md_orNone_13 (x := p0) rfl ?_
    refine r_callV (pc := 14) (k := a) (As := [.int p0]) (rest := []) (mc' := 0) (ms' := 0) lk_Md_122 in_Md_gives se_Md_gives sa rfl d_Md_orNone_14 k_Md_gives rfl rfl (Nat.le_of_ble_eq_true rfl) (by decide) (by decide) (Sp.mono h ?_)
    rintro rS2 shS2 S2 ⟨qS2, x3, uS2, h⟩
    subst uS2
    rw [qS2]
    exact r_ireturn (pc := 17) d_Md_orNone_17 rfl rfl (Nat.le_refl _) ⟨rfl, _, rfl, h⟩
  · replace h := h.2 c1
    refine r_aload_n (pc := 5) d_Md_orNone_5 (x := a) rfl ?_
    refine r_bipush (pc := 6) d_Md_orNone_6 (v := 6) (by decide) ?_
    refine r_callV (pc := 8) (k := a) (As := [.int 6]) (rest := []) (mc' := 0) (ms' := 0) lk_Md_118 in_Md_refuse se_Md_refuse sa rfl d_Md_orNone_8 k_Md_refuse rfl rfl (Nat.le_of_ble_eq_true rfl) (by decide) (by decide) (Sp.mono h ?_)
    rintro rS4 shS4 S4 ⟨qS4, x5, uS4, h⟩
    subst uS4
    rw [qS4]
    exact r_ireturn (pc := 11) d_Md_orNone_11 rfl rfl (Nat.le_refl _) ⟨rfl, _, rfl, h⟩
set_option maxRecDepth 4000 in
theorem e_Md_fits {l : Launch} {d : Nat} {sh : aw_SH} {S : aw_S} {P : Int32 → aw_S → Prop} {a : Nat} {p0 : Int32} {p1 : Int32} {p2 : Int32} (sa : sh[a]? = some (0, 11)) (h : Sp l m_Md_wrongSeen d 0 0 [.ref a, .int p0, .int p1, .int p2] sh S (gI sh (fun x2 S1 => ((x2 ≤ 0 → Sp l m_Md_laysRowsSeen d 0 0 [.ref a, .int p0, .int p1, .int p2] sh S1 (gV sh (fun S4 => Sp l m_Md_gives d 0 0 [.ref a, .int (S4.1 a 39)] sh S4 (gI sh (fun x6 S5 => P x6 S5))))) ∧ (¬ x2 ≤ 0 → Sp l m_Md_refuse d 0 0 [.ref a, .int x2] sh S1 (gI sh (fun x8 S7 => P x8 S7))))))) : Sp l m_Md_fits (d + 1) 0 0 [.ref a, .int p0, .int p1, .int p2] sh S (gI sh P) := by
  refine Sp.of k_Md_fits (ls := [.ref a, .int p0, .int p1, .int p2, .null]) rfl (Nat.le_of_ble_eq_true rfl) ?_
  refine r_aload_n (pc := 0) d_Md_fits_0 (x := a) rfl ?_
  refine r_iload_n (pc := 1) d_Md_fits_1 (x := p0) rfl ?_
  refine r_iload_n (pc := 2) d_Md_fits_2 (x := p1) rfl ?_
  refine r_iload_n (pc := 3) d_Md_fits_3 (x := p2) rfl ?_
  refine r_callV (pc := 4) (k := a) (As := [.int p0, .int p1, .int p2]) (rest := []) (mc' := 0) (ms' := 0) lk_Md_457 in_Md_wrongSeen se_Md_wrongSeen sa rfl d_Md_fits_4 k_Md_wrongSeen rfl rfl (Nat.le_of_ble_eq_true rfl) (by decide) (by decide) (Sp.mono h ?_)
  rintro rS1 shS1 S1 ⟨qS1, x2, uS1, h⟩
  subst uS1
  rw [qS1]
  refine r_istore (pc := 7) (hd := d_Md_fits_7) (hi := by decide) (ls2 := [.ref a, .int p0, .int p1, .int p2, .int x2]) (h2 := rfl) ?_
  refine r_iload (pc := 9) d_Md_fits_9 (x := x2) rfl ?_
  refine r_if_le (pc := 11) d_Md_fits_11 (tgt := 21) (by decide) (fun c3 => ?_) (fun c3 => ?_)
  · replace h := h.1 c3
    refine r_aload_n (pc := 21) d_Md_fits_21 (x := a) rfl ?_
    refine r_iload_n (pc := 22) d_Md_fits_22 (x := p0) rfl ?_
    refine r_iload_n (pc := 23) d_Md_fits_23 (x := p1) rfl ?_
    refine r_iload_n (pc := 24) d_Md_fits_24 (x := p2) rfl ?_
    refine r_callV (pc := 25) (k := a) (As := [.int p0, .int p1, .int p2]) (rest := []) (mc' := 0) (ms' := 0) lk_Md_460 in_Md_laysRowsSeen se_Md_laysRowsSeen sa rfl d_Md_fits_25 k_Md_laysRowsSeen rfl rfl (Nat.le_of_ble_eq_true rfl) (by decide) (by decide) (Sp.mono h ?_)
    rintro rS4 shS4 S4 ⟨qS4, uS4, h⟩
    subst uS4
    rw [qS4]
    refine r_aload_n (pc := 28) d_Md_fits_28 (x := a) rfl ?_
    refine r_aload_n (pc := 29) d_Md_fits_29 (x := a) rfl ?_
    refine r_getI (pc := 30) d_Md_fits_30 f_Md_442 sa rfl ?_
    refine r_callV (pc := 33) (k := a) (As := [.int (S4.1 a 39)]) (rest := []) (mc' := 0) (ms' := 0) lk_Md_122 in_Md_gives se_Md_gives sa rfl d_Md_fits_33 k_Md_gives rfl rfl (Nat.le_of_ble_eq_true rfl) (by decide) (by decide) (Sp.mono h ?_)
    rintro rS5 shS5 S5 ⟨qS5, x6, uS5, h⟩
    subst uS5
    rw [qS5]
    exact r_ireturn (pc := 36) d_Md_fits_36 rfl rfl (Nat.le_refl _) ⟨rfl, _, rfl, h⟩
  · replace h := h.2 c3
    refine r_aload_n (pc := 14) d_Md_fits_14 (x := a) rfl ?_
    refine r_iload (pc := 15) d_Md_fits_15 (x := x2) rfl ?_
    refine r_callV (pc := 17) (k := a) (As := [.int x2]) (rest := []) (mc' := 0) (ms' := 0) lk_Md_118 in_Md_refuse se_Md_refuse sa rfl d_Md_fits_17 k_Md_refuse rfl rfl (Nat.le_of_ble_eq_true rfl) (by decide) (by decide) (Sp.mono h ?_)
    rintro rS7 shS7 S7 ⟨qS7, x8, uS7, h⟩
    subst uS7
    rw [qS7]
    exact r_ireturn (pc := 20) d_Md_fits_20 rfl rfl (Nat.le_refl _) ⟨rfl, _, rfl, h⟩
set_option maxRecDepth 4000 in
theorem e_Md_wrongSeen {l : Launch} {d : Nat} {sh : aw_SH} {S : aw_S} {P : Int32 → aw_S → Prop} {a : Nat} {p0 : Int32} {p1 : Int32} {p2 : Int32} (sa : sh[a]? = some (0, 11)) (h : Sp l m_Md_isTray d 0 0 [.int p0] sh S (gI sh (fun x2 S1 => ((x2 = 0 → P 1 S1) ∧ (¬ x2 = 0 → Sp l m_Md_isFrom d 0 0 [.long p1.toInt64, .long 0, .long 20] sh S1 (gI sh (fun x5 S4 => ((x5 = 0 → P 1 S4) ∧ (¬ x5 = 0 → Sp l m_Md_isFrom d 0 0 [.long p2.toInt64, .long 0, .long 4] sh S4 (gI sh (fun x8 S7 => ((¬ x8 = 0 → ∃ r10, S7.2.2 a 6 = some r10 ∧ ∃ n12, sh[r10]? = some (3, n12) ∧ vp_in p0 n12 ∧ ((¬ (S7.1 r10 p0.toNatClampNeg) = (-1) → vp_in p0 n12 ∧ ((((2 : Int32) * p1) ≤ (S7.1 r10 p0.toNatClampNeg) → AW l m_Md_wrongSeen (d + 1) 0 0 (gI sh P) 0 0 62 [.ref a, .int p0, .int p1, .null, .int 0, .null] [] sh S7) ∧ (¬ ((2 : Int32) * p1) ≤ (S7.1 r10 p0.toNatClampNeg) → P 3 S7))) ∧ ((S7.1 r10 p0.toNatClampNeg) = (-1) → P 2 S7))) ∧ (x8 = 0 → P 1 S7))))))))))))) : Sp l m_Md_wrongSeen (d + 1) 0 0 [.ref a, .int p0, .int p1, .int p2] sh S (gI sh P) := by
  refine Sp.of k_Md_wrongSeen (ls := [.ref a, .int p0, .int p1, .int p2, .null, .null]) rfl (Nat.le_of_ble_eq_true rfl) ?_
  refine r_iload_n (pc := 0) d_Md_wrongSeen_0 (x := p0) rfl ?_
  refine r_callS (pc := 1) (k := 0) (As := [.int p0]) (rest := []) (mc' := 0) (ms' := 0) lk_Md_129 st_Md_isTray d_Md_wrongSeen_1 k_Md_isTray rfl rfl (Nat.le_of_ble_eq_true rfl) (by decide) (by decide) (Sp.mono h ?_)
  rintro rS1 shS1 S1 ⟨qS1, x2, uS1, h⟩
  subst uS1
  rw [qS1]
  refine r_if_eq (pc := 4) d_Md_wrongSeen_4 (tgt := 31) (by decide) (fun c3 => ?_) (fun c3 => ?_)
  · replace h := h.1 c3
    refine r_iconst (pc := 31) d_Md_wrongSeen_31 (v := 1) (by decide) ?_
    exact r_ireturn (pc := 32) d_Md_wrongSeen_32 rfl rfl (Nat.le_refl _) ⟨rfl, _, rfl, h⟩
  · replace h := h.2 c3
    refine r_iload_n (pc := 7) d_Md_wrongSeen_7 (x := p1) rfl ?_
    refine r_i2l (pc := 8) d_Md_wrongSeen_8 ?_
    refine r_lconst (pc := 9) d_Md_wrongSeen_9 (v := 0) (by decide) ?_
    refine r_ldc2 (pc := 10) d_Md_wrongSeen_10 cl_Md_436 ?_
    refine r_callS (pc := 13) (k := 0) (As := [.long p1.toInt64, .long 0, .long 20]) (rest := []) (mc' := 0) (ms' := 0) lk_Md_372 st_Md_isFrom d_Md_wrongSeen_13 k_Md_isFrom rfl rfl (Nat.le_of_ble_eq_true rfl) (by decide) (by decide) (Sp.mono h ?_)
    rintro rS4 shS4 S4 ⟨qS4, x5, uS4, h⟩
    subst uS4
    rw [qS4]
    refine r_if_eq (pc := 16) d_Md_wrongSeen_16 (tgt := 31) (by decide) (fun c6 => ?_) (fun c6 => ?_)
    · replace h := h.1 c6
      refine r_iconst (pc := 31) d_Md_wrongSeen_31 (v := 1) (by decide) ?_
      exact r_ireturn (pc := 32) d_Md_wrongSeen_32 rfl rfl (Nat.le_refl _) ⟨rfl, _, rfl, h⟩
    · replace h := h.2 c6
      refine r_iload_n (pc := 19) d_Md_wrongSeen_19 (x := p2) rfl ?_
      refine r_i2l (pc := 20) d_Md_wrongSeen_20 ?_
      refine r_lconst (pc := 21) d_Md_wrongSeen_21 (v := 0) (by decide) ?_
      refine r_ldc2 (pc := 22) d_Md_wrongSeen_22 cl_Md_438 ?_
      refine r_callS (pc := 25) (k := 0) (As := [.long p2.toInt64, .long 0, .long 4]) (rest := []) (mc' := 0) (ms' := 0) lk_Md_372 st_Md_isFrom d_Md_wrongSeen_25 k_Md_isFrom rfl rfl (Nat.le_of_ble_eq_true rfl) (by decide) (by decide) (Sp.mono h ?_)
      rintro rS7 shS7 S7 ⟨qS7, x8, uS7, h⟩
      subst uS7
      rw [qS7]
      refine r_if_ne (pc := 28) d_Md_wrongSeen_28 (tgt := 33) (by decide) (fun c9 => ?_) (fun c9 => ?_)
      · replace h := h.1 c9
        refine r_aload_n (pc := 33) d_Md_wrongSeen_33 (x := a) rfl ?_
        obtain ⟨r10, er10, h⟩ := h
        refine r_getR (pc := 34) d_Md_wrongSeen_34 f_Md_24 sa (Or.inr ⟨_, rfl⟩) (r := r10) er10 ?_
        refine r_iload_n (pc := 37) d_Md_wrongSeen_37 (x := p0) rfl ?_
        obtain ⟨n12, s11, h⟩ := h
        obtain ⟨g13, h⟩ := h
        refine r_iald (pc := 38) d_Md_wrongSeen_38 s11 g13 ?_
        refine r_iconst (pc := 39) d_Md_wrongSeen_39 (v := (-1)) (by decide) ?_
        refine r_icmp_ne (pc := 40) d_Md_wrongSeen_40 (tgt := 45) (by decide) (fun c14 => ?_) (fun c14 => ?_)
        · replace h := h.1 c14
          refine r_aload_n (pc := 45) d_Md_wrongSeen_45 (x := a) rfl ?_
          refine r_getR (pc := 46) d_Md_wrongSeen_46 f_Md_24 sa (Or.inr ⟨_, rfl⟩) (r := r10) er10 ?_
          refine r_iload_n (pc := 49) d_Md_wrongSeen_49 (x := p0) rfl ?_
          obtain ⟨g15, h⟩ := h
          refine r_iald (pc := 50) d_Md_wrongSeen_50 s11 g15 ?_
          refine r_iconst (pc := 51) d_Md_wrongSeen_51 (v := 2) (by decide) ?_
          refine r_iload_n (pc := 52) d_Md_wrongSeen_52 (x := p1) rfl ?_
          refine r_imul (pc := 53) d_Md_wrongSeen_53 ?_
          refine r_icmp_ge (pc := 54) d_Md_wrongSeen_54 (tgt := 59) (by decide) (fun c16 => ?_) (fun c16 => ?_)
          · replace h := h.1 c16
            refine r_iconst (pc := 59) d_Md_wrongSeen_59 (v := 0) (by decide) ?_
            refine r_istore (pc := 60) (hd := d_Md_wrongSeen_60) (hi := by decide) (ls2 := [.ref a, .int p0, .int p1, .int p2, .int 0, .null]) (h2 := rfl) ?_
            exact r_weak (ls2 := [.ref a, .int p0, .int p1, .null, .int 0, .null]) ⟨Or.inr rfl, Or.inr rfl, Or.inr rfl, Or.inl rfl, Or.inr rfl, Or.inl rfl, trivial⟩ h
          · replace h := h.2 c16
            refine r_iconst (pc := 57) d_Md_wrongSeen_57 (v := 3) (by decide) ?_
            exact r_ireturn (pc := 58) d_Md_wrongSeen_58 rfl rfl (Nat.le_refl _) ⟨rfl, _, rfl, h⟩
        · replace h := h.2 c14
          refine r_iconst (pc := 43) d_Md_wrongSeen_43 (v := 2) (by decide) ?_
          exact r_ireturn (pc := 44) d_Md_wrongSeen_44 rfl rfl (Nat.le_refl _) ⟨rfl, _, rfl, h⟩
      · replace h := h.2 c9
        refine r_iconst (pc := 31) d_Md_wrongSeen_31 (v := 1) (by decide) ?_
        exact r_ireturn (pc := 32) d_Md_wrongSeen_32 rfl rfl (Nat.le_refl _) ⟨rfl, _, rfl, h⟩
set_option maxRecDepth 4000 in
theorem s_Md_wrongSeen_62 {l : Launch} {d : Nat} {sh : aw_SH} {S : aw_S} {P : Int32 → aw_S → Prop} {a : Nat} {i1 : Int32} {i2 : Int32} {i4 : Int32} (sa : sh[a]? = some (0, 11)) (h : ((i2 ≤ i4 → P 0 S) ∧ (¬ i2 ≤ i4 → ∃ r2, S.2.2 a 7 = some r2 ∧ ∃ n4, sh[r2]? = some (4, n4) ∧ vp_in (((60 : Int32) * i1) + ((2 : Int32) * i4)) n4 ∧ Sp l m_Md_gapsOf d 0 0 [.ref a, .int 0] sh S (gI sh (fun x7 S6 => Sp l m_Md_isFrom d 0 0 [.long (S.2.1 r2 (((60 : Int32) * i1) + ((2 : Int32) * i4) : Int32).toNatClampNeg), .long 0, .long (x7.toInt64 - (1 : Int64))] sh S6 (gI sh (fun x9 S8 => ((x9 = 0 → P 5 S8) ∧ (¬ x9 = 0 → ∃ r11, S8.2.2 a 7 = some r11 ∧ ∃ n13, sh[r11]? = some (4, n13) ∧ vp_in ((((60 : Int32) * i1) + ((2 : Int32) * i4)) + (1 : Int32)) n13 ∧ Sp l m_Md_isFrom d 0 0 [.long (S8.2.1 r11 ((((60 : Int32) * i1) + ((2 : Int32) * i4)) + (1 : Int32) : Int32).toNatClampNeg), .long 0, .long 6] sh S8 (gI sh (fun x16 S15 => ((¬ x16 = 0 → AW l m_Md_wrongSeen (d + 1) 0 0 (gI sh P) 0 0 62 [.ref a, .int i1, .int i2, .null, .int (i4 + 1), .null] [] sh S15) ∧ (x16 = 0 → P 5 S15))))))))))))) : AW l m_Md_wrongSeen (d + 1) 0 0 (gI sh P) 0 0 62 [.ref a, .int i1, .int i2, .null, .int i4, .null] [] sh S := by
  refine r_iload (pc := 62) d_Md_wrongSeen_62 (x := i4) rfl ?_
  refine r_iload_n (pc := 64) d_Md_wrongSeen_64 (x := i2) rfl ?_
  refine r_icmp_ge (pc := 65) d_Md_wrongSeen_65 (tgt := 128) (by decide) (fun c1 => ?_) (fun c1 => ?_)
  · replace h := h.1 c1
    refine r_iconst (pc := 128) d_Md_wrongSeen_128 (v := 0) (by decide) ?_
    exact r_ireturn (pc := 129) d_Md_wrongSeen_129 rfl rfl (Nat.le_refl _) ⟨rfl, _, rfl, h⟩
  · replace h := h.2 c1
    refine r_bipush (pc := 68) d_Md_wrongSeen_68 (v := 60) (by decide) ?_
    refine r_iload_n (pc := 70) d_Md_wrongSeen_70 (x := i1) rfl ?_
    refine r_imul (pc := 71) d_Md_wrongSeen_71 ?_
    refine r_iconst (pc := 72) d_Md_wrongSeen_72 (v := 2) (by decide) ?_
    refine r_iload (pc := 73) d_Md_wrongSeen_73 (x := i4) rfl ?_
    refine r_imul (pc := 75) d_Md_wrongSeen_75 ?_
    refine r_iadd (pc := 76) d_Md_wrongSeen_76 ?_
    refine r_istore (pc := 77) (hd := d_Md_wrongSeen_77) (hi := by decide) (ls2 := [.ref a, .int i1, .int i2, .null, .int i4, .int (((60 : Int32) * i1) + ((2 : Int32) * i4))]) (h2 := rfl) ?_
    refine r_aload_n (pc := 79) d_Md_wrongSeen_79 (x := a) rfl ?_
    obtain ⟨r2, er2, h⟩ := h
    refine r_getR (pc := 80) d_Md_wrongSeen_80 f_Md_27 sa (Or.inr ⟨_, rfl⟩) (r := r2) er2 ?_
    refine r_iload (pc := 83) d_Md_wrongSeen_83 (x := (((60 : Int32) * i1) + ((2 : Int32) * i4))) rfl ?_
    obtain ⟨n4, s3, h⟩ := h
    obtain ⟨g5, h⟩ := h
    refine r_lald (pc := 85) d_Md_wrongSeen_85 s3 g5 ?_
    refine r_lconst (pc := 86) d_Md_wrongSeen_86 (v := 0) (by decide) ?_
    refine r_aload_n (pc := 87) d_Md_wrongSeen_87 (x := a) rfl ?_
    refine r_iconst (pc := 88) d_Md_wrongSeen_88 (v := 0) (by decide) ?_
    refine r_callV (pc := 89) (k := a) (As := [.int 0]) (rest := [.long 0, .long (S.2.1 r2 (((60 : Int32) * i1) + ((2 : Int32) * i4) : Int32).toNatClampNeg)]) (mc' := 0) (ms' := 0) lk_Md_260 in_Md_gapsOf se_Md_gapsOf sa rfl d_Md_wrongSeen_89 k_Md_gapsOf rfl rfl (Nat.le_of_ble_eq_true rfl) (by decide) (by decide) (Sp.mono h ?_)
    rintro rS6 shS6 S6 ⟨qS6, x7, uS6, h⟩
    subst uS6
    rw [qS6]
    refine r_i2l (pc := 92) d_Md_wrongSeen_92 ?_
    refine r_lconst (pc := 93) d_Md_wrongSeen_93 (v := 1) (by decide) ?_
    refine r_lsub (pc := 94) d_Md_wrongSeen_94 ?_
    refine r_callS (pc := 95) (k := 0) (As := [.long (S.2.1 r2 (((60 : Int32) * i1) + ((2 : Int32) * i4) : Int32).toNatClampNeg), .long 0, .long (x7.toInt64 - (1 : Int64))]) (rest := []) (mc' := 0) (ms' := 0) lk_Md_372 st_Md_isFrom d_Md_wrongSeen_95 k_Md_isFrom rfl rfl (Nat.le_of_ble_eq_true rfl) (by decide) (by decide) (Sp.mono h ?_)
    rintro rS8 shS8 S8 ⟨qS8, x9, uS8, h⟩
    subst uS8
    rw [qS8]
    refine r_if_eq (pc := 98) d_Md_wrongSeen_98 (tgt := 120) (by decide) (fun c10 => ?_) (fun c10 => ?_)
    · replace h := h.1 c10
      refine r_iconst (pc := 120) d_Md_wrongSeen_120 (v := 5) (by decide) ?_
      exact r_ireturn (pc := 121) d_Md_wrongSeen_121 rfl rfl (Nat.le_refl _) ⟨rfl, _, rfl, h⟩
    · replace h := h.2 c10
      refine r_aload_n (pc := 101) d_Md_wrongSeen_101 (x := a) rfl ?_
      obtain ⟨r11, er11, h⟩ := h
      refine r_getR (pc := 102) d_Md_wrongSeen_102 f_Md_27 sa (Or.inr ⟨_, rfl⟩) (r := r11) er11 ?_
      refine r_iload (pc := 105) d_Md_wrongSeen_105 (x := (((60 : Int32) * i1) + ((2 : Int32) * i4))) rfl ?_
      refine r_iconst (pc := 107) d_Md_wrongSeen_107 (v := 1) (by decide) ?_
      refine r_iadd (pc := 108) d_Md_wrongSeen_108 ?_
      obtain ⟨n13, s12, h⟩ := h
      obtain ⟨g14, h⟩ := h
      refine r_lald (pc := 109) d_Md_wrongSeen_109 s12 g14 ?_
      refine r_lconst (pc := 110) d_Md_wrongSeen_110 (v := 0) (by decide) ?_
      refine r_ldc2 (pc := 111) d_Md_wrongSeen_111 cl_Md_440 ?_
      refine r_callS (pc := 114) (k := 0) (As := [.long (S8.2.1 r11 ((((60 : Int32) * i1) + ((2 : Int32) * i4)) + (1 : Int32) : Int32).toNatClampNeg), .long 0, .long 6]) (rest := []) (mc' := 0) (ms' := 0) lk_Md_372 st_Md_isFrom d_Md_wrongSeen_114 k_Md_isFrom rfl rfl (Nat.le_of_ble_eq_true rfl) (by decide) (by decide) (Sp.mono h ?_)
      rintro rS15 shS15 S15 ⟨qS15, x16, uS15, h⟩
      subst uS15
      rw [qS15]
      refine r_if_ne (pc := 117) d_Md_wrongSeen_117 (tgt := 122) (by decide) (fun c17 => ?_) (fun c17 => ?_)
      · replace h := h.1 c17
        refine r_iinc (pc := 122) d_Md_wrongSeen_122 (hi := by decide) (x := i4) rfl (v := i4 + 1) rfl (ls2 := [.ref a, .int i1, .int i2, .null, .int (i4 + 1), .int (((60 : Int32) * i1) + ((2 : Int32) * i4))]) rfl ?_
        refine r_goto (pc := 125) d_Md_wrongSeen_125 (tgt := 62) (by decide) ?_
        exact r_weak (ls2 := [.ref a, .int i1, .int i2, .null, .int (i4 + 1), .null]) ⟨Or.inr rfl, Or.inr rfl, Or.inr rfl, Or.inl rfl, Or.inr rfl, Or.inl rfl, trivial⟩ h
      · replace h := h.2 c17
        refine r_iconst (pc := 120) d_Md_wrongSeen_120 (v := 5) (by decide) ?_
        exact r_ireturn (pc := 121) d_Md_wrongSeen_121 rfl rfl (Nat.le_refl _) ⟨rfl, _, rfl, h⟩
set_option maxRecDepth 4000 in
theorem e_Md_laysRowsSeen {l : Launch} {d : Nat} {sh : aw_SH} {S : aw_S} {P : aw_S → Prop} {a : Nat} {p0 : Int32} {p1 : Int32} {p2 : Int32} (sa : sh[a]? = some (0, 11)) (h : AW l m_Md_laysRowsSeen (d + 1) 0 0 (gV sh P) 0 0 8 [.ref a, .int p0, .int p1, .int p2, .int 0, .null] [] sh (aw_uI S a 39 0)) : Sp l m_Md_laysRowsSeen (d + 1) 0 0 [.ref a, .int p0, .int p1, .int p2] sh S (gV sh P) := by
  refine Sp.of k_Md_laysRowsSeen (ls := [.ref a, .int p0, .int p1, .int p2, .null, .null]) rfl (Nat.le_of_ble_eq_true rfl) ?_
  refine r_aload_n (pc := 0) d_Md_laysRowsSeen_0 (x := a) rfl ?_
  refine r_iconst (pc := 1) d_Md_laysRowsSeen_1 (v := 0) (by decide) ?_
  refine r_putI (pc := 2) d_Md_laysRowsSeen_2 f_Md_442 sa rfl ?_
  refine r_iconst (pc := 5) d_Md_laysRowsSeen_5 (v := 0) (by decide) ?_
  refine r_istore (pc := 6) (hd := d_Md_laysRowsSeen_6) (hi := by decide) (ls2 := [.ref a, .int p0, .int p1, .int p2, .int 0, .null]) (h2 := rfl) ?_
  exact h
set_option maxRecDepth 4000 in
theorem s_Md_laysRowsSeen_8 {l : Launch} {d : Nat} {sh : aw_SH} {S : aw_S} {P : aw_S → Prop} {a : Nat} {i1 : Int32} {i2 : Int32} {i3 : Int32} {i4 : Int32} (sa : sh[a]? = some (0, 11)) (h : ((49 ≤ i4 → ((¬ i3 = 0 → ∃ r3, S.2.2 a 36 = some r3 ∧ ∃ n5, sh[r3]? = some (3, n5) ∧ vp_in 0 n5 ∧ Sp l m_Md_levelAt d 0 0 [.int 0] sh (aw_uI S r3 ((0 : Int32).toNatClampNeg) (-1)) (gI sh (fun x8 S7 => Sp l m_Md_keeps d 0 0 [.ref a, .int x8] sh S7 (gV sh (fun S9 => AW l m_Md_laysRowsSeen (d + 1) 0 0 (gV sh P) 0 0 59 [.ref a, .int i1, .int i2, .int i3, .int 0, .null] [] sh S9))))) ∧ (i3 = 0 → Sp l m_Md_counts d 0 0 [.ref a, .int i1, .int i2, .int 0] sh S (gV sh (fun S10 => P S10))))) ∧ (¬ 49 ≤ i4 → ∃ r11, S.2.2 a 38 = some r11 ∧ ∃ n13, sh[r11]? = some (3, n13) ∧ vp_in i4 n13 ∧ AW l m_Md_laysRowsSeen (d + 1) 0 0 (gV sh P) 0 0 8 [.ref a, .int i1, .int i2, .int i3, .int (i4 + 1), .null] [] sh (aw_uI S r11 i4.toNatClampNeg 0)))) : AW l m_Md_laysRowsSeen (d + 1) 0 0 (gV sh P) 0 0 8 [.ref a, .int i1, .int i2, .int i3, .int i4, .null] [] sh S := by
  refine r_iload (pc := 8) d_Md_laysRowsSeen_8 (x := i4) rfl ?_
  refine r_bipush (pc := 10) d_Md_laysRowsSeen_10 (v := 49) (by decide) ?_
  refine r_icmp_ge (pc := 12) d_Md_laysRowsSeen_12 (tgt := 29) (by decide) (fun c1 => ?_) (fun c1 => ?_)
  · replace h := h.1 c1
    refine r_iload_n (pc := 29) d_Md_laysRowsSeen_29 (x := i3) rfl ?_
    refine r_if_ne (pc := 30) d_Md_laysRowsSeen_30 (tgt := 41) (by decide) (fun c2 => ?_) (fun c2 => ?_)
    · replace h := h.1 c2
      refine r_iconst (pc := 41) d_Md_laysRowsSeen_41 (v := 0) (by decide) ?_
      refine r_istore (pc := 42) (hd := d_Md_laysRowsSeen_42) (hi := by decide) (ls2 := [.ref a, .int i1, .int i2, .int i3, .int 0, .null]) (h2 := rfl) ?_
      refine r_aload_n (pc := 44) d_Md_laysRowsSeen_44 (x := a) rfl ?_
      obtain ⟨r3, er3, h⟩ := h
      refine r_getR (pc := 45) d_Md_laysRowsSeen_45 f_Md_75 sa (Or.inr ⟨_, rfl⟩) (r := r3) er3 ?_
      refine r_iconst (pc := 48) d_Md_laysRowsSeen_48 (v := 0) (by decide) ?_
      refine r_iconst (pc := 49) d_Md_laysRowsSeen_49 (v := (-1)) (by decide) ?_
      obtain ⟨n5, s4, h⟩ := h
      obtain ⟨g6, h⟩ := h
      refine r_iast (pc := 50) d_Md_laysRowsSeen_50 s4 g6 ?_
      refine r_aload_n (pc := 51) d_Md_laysRowsSeen_51 (x := a) rfl ?_
      refine r_iconst (pc := 52) d_Md_laysRowsSeen_52 (v := 0) (by decide) ?_
      refine r_callS (pc := 53) (k := 0) (As := [.int 0]) (rest := [.ref a]) (mc' := 0) (ms' := 0) lk_Md_448 st_Md_levelAt d_Md_laysRowsSeen_53 k_Md_levelAt rfl rfl (Nat.le_of_ble_eq_true rfl) (by decide) (by decide) (Sp.mono h ?_)
      rintro rS7 shS7 S7 ⟨qS7, x8, uS7, h⟩
      subst uS7
      rw [qS7]
      refine r_callV (pc := 56) (k := a) (As := [.int x8]) (rest := []) (mc' := 0) (ms' := 0) lk_Md_451 in_Md_keeps se_Md_keeps sa rfl d_Md_laysRowsSeen_56 k_Md_keeps rfl rfl (Nat.le_of_ble_eq_true rfl) (by decide) (by decide) (Sp.mono h ?_)
      rintro rS9 shS9 S9 ⟨qS9, uS9, h⟩
      subst uS9
      rw [qS9]
      exact h
    · replace h := h.2 c2
      refine r_aload_n (pc := 33) d_Md_laysRowsSeen_33 (x := a) rfl ?_
      refine r_iload_n (pc := 34) d_Md_laysRowsSeen_34 (x := i1) rfl ?_
      refine r_iload_n (pc := 35) d_Md_laysRowsSeen_35 (x := i2) rfl ?_
      refine r_iconst (pc := 36) d_Md_laysRowsSeen_36 (v := 0) (by decide) ?_
      refine r_callV (pc := 37) (k := a) (As := [.int i1, .int i2, .int 0]) (rest := []) (mc' := 0) (ms' := 0) lk_Md_445 in_Md_counts se_Md_counts sa rfl d_Md_laysRowsSeen_37 k_Md_counts rfl rfl (Nat.le_of_ble_eq_true rfl) (by decide) (by decide) (Sp.mono h ?_)
      rintro rS10 shS10 S10 ⟨qS10, uS10, h⟩
      subst uS10
      rw [qS10]
      exact r_return (pc := 40) d_Md_laysRowsSeen_40 rfl rfl (Nat.le_refl _) ⟨rfl, rfl, h⟩
  · replace h := h.2 c1
    refine r_aload_n (pc := 15) d_Md_laysRowsSeen_15 (x := a) rfl ?_
    obtain ⟨r11, er11, h⟩ := h
    refine r_getR (pc := 16) d_Md_laysRowsSeen_16 f_Md_81 sa (Or.inr ⟨_, rfl⟩) (r := r11) er11 ?_
    refine r_iload (pc := 19) d_Md_laysRowsSeen_19 (x := i4) rfl ?_
    refine r_iconst (pc := 21) d_Md_laysRowsSeen_21 (v := 0) (by decide) ?_
    obtain ⟨n13, s12, h⟩ := h
    obtain ⟨g14, h⟩ := h
    refine r_iast (pc := 22) d_Md_laysRowsSeen_22 s12 g14 ?_
    refine r_iinc (pc := 23) d_Md_laysRowsSeen_23 (hi := by decide) (x := i4) rfl (v := i4 + 1) rfl (ls2 := [.ref a, .int i1, .int i2, .int i3, .int (i4 + 1), .null]) rfl ?_
    refine r_goto (pc := 26) d_Md_laysRowsSeen_26 (tgt := 8) (by decide) ?_
    exact h
set_option maxRecDepth 4000 in
theorem s_Md_laysRowsSeen_59 {l : Launch} {d : Nat} {sh : aw_SH} {S : aw_S} {P : aw_S → Prop} {a : Nat} {i1 : Int32} {i2 : Int32} {i3 : Int32} {i4 : Int32} (sa : sh[a]? = some (0, 11)) (h : ((i4 < 0 → Sp l m_Md_levelAt d 0 0 [.int 0] sh S (gI sh (fun x3 S2 => Sp l m_Md_restores d 0 0 [.ref a, .int x3] sh S2 (gV sh (fun S4 => P S4))))) ∧ (¬ i4 < 0 → Sp l m_Md_levelAt d 0 0 [.int i4] sh S (gI sh (fun x6 S5 => Sp l m_Md_restores d 0 0 [.ref a, .int x6] sh S5 (gV sh (fun S7 => ∃ r8, S7.2.2 a 36 = some r8 ∧ ∃ n10, sh[r8]? = some (3, n10) ∧ vp_in i4 n10 ∧ vp_in i4 n10 ∧ vp_in i4 n10 ∧ ∀ v14 : Int32, v14 = (aw_uI S7 r8 i4.toNatClampNeg ((S7.1 r8 i4.toNatClampNeg) + (1 : Int32))).1 r8 i4.toNatClampNeg → Sp l m_Md_gapsOf d 0 0 [.ref a, .int 0] sh (aw_uI S7 r8 i4.toNatClampNeg ((S7.1 r8 i4.toNatClampNeg) + (1 : Int32))) (gI sh (fun x16 S15 => ((¬ v14 = ((2 : Int32) * x16) → Sp l m_Md_dances d 0 0 [.ref a, .int 0, .int (v14 / (2 : Int32)), .int (v14 - v14 / (2 : Int32) * (2 : Int32))] sh S15 (gI sh (fun x19 S18 => ((¬ x19 = 0 → ((¬ (i4 + (1 : Int32)) = i3 → ∃ r22, S18.2.2 a 36 = some r22 ∧ ∃ n24, sh[r22]? = some (3, n24) ∧ vp_in (i4 + 1) n24 ∧ Sp l m_Md_levelAt d 0 0 [.int (i4 + 1)] sh (aw_uI S18 r22 ((i4 + 1 : Int32).toNatClampNeg) (-1)) (gI sh (fun x27 S26 => Sp l m_Md_keeps d 0 0 [.ref a, .int x27] sh S26 (gV sh (fun S28 => AW l m_Md_laysRowsSeen (d + 1) 0 0 (gV sh P) 0 0 59 [.ref a, .int i1, .int i2, .int i3, .int (i4 + 1), .null] [] sh S28))))) ∧ ((i4 + (1 : Int32)) = i3 → Sp l m_Md_counts d 0 0 [.ref a, .int i1, .int i2, .int i3] sh S18 (gV sh (fun S29 => AW l m_Md_laysRowsSeen (d + 1) 0 0 (gV sh P) 0 0 59 [.ref a, .int i1, .int i2, .int i3, .int i4, .null] [] sh S29))))) ∧ (x19 = 0 → AW l m_Md_laysRowsSeen (d + 1) 0 0 (gV sh P) 0 0 59 [.ref a, .int i1, .int i2, .int i3, .int i4, .null] [] sh S18))))) ∧ (v14 = ((2 : Int32) * x16) → AW l m_Md_laysRowsSeen (d + 1) 0 0 (gV sh P) 0 0 59 [.ref a, .int i1, .int i2, .int i3, .int (i4 + (-1)), .null] [] sh S15))))))))))) : AW l m_Md_laysRowsSeen (d + 1) 0 0 (gV sh P) 0 0 59 [.ref a, .int i1, .int i2, .int i3, .int i4, .null] [] sh S := by
  refine r_iload (pc := 59) d_Md_laysRowsSeen_59 (x := i4) rfl ?_
  refine r_if_lt (pc := 61) d_Md_laysRowsSeen_61 (tgt := 171) (by decide) (fun c1 => ?_) (fun c1 => ?_)
  · replace h := h.1 c1
    refine r_aload_n (pc := 171) d_Md_laysRowsSeen_171 (x := a) rfl ?_
    refine r_iconst (pc := 172) d_Md_laysRowsSeen_172 (v := 0) (by decide) ?_
    refine r_callS (pc := 173) (k := 0) (As := [.int 0]) (rest := [.ref a]) (mc' := 0) (ms' := 0) lk_Md_448 st_Md_levelAt d_Md_laysRowsSeen_173 k_Md_levelAt rfl rfl (Nat.le_of_ble_eq_true rfl) (by decide) (by decide) (Sp.mono h ?_)
    rintro rS2 shS2 S2 ⟨qS2, x3, uS2, h⟩
    subst uS2
    rw [qS2]
    refine r_callV (pc := 176) (k := a) (As := [.int x3]) (rest := []) (mc' := 0) (ms' := 0) lk_Md_454 in_Md_restores se_Md_restores sa rfl d_Md_laysRowsSeen_176 k_Md_restores rfl rfl (Nat.le_of_ble_eq_true rfl) (by decide) (by decide) (Sp.mono h ?_)
    rintro rS4 shS4 S4 ⟨qS4, uS4, h⟩
    subst uS4
    rw [qS4]
    exact r_return (pc := 179) d_Md_laysRowsSeen_179 rfl rfl (Nat.le_refl _) ⟨rfl, rfl, h⟩
  · replace h := h.2 c1
    refine r_aload_n (pc := 64) d_Md_laysRowsSeen_64 (x := a) rfl ?_
    refine r_iload (pc := 65) d_Md_laysRowsSeen_65 (x := i4) rfl ?_
    refine r_callS (pc := 67) (k := 0) (As := [.int i4]) (rest := [.ref a]) (mc' := 0) (ms' := 0) lk_Md_448 st_Md_levelAt d_Md_laysRowsSeen_67 k_Md_levelAt rfl rfl (Nat.le_of_ble_eq_true rfl) (by decide) (by decide) (Sp.mono h ?_)
    rintro rS5 shS5 S5 ⟨qS5, x6, uS5, h⟩
    subst uS5
    rw [qS5]
    refine r_callV (pc := 70) (k := a) (As := [.int x6]) (rest := []) (mc' := 0) (ms' := 0) lk_Md_454 in_Md_restores se_Md_restores sa rfl d_Md_laysRowsSeen_70 k_Md_restores rfl rfl (Nat.le_of_ble_eq_true rfl) (by decide) (by decide) (Sp.mono h ?_)
    rintro rS7 shS7 S7 ⟨qS7, uS7, h⟩
    subst uS7
    rw [qS7]
    refine r_aload_n (pc := 73) d_Md_laysRowsSeen_73 (x := a) rfl ?_
    obtain ⟨r8, er8, h⟩ := h
    refine r_getR (pc := 74) d_Md_laysRowsSeen_74 f_Md_75 sa (Or.inr ⟨_, rfl⟩) (r := r8) er8 ?_
    refine r_iload (pc := 77) d_Md_laysRowsSeen_77 (x := i4) rfl ?_
    refine r_dup2 (pc := 79) d_Md_laysRowsSeen_79 rfl rfl ?_
    obtain ⟨n10, s9, h⟩ := h
    obtain ⟨g11, h⟩ := h
    refine r_iald (pc := 80) d_Md_laysRowsSeen_80 s9 g11 ?_
    refine r_iconst (pc := 81) d_Md_laysRowsSeen_81 (v := 1) (by decide) ?_
    refine r_iadd (pc := 82) d_Md_laysRowsSeen_82 ?_
    obtain ⟨g12, h⟩ := h
    refine r_iast (pc := 83) d_Md_laysRowsSeen_83 s9 g12 ?_
    refine r_aload_n (pc := 84) d_Md_laysRowsSeen_84 (x := a) rfl ?_
    refine r_getR (pc := 85) d_Md_laysRowsSeen_85 f_Md_75 sa (Or.inr ⟨_, rfl⟩) (r := r8) er8 ?_
    refine r_iload (pc := 88) d_Md_laysRowsSeen_88 (x := i4) rfl ?_
    obtain ⟨g13, h⟩ := h
    refine r_iald (pc := 90) d_Md_laysRowsSeen_90 s9 g13 ?_
    refine r_ni (fun v14 ev14 => ?_)
    replace h := h v14 ev14
    refine r_istore (pc := 91) (hd := d_Md_laysRowsSeen_91) (hi := by decide) (ls2 := [.ref a, .int i1, .int i2, .int i3, .int i4, .int v14]) (h2 := rfl) ?_
    refine r_iload (pc := 93) d_Md_laysRowsSeen_93 (x := v14) rfl ?_
    refine r_iconst (pc := 95) d_Md_laysRowsSeen_95 (v := 2) (by decide) ?_
    refine r_aload_n (pc := 96) d_Md_laysRowsSeen_96 (x := a) rfl ?_
    refine r_iconst (pc := 97) d_Md_laysRowsSeen_97 (v := 0) (by decide) ?_
    refine r_callV (pc := 98) (k := a) (As := [.int 0]) (rest := [.int 2, .int v14]) (mc' := 0) (ms' := 0) lk_Md_260 in_Md_gapsOf se_Md_gapsOf sa rfl d_Md_laysRowsSeen_98 k_Md_gapsOf rfl rfl (Nat.le_of_ble_eq_true rfl) (by decide) (by decide) (Sp.mono h ?_)
    rintro rS15 shS15 S15 ⟨qS15, x16, uS15, h⟩
    subst uS15
    rw [qS15]
    refine r_imul (pc := 101) d_Md_laysRowsSeen_101 ?_
    refine r_icmp_ne (pc := 102) d_Md_laysRowsSeen_102 (tgt := 111) (by decide) (fun c17 => ?_) (fun c17 => ?_)
    · replace h := h.1 c17
      refine r_aload_n (pc := 111) d_Md_laysRowsSeen_111 (x := a) rfl ?_
      refine r_iconst (pc := 112) d_Md_laysRowsSeen_112 (v := 0) (by decide) ?_
      refine r_iload (pc := 113) d_Md_laysRowsSeen_113 (x := v14) rfl ?_
      refine r_iconst (pc := 115) d_Md_laysRowsSeen_115 (v := 2) (by decide) ?_
      refine r_idiv (pc := 116) d_Md_laysRowsSeen_116 (by decide) ?_
      refine r_iload (pc := 117) d_Md_laysRowsSeen_117 (x := v14) rfl ?_
      refine r_iconst (pc := 119) d_Md_laysRowsSeen_119 (v := 2) (by decide) ?_
      refine r_irem (pc := 120) d_Md_laysRowsSeen_120 (by decide) ?_
      refine r_callV (pc := 121) (k := a) (As := [.int 0, .int (v14 / (2 : Int32)), .int (v14 - v14 / (2 : Int32) * (2 : Int32))]) (rest := []) (mc' := 0) (ms' := 0) lk_Md_269 in_Md_dances se_Md_dances sa rfl d_Md_laysRowsSeen_121 k_Md_dances rfl rfl (Nat.le_of_ble_eq_true rfl) (by decide) (by decide) (Sp.mono h ?_)
      rintro rS18 shS18 S18 ⟨qS18, x19, uS18, h⟩
      subst uS18
      rw [qS18]
      refine r_if_ne (pc := 124) d_Md_laysRowsSeen_124 (tgt := 130) (by decide) (fun c20 => ?_) (fun c20 => ?_)
      · replace h := h.1 c20
        refine r_iload (pc := 130) d_Md_laysRowsSeen_130 (x := i4) rfl ?_
        refine r_iconst (pc := 132) d_Md_laysRowsSeen_132 (v := 1) (by decide) ?_
        refine r_iadd (pc := 133) d_Md_laysRowsSeen_133 ?_
        refine r_iload_n (pc := 134) d_Md_laysRowsSeen_134 (x := i3) rfl ?_
        refine r_icmp_ne (pc := 135) d_Md_laysRowsSeen_135 (tgt := 148) (by decide) (fun c21 => ?_) (fun c21 => ?_)
        · replace h := h.1 c21
          refine r_iinc (pc := 148) d_Md_laysRowsSeen_148 (hi := by decide) (x := i4) rfl (v := i4 + 1) rfl (ls2 := [.ref a, .int i1, .int i2, .int i3, .int (i4 + 1), .int v14]) rfl ?_
          refine r_aload_n (pc := 151) d_Md_laysRowsSeen_151 (x := a) rfl ?_
          obtain ⟨r22, er22, h⟩ := h
          refine r_getR (pc := 152) d_Md_laysRowsSeen_152 f_Md_75 sa (Or.inr ⟨_, rfl⟩) (r := r22) er22 ?_
          refine r_iload (pc := 155) d_Md_laysRowsSeen_155 (x := (i4 + 1)) rfl ?_
          refine r_iconst (pc := 157) d_Md_laysRowsSeen_157 (v := (-1)) (by decide) ?_
          obtain ⟨n24, s23, h⟩ := h
          obtain ⟨g25, h⟩ := h
          refine r_iast (pc := 158) d_Md_laysRowsSeen_158 s23 g25 ?_
          refine r_aload_n (pc := 159) d_Md_laysRowsSeen_159 (x := a) rfl ?_
          refine r_iload (pc := 160) d_Md_laysRowsSeen_160 (x := (i4 + 1)) rfl ?_
          refine r_callS (pc := 162) (k := 0) (As := [.int (i4 + 1)]) (rest := [.ref a]) (mc' := 0) (ms' := 0) lk_Md_448 st_Md_levelAt d_Md_laysRowsSeen_162 k_Md_levelAt rfl rfl (Nat.le_of_ble_eq_true rfl) (by decide) (by decide) (Sp.mono h ?_)
          rintro rS26 shS26 S26 ⟨qS26, x27, uS26, h⟩
          subst uS26
          rw [qS26]
          refine r_callV (pc := 165) (k := a) (As := [.int x27]) (rest := []) (mc' := 0) (ms' := 0) lk_Md_451 in_Md_keeps se_Md_keeps sa rfl d_Md_laysRowsSeen_165 k_Md_keeps rfl rfl (Nat.le_of_ble_eq_true rfl) (by decide) (by decide) (Sp.mono h ?_)
          rintro rS28 shS28 S28 ⟨qS28, uS28, h⟩
          subst uS28
          rw [qS28]
          refine r_goto (pc := 168) d_Md_laysRowsSeen_168 (tgt := 59) (by decide) ?_
          exact r_weak (ls2 := [.ref a, .int i1, .int i2, .int i3, .int (i4 + 1), .null]) ⟨Or.inr rfl, Or.inr rfl, Or.inr rfl, Or.inr rfl, Or.inr rfl, Or.inl rfl, trivial⟩ h
        · replace h := h.2 c21
          refine r_aload_n (pc := 138) d_Md_laysRowsSeen_138 (x := a) rfl ?_
          refine r_iload_n (pc := 139) d_Md_laysRowsSeen_139 (x := i1) rfl ?_
          refine r_iload_n (pc := 140) d_Md_laysRowsSeen_140 (x := i2) rfl ?_
          refine r_iload_n (pc := 141) d_Md_laysRowsSeen_141 (x := i3) rfl ?_
          refine r_callV (pc := 142) (k := a) (As := [.int i1, .int i2, .int i3]) (rest := []) (mc' := 0) (ms' := 0) lk_Md_445 in_Md_counts se_Md_counts sa rfl d_Md_laysRowsSeen_142 k_Md_counts rfl rfl (Nat.le_of_ble_eq_true rfl) (by decide) (by decide) (Sp.mono h ?_)
          rintro rS29 shS29 S29 ⟨qS29, uS29, h⟩
          subst uS29
          rw [qS29]
          refine r_goto (pc := 145) d_Md_laysRowsSeen_145 (tgt := 168) (by decide) ?_
          refine r_goto (pc := 168) d_Md_laysRowsSeen_168 (tgt := 59) (by decide) ?_
          exact r_weak (ls2 := [.ref a, .int i1, .int i2, .int i3, .int i4, .null]) ⟨Or.inr rfl, Or.inr rfl, Or.inr rfl, Or.inr rfl, Or.inr rfl, Or.inl rfl, trivial⟩ h
      · replace h := h.2 c20
        refine r_goto (pc := 127) d_Md_laysRowsSeen_127 (tgt := 59) (by decide) ?_
        exact r_weak (ls2 := [.ref a, .int i1, .int i2, .int i3, .int i4, .null]) ⟨Or.inr rfl, Or.inr rfl, Or.inr rfl, Or.inr rfl, Or.inr rfl, Or.inl rfl, trivial⟩ h
    · replace h := h.2 c17
      refine r_iinc (pc := 105) d_Md_laysRowsSeen_105 (hi := by decide) (x := i4) rfl (v := i4 + (-1)) rfl (ls2 := [.ref a, .int i1, .int i2, .int i3, .int (i4 + (-1)), .int v14]) rfl ?_
      refine r_goto (pc := 108) d_Md_laysRowsSeen_108 (tgt := 59) (by decide) ?_
      exact r_weak (ls2 := [.ref a, .int i1, .int i2, .int i3, .int (i4 + (-1)), .null]) ⟨Or.inr rfl, Or.inr rfl, Or.inr rfl, Or.inr rfl, Or.inr rfl, Or.inl rfl, trivial⟩ h
set_option maxRecDepth 4000 in
theorem e_Md_counts {l : Launch} {d : Nat} {sh : aw_SH} {S : aw_S} {P : aw_S → Prop} {a : Nat} {p0 : Int32} {p1 : Int32} {p2 : Int32} (sa : sh[a]? = some (0, 11)) (h : AW l m_Md_counts (d + 1) 0 0 (gV sh P) 0 0 3 [.ref a, .int p0, .int p1, .int p2, .int 0, .null] [] sh S) : Sp l m_Md_counts (d + 1) 0 0 [.ref a, .int p0, .int p1, .int p2] sh S (gV sh P) := by
  refine Sp.of k_Md_counts (ls := [.ref a, .int p0, .int p1, .int p2, .null, .null]) rfl (Nat.le_of_ble_eq_true rfl) ?_
  refine r_iconst (pc := 0) d_Md_counts_0 (v := 0) (by decide) ?_
  refine r_istore (pc := 1) (hd := d_Md_counts_1) (hi := by decide) (ls2 := [.ref a, .int p0, .int p1, .int p2, .int 0, .null]) (h2 := rfl) ?_
  exact h
set_option maxRecDepth 4000 in
theorem s_Md_counts_3 {l : Launch} {d : Nat} {sh : aw_SH} {S : aw_S} {P : aw_S → Prop} {a : Nat} {i1 : Int32} {i2 : Int32} {i3 : Int32} {i4 : Int32} (sa : sh[a]? = some (0, 11)) (h : ((i2 ≤ i4 → AW l m_Md_counts (d + 1) 0 0 (gV sh P) 0 0 56 [.ref a, .null, .null, .int i3, .int 0, .null] [] sh S) ∧ (¬ i2 ≤ i4 → ∃ r2, S.2.2 a 7 = some r2 ∧ ∃ n4, sh[r2]? = some (4, n4) ∧ vp_in (((60 : Int32) * i1) + ((2 : Int32) * i4)) n4 ∧ Sp l m_Md_showsOf d 0 0 [.ref a, .int ((S.2.1 r2 (((60 : Int32) * i1) + ((2 : Int32) * i4) : Int32).toNatClampNeg).toInt32)] sh S (gI sh (fun x7 S6 => ∃ r8, S6.2.2 a 7 = some r8 ∧ ∃ n10, sh[r8]? = some (4, n10) ∧ vp_in ((((60 : Int32) * i1) + ((2 : Int32) * i4)) + (1 : Int32)) n10 ∧ (((lg_cmp x7.toInt64 (S6.2.1 r8 ((((60 : Int32) * i1) + ((2 : Int32) * i4)) + (1 : Int32) : Int32).toNatClampNeg)) = 0 → AW l m_Md_counts (d + 1) 0 0 (gV sh P) 0 0 3 [.ref a, .int i1, .int i2, .int i3, .int (i4 + 1), .null] [] sh S6) ∧ (¬ (lg_cmp x7.toInt64 (S6.2.1 r8 ((((60 : Int32) * i1) + ((2 : Int32) * i4)) + (1 : Int32) : Int32).toNatClampNeg)) = 0 → P S6))))))) : AW l m_Md_counts (d + 1) 0 0 (gV sh P) 0 0 3 [.ref a, .int i1, .int i2, .int i3, .int i4, .null] [] sh S := by
  refine r_iload (pc := 3) d_Md_counts_3 (x := i4) rfl ?_
  refine r_iload_n (pc := 5) d_Md_counts_5 (x := i2) rfl ?_
  refine r_icmp_ge (pc := 6) d_Md_counts_6 (tgt := 53) (by decide) (fun c1 => ?_) (fun c1 => ?_)
  · replace h := h.1 c1
    refine r_iconst (pc := 53) d_Md_counts_53 (v := 0) (by decide) ?_
    refine r_istore (pc := 54) (hd := d_Md_counts_54) (hi := by decide) (ls2 := [.ref a, .int i1, .int i2, .int i3, .int 0, .null]) (h2 := rfl) ?_
    exact r_weak (ls2 := [.ref a, .null, .null, .int i3, .int 0, .null]) ⟨Or.inr rfl, Or.inl rfl, Or.inl rfl, Or.inr rfl, Or.inr rfl, Or.inl rfl, trivial⟩ h
  · replace h := h.2 c1
    refine r_bipush (pc := 9) d_Md_counts_9 (v := 60) (by decide) ?_
    refine r_iload_n (pc := 11) d_Md_counts_11 (x := i1) rfl ?_
    refine r_imul (pc := 12) d_Md_counts_12 ?_
    refine r_iconst (pc := 13) d_Md_counts_13 (v := 2) (by decide) ?_
    refine r_iload (pc := 14) d_Md_counts_14 (x := i4) rfl ?_
    refine r_imul (pc := 16) d_Md_counts_16 ?_
    refine r_iadd (pc := 17) d_Md_counts_17 ?_
    refine r_istore (pc := 18) (hd := d_Md_counts_18) (hi := by decide) (ls2 := [.ref a, .int i1, .int i2, .int i3, .int i4, .int (((60 : Int32) * i1) + ((2 : Int32) * i4))]) (h2 := rfl) ?_
    refine r_aload_n (pc := 20) d_Md_counts_20 (x := a) rfl ?_
    refine r_aload_n (pc := 21) d_Md_counts_21 (x := a) rfl ?_
    obtain ⟨r2, er2, h⟩ := h
    refine r_getR (pc := 22) d_Md_counts_22 f_Md_27 sa (Or.inr ⟨_, rfl⟩) (r := r2) er2 ?_
    refine r_iload (pc := 25) d_Md_counts_25 (x := (((60 : Int32) * i1) + ((2 : Int32) * i4))) rfl ?_
    obtain ⟨n4, s3, h⟩ := h
    obtain ⟨g5, h⟩ := h
    refine r_lald (pc := 27) d_Md_counts_27 s3 g5 ?_
    refine r_l2i (pc := 28) d_Md_counts_28 ?_
    refine r_callV (pc := 29) (k := a) (As := [.int ((S.2.1 r2 (((60 : Int32) * i1) + ((2 : Int32) * i4) : Int32).toNatClampNeg).toInt32)]) (rest := []) (mc' := 0) (ms' := 0) lk_Md_319 in_Md_showsOf se_Md_showsOf sa rfl d_Md_counts_29 k_Md_showsOf rfl rfl (Nat.le_of_ble_eq_true rfl) (by decide) (by decide) (Sp.mono h ?_)
    rintro rS6 shS6 S6 ⟨qS6, x7, uS6, h⟩
    subst uS6
    rw [qS6]
    refine r_i2l (pc := 32) d_Md_counts_32 ?_
    refine r_aload_n (pc := 33) d_Md_counts_33 (x := a) rfl ?_
    obtain ⟨r8, er8, h⟩ := h
    refine r_getR (pc := 34) d_Md_counts_34 f_Md_27 sa (Or.inr ⟨_, rfl⟩) (r := r8) er8 ?_
    refine r_iload (pc := 37) d_Md_counts_37 (x := (((60 : Int32) * i1) + ((2 : Int32) * i4))) rfl ?_
    refine r_iconst (pc := 39) d_Md_counts_39 (v := 1) (by decide) ?_
    refine r_iadd (pc := 40) d_Md_counts_40 ?_
    obtain ⟨n10, s9, h⟩ := h
    obtain ⟨g11, h⟩ := h
    refine r_lald (pc := 41) d_Md_counts_41 s9 g11 ?_
    refine r_lcmp (pc := 42) d_Md_counts_42 ?_
    refine r_if_eq (pc := 43) d_Md_counts_43 (tgt := 47) (by decide) (fun c12 => ?_) (fun c12 => ?_)
    · replace h := h.1 c12
      refine r_iinc (pc := 47) d_Md_counts_47 (hi := by decide) (x := i4) rfl (v := i4 + 1) rfl (ls2 := [.ref a, .int i1, .int i2, .int i3, .int (i4 + 1), .int (((60 : Int32) * i1) + ((2 : Int32) * i4))]) rfl ?_
      refine r_goto (pc := 50) d_Md_counts_50 (tgt := 3) (by decide) ?_
      exact r_weak (ls2 := [.ref a, .int i1, .int i2, .int i3, .int (i4 + 1), .null]) ⟨Or.inr rfl, Or.inr rfl, Or.inr rfl, Or.inr rfl, Or.inr rfl, Or.inl rfl, trivial⟩ h
    · replace h := h.2 c12
      exact r_return (pc := 46) d_Md_counts_46 rfl rfl (Nat.le_refl _) ⟨rfl, rfl, h⟩
set_option maxRecDepth 4000 in
theorem s_Md_counts_56 {l : Launch} {d : Nat} {sh : aw_SH} {S : aw_S} {P : aw_S → Prop} {a : Nat} {i3 : Int32} {i4 : Int32} (sa : sh[a]? = some (0, 11)) (h : ((i3 ≤ i4 → AW l m_Md_counts (d + 1) 0 0 (gV sh P) 0 0 92 [.ref a, .null, .null, .null, .int 0, .null] [] sh S) ∧ (¬ i3 ≤ i4 → ((¬ (S.1 a 39) = 0 → AW l m_Md_counts (d + 1) 0 0 (gV sh P) 0 0 92 [.ref a, .null, .null, .null, .int 0, .null] [] sh S) ∧ ((S.1 a 39) = 0 → ∃ r3, S.2.2 a 37 = some r3 ∧ ∃ r4, S.2.2 a 36 = some r4 ∧ ∃ n6, sh[r4]? = some (3, n6) ∧ vp_in i4 n6 ∧ ∃ n9, sh[r3]? = some (3, n9) ∧ vp_in i4 n9 ∧ AW l m_Md_counts (d + 1) 0 0 (gV sh P) 0 0 56 [.ref a, .null, .null, .int i3, .int (i4 + 1), .null] [] sh (aw_uI S r3 i4.toNatClampNeg (S.1 r4 i4.toNatClampNeg))))))) : AW l m_Md_counts (d + 1) 0 0 (gV sh P) 0 0 56 [.ref a, .null, .null, .int i3, .int i4, .null] [] sh S := by
  refine r_iload (pc := 56) d_Md_counts_56 (x := i4) rfl ?_
  refine r_iload_n (pc := 58) d_Md_counts_58 (x := i3) rfl ?_
  refine r_icmp_ge (pc := 59) d_Md_counts_59 (tgt := 89) (by decide) (fun c1 => ?_) (fun c1 => ?_)
  · replace h := h.1 c1
    refine r_iconst (pc := 89) d_Md_counts_89 (v := 0) (by decide) ?_
    refine r_istore (pc := 90) (hd := d_Md_counts_90) (hi := by decide) (ls2 := [.ref a, .null, .null, .int i3, .int 0, .null]) (h2 := rfl) ?_
    exact r_weak (ls2 := [.ref a, .null, .null, .null, .int 0, .null]) ⟨Or.inr rfl, Or.inl rfl, Or.inl rfl, Or.inl rfl, Or.inr rfl, Or.inl rfl, trivial⟩ h
  · replace h := h.2 c1
    refine r_aload_n (pc := 62) d_Md_counts_62 (x := a) rfl ?_
    refine r_getI (pc := 63) d_Md_counts_63 f_Md_442 sa rfl ?_
    refine r_if_ne (pc := 66) d_Md_counts_66 (tgt := 89) (by decide) (fun c2 => ?_) (fun c2 => ?_)
    · replace h := h.1 c2
      refine r_iconst (pc := 89) d_Md_counts_89 (v := 0) (by decide) ?_
      refine r_istore (pc := 90) (hd := d_Md_counts_90) (hi := by decide) (ls2 := [.ref a, .null, .null, .int i3, .int 0, .null]) (h2 := rfl) ?_
      exact r_weak (ls2 := [.ref a, .null, .null, .null, .int 0, .null]) ⟨Or.inr rfl, Or.inl rfl, Or.inl rfl, Or.inl rfl, Or.inr rfl, Or.inl rfl, trivial⟩ h
    · replace h := h.2 c2
      refine r_aload_n (pc := 69) d_Md_counts_69 (x := a) rfl ?_
      obtain ⟨r3, er3, h⟩ := h
      refine r_getR (pc := 70) d_Md_counts_70 f_Md_78 sa (Or.inr ⟨_, rfl⟩) (r := r3) er3 ?_
      refine r_iload (pc := 73) d_Md_counts_73 (x := i4) rfl ?_
      refine r_aload_n (pc := 75) d_Md_counts_75 (x := a) rfl ?_
      obtain ⟨r4, er4, h⟩ := h
      refine r_getR (pc := 76) d_Md_counts_76 f_Md_75 sa (Or.inr ⟨_, rfl⟩) (r := r4) er4 ?_
      refine r_iload (pc := 79) d_Md_counts_79 (x := i4) rfl ?_
      obtain ⟨n6, s5, h⟩ := h
      obtain ⟨g7, h⟩ := h
      refine r_iald (pc := 81) d_Md_counts_81 s5 g7 ?_
      obtain ⟨n9, s8, h⟩ := h
      obtain ⟨g10, h⟩ := h
      refine r_iast (pc := 82) d_Md_counts_82 s8 g10 ?_
      refine r_iinc (pc := 83) d_Md_counts_83 (hi := by decide) (x := i4) rfl (v := i4 + 1) rfl (ls2 := [.ref a, .null, .null, .int i3, .int (i4 + 1), .null]) rfl ?_
      refine r_goto (pc := 86) d_Md_counts_86 (tgt := 56) (by decide) ?_
      exact h
set_option maxRecDepth 4000 in
theorem s_Md_counts_92 {l : Launch} {d : Nat} {sh : aw_SH} {S : aw_S} {P : aw_S → Prop} {a : Nat} {i4 : Int32} (sa : sh[a]? = some (0, 11)) (h : Sp l m_Md_gapsOf d 0 0 [.ref a, .int 0] sh S (gI sh (fun x2 S1 => ((x2 ≤ i4 → P (aw_uI S1 a 39 ((S1.1 a 39) + (1 : Int32)))) ∧ (¬ x2 ≤ i4 → ∃ r4, S1.2.2 a 38 = some r4 ∧ Sp l m_Md_showsOf d 0 0 [.ref a, .int i4] sh S1 (gI sh (fun x6 S5 => ∃ n8, sh[r4]? = some (3, n8) ∧ vp_in (((7 : Int32) * i4) + x6) n8 ∧ vp_in (((7 : Int32) * i4) + x6) n8 ∧ AW l m_Md_counts (d + 1) 0 0 (gV sh P) 0 0 92 [.ref a, .null, .null, .null, .int (i4 + 1), .null] [] sh (aw_uI S5 r4 ((((7 : Int32) * i4) + x6 : Int32).toNatClampNeg) ((S5.1 r4 (((7 : Int32) * i4) + x6 : Int32).toNatClampNeg) + (1 : Int32)))))))))) : AW l m_Md_counts (d + 1) 0 0 (gV sh P) 0 0 92 [.ref a, .null, .null, .null, .int i4, .null] [] sh S := by
  refine r_iload (pc := 92) d_Md_counts_92 (x := i4) rfl ?_
  refine r_aload_n (pc := 94) d_Md_counts_94 (x := a) rfl ?_
  refine r_iconst (pc := 95) d_Md_counts_95 (v := 0) (by decide) ?_
  refine r_callV (pc := 96) (k := a) (As := [.int 0]) (rest := [.int i4]) (mc' := 0) (ms' := 0) lk_Md_260 in_Md_gapsOf se_Md_gapsOf sa rfl d_Md_counts_96 k_Md_gapsOf rfl rfl (Nat.le_of_ble_eq_true rfl) (by decide) (by decide) (Sp.mono h ?_)
  rintro rS1 shS1 S1 ⟨qS1, x2, uS1, h⟩
  subst uS1
  rw [qS1]
  refine r_icmp_ge (pc := 99) d_Md_counts_99 (tgt := 129) (by decide) (fun c3 => ?_) (fun c3 => ?_)
  · replace h := h.1 c3
    refine r_aload_n (pc := 129) d_Md_counts_129 (x := a) rfl ?_
    refine r_dup (pc := 130) d_Md_counts_130 rfl ?_
    refine r_getI (pc := 131) d_Md_counts_131 f_Md_442 sa rfl ?_
    refine r_iconst (pc := 134) d_Md_counts_134 (v := 1) (by decide) ?_
    refine r_iadd (pc := 135) d_Md_counts_135 ?_
    refine r_putI (pc := 136) d_Md_counts_136 f_Md_442 sa rfl ?_
    exact r_return (pc := 139) d_Md_counts_139 rfl rfl (Nat.le_refl _) ⟨rfl, rfl, h⟩
  · replace h := h.2 c3
    refine r_aload_n (pc := 102) d_Md_counts_102 (x := a) rfl ?_
    obtain ⟨r4, er4, h⟩ := h
    refine r_getR (pc := 103) d_Md_counts_103 f_Md_81 sa (Or.inr ⟨_, rfl⟩) (r := r4) er4 ?_
    refine r_bipush (pc := 106) d_Md_counts_106 (v := 7) (by decide) ?_
    refine r_iload (pc := 108) d_Md_counts_108 (x := i4) rfl ?_
    refine r_imul (pc := 110) d_Md_counts_110 ?_
    refine r_aload_n (pc := 111) d_Md_counts_111 (x := a) rfl ?_
    refine r_iload (pc := 112) d_Md_counts_112 (x := i4) rfl ?_
    refine r_callV (pc := 114) (k := a) (As := [.int i4]) (rest := [.int ((7 : Int32) * i4), .ref r4]) (mc' := 0) (ms' := 0) lk_Md_319 in_Md_showsOf se_Md_showsOf sa rfl d_Md_counts_114 k_Md_showsOf rfl rfl (Nat.le_of_ble_eq_true rfl) (by decide) (by decide) (Sp.mono h ?_)
    rintro rS5 shS5 S5 ⟨qS5, x6, uS5, h⟩
    subst uS5
    rw [qS5]
    refine r_iadd (pc := 117) d_Md_counts_117 ?_
    refine r_dup2 (pc := 118) d_Md_counts_118 rfl rfl ?_
    obtain ⟨n8, s7, h⟩ := h
    obtain ⟨g9, h⟩ := h
    refine r_iald (pc := 119) d_Md_counts_119 s7 g9 ?_
    refine r_iconst (pc := 120) d_Md_counts_120 (v := 1) (by decide) ?_
    refine r_iadd (pc := 121) d_Md_counts_121 ?_
    obtain ⟨g10, h⟩ := h
    refine r_iast (pc := 122) d_Md_counts_122 s7 g10 ?_
    refine r_iinc (pc := 123) d_Md_counts_123 (hi := by decide) (x := i4) rfl (v := i4 + 1) rfl (ls2 := [.ref a, .null, .null, .null, .int (i4 + 1), .null]) rfl ?_
    refine r_goto (pc := 126) d_Md_counts_126 (tgt := 92) (by decide) ?_
    exact h
set_option maxRecDepth 4000 in
theorem e_Md_levelAt {l : Launch} {d : Nat} {sh : aw_SH} {S : aw_S} {P : Int32 → aw_S → Prop} {p0 : Int32} (h : P ((2944 : Int32) + ((184 : Int32) * p0)) S) : Sp l m_Md_levelAt (d + 1) 0 0 [.int p0] sh S (gI sh P) := by
  refine Sp.of k_Md_levelAt (ls := [.int p0]) rfl (Nat.le_of_ble_eq_true rfl) ?_
  refine r_sipush (pc := 0) d_Md_levelAt_0 (v := 2944) (by decide) ?_
  refine r_sipush (pc := 3) d_Md_levelAt_3 (v := 184) (by decide) ?_
  refine r_iload_n (pc := 6) d_Md_levelAt_6 (x := p0) rfl ?_
  refine r_imul (pc := 7) d_Md_levelAt_7 ?_
  refine r_iadd (pc := 8) d_Md_levelAt_8 ?_
  exact r_ireturn (pc := 9) d_Md_levelAt_9 rfl rfl (Nat.le_refl _) ⟨rfl, _, rfl, h⟩
set_option maxRecDepth 4000 in
theorem e_Md_keeps {l : Launch} {d : Nat} {sh : aw_SH} {S : aw_S} {P : aw_S → Prop} {a : Nat} {p0 : Int32} (sa : sh[a]? = some (0, 11)) (h : AW l m_Md_keeps (d + 1) 0 0 (gV sh P) 0 0 2 [.ref a, .int p0, .int 0] [] sh S) : Sp l m_Md_keeps (d + 1) 0 0 [.ref a, .int p0] sh S (gV sh P) := by
  refine Sp.of k_Md_keeps (ls := [.ref a, .int p0, .null]) rfl (Nat.le_of_ble_eq_true rfl) ?_
  refine r_iconst (pc := 0) d_Md_keeps_0 (v := 0) (by decide) ?_
  refine r_istore_n (pc := 1) (hk := rfl) (hd := d_Md_keeps_1) (hi := by decide) (ls2 := [.ref a, .int p0, .int 0]) (h2 := rfl) ?_
  exact h
set_option maxRecDepth 4000 in
theorem s_Md_keeps_2 {l : Launch} {d : Nat} {sh : aw_SH} {S : aw_S} {P : aw_S → Prop} {a : Nat} {i1 : Int32} {i2 : Int32} (sa : sh[a]? = some (0, 11)) (h : ((184 ≤ i2 → P S) ∧ (¬ 184 ≤ i2 → ∃ r2, S.2.2 a 0 = some r2 ∧ ∃ n4, sh[r2]? = some (3, n4) ∧ vp_in i2 n4 ∧ vp_in (i1 + i2) n4 ∧ AW l m_Md_keeps (d + 1) 0 0 (gV sh P) 0 0 2 [.ref a, .int i1, .int (i2 + 1)] [] sh (aw_uI S r2 ((i1 + i2 : Int32).toNatClampNeg) (S.1 r2 i2.toNatClampNeg))))) : AW l m_Md_keeps (d + 1) 0 0 (gV sh P) 0 0 2 [.ref a, .int i1, .int i2] [] sh S := by
  refine r_iload_n (pc := 2) d_Md_keeps_2 (x := i2) rfl ?_
  refine r_sipush (pc := 3) d_Md_keeps_3 (v := 184) (by decide) ?_
  refine r_icmp_ge (pc := 6) d_Md_keeps_6 (tgt := 29) (by decide) (fun c1 => ?_) (fun c1 => ?_)
  · replace h := h.1 c1
    exact r_return (pc := 29) d_Md_keeps_29 rfl rfl (Nat.le_refl _) ⟨rfl, rfl, h⟩
  · replace h := h.2 c1
    refine r_aload_n (pc := 9) d_Md_keeps_9 (x := a) rfl ?_
    obtain ⟨r2, er2, h⟩ := h
    refine r_getR (pc := 10) d_Md_keeps_10 f_Md_7 sa (Or.inr ⟨_, rfl⟩) (r := r2) er2 ?_
    refine r_iload_n (pc := 13) d_Md_keeps_13 (x := i1) rfl ?_
    refine r_iload_n (pc := 14) d_Md_keeps_14 (x := i2) rfl ?_
    refine r_iadd (pc := 15) d_Md_keeps_15 ?_
    refine r_aload_n (pc := 16) d_Md_keeps_16 (x := a) rfl ?_
    refine r_getR (pc := 17) d_Md_keeps_17 f_Md_7 sa (Or.inr ⟨_, rfl⟩) (r := r2) er2 ?_
    refine r_iload_n (pc := 20) d_Md_keeps_20 (x := i2) rfl ?_
    obtain ⟨n4, s3, h⟩ := h
    obtain ⟨g5, h⟩ := h
    refine r_iald (pc := 21) d_Md_keeps_21 s3 g5 ?_
    obtain ⟨g6, h⟩ := h
    refine r_iast (pc := 22) d_Md_keeps_22 s3 g6 ?_
    refine r_iinc (pc := 23) d_Md_keeps_23 (hi := by decide) (x := i2) rfl (v := i2 + 1) rfl (ls2 := [.ref a, .int i1, .int (i2 + 1)]) rfl ?_
    refine r_goto (pc := 26) d_Md_keeps_26 (tgt := 2) (by decide) ?_
    exact h
set_option maxRecDepth 4000 in
theorem e_Md_restores {l : Launch} {d : Nat} {sh : aw_SH} {S : aw_S} {P : aw_S → Prop} {a : Nat} {p0 : Int32} (sa : sh[a]? = some (0, 11)) (h : AW l m_Md_restores (d + 1) 0 0 (gV sh P) 0 0 2 [.ref a, .int p0, .int 0] [] sh S) : Sp l m_Md_restores (d + 1) 0 0 [.ref a, .int p0] sh S (gV sh P) := by
  refine Sp.of k_Md_restores (ls := [.ref a, .int p0, .null]) rfl (Nat.le_of_ble_eq_true rfl) ?_
  refine r_iconst (pc := 0) d_Md_restores_0 (v := 0) (by decide) ?_
  refine r_istore_n (pc := 1) (hk := rfl) (hd := d_Md_restores_1) (hi := by decide) (ls2 := [.ref a, .int p0, .int 0]) (h2 := rfl) ?_
  exact h
set_option maxRecDepth 4000 in
theorem s_Md_restores_2 {l : Launch} {d : Nat} {sh : aw_SH} {S : aw_S} {P : aw_S → Prop} {a : Nat} {i1 : Int32} {i2 : Int32} (sa : sh[a]? = some (0, 11)) (h : ((184 ≤ i2 → P S) ∧ (¬ 184 ≤ i2 → ∃ r2, S.2.2 a 0 = some r2 ∧ ∃ n4, sh[r2]? = some (3, n4) ∧ vp_in (i1 + i2) n4 ∧ vp_in i2 n4 ∧ AW l m_Md_restores (d + 1) 0 0 (gV sh P) 0 0 2 [.ref a, .int i1, .int (i2 + 1)] [] sh (aw_uI S r2 i2.toNatClampNeg (S.1 r2 (i1 + i2 : Int32).toNatClampNeg))))) : AW l m_Md_restores (d + 1) 0 0 (gV sh P) 0 0 2 [.ref a, .int i1, .int i2] [] sh S := by
  refine r_iload_n (pc := 2) d_Md_restores_2 (x := i2) rfl ?_
  refine r_sipush (pc := 3) d_Md_restores_3 (v := 184) (by decide) ?_
  refine r_icmp_ge (pc := 6) d_Md_restores_6 (tgt := 29) (by decide) (fun c1 => ?_) (fun c1 => ?_)
  · replace h := h.1 c1
    exact r_return (pc := 29) d_Md_restores_29 rfl rfl (Nat.le_refl _) ⟨rfl, rfl, h⟩
  · replace h := h.2 c1
    refine r_aload_n (pc := 9) d_Md_restores_9 (x := a) rfl ?_
    obtain ⟨r2, er2, h⟩ := h
    refine r_getR (pc := 10) d_Md_restores_10 f_Md_7 sa (Or.inr ⟨_, rfl⟩) (r := r2) er2 ?_
    refine r_iload_n (pc := 13) d_Md_restores_13 (x := i2) rfl ?_
    refine r_aload_n (pc := 14) d_Md_restores_14 (x := a) rfl ?_
    refine r_getR (pc := 15) d_Md_restores_15 f_Md_7 sa (Or.inr ⟨_, rfl⟩) (r := r2) er2 ?_
    refine r_iload_n (pc := 18) d_Md_restores_18 (x := i1) rfl ?_
    refine r_iload_n (pc := 19) d_Md_restores_19 (x := i2) rfl ?_
    refine r_iadd (pc := 20) d_Md_restores_20 ?_
    obtain ⟨n4, s3, h⟩ := h
    obtain ⟨g5, h⟩ := h
    refine r_iald (pc := 21) d_Md_restores_21 s3 g5 ?_
    obtain ⟨g6, h⟩ := h
    refine r_iast (pc := 22) d_Md_restores_22 s3 g6 ?_
    refine r_iinc (pc := 23) d_Md_restores_23 (hi := by decide) (x := i2) rfl (v := i2 + 1) rfl (ls2 := [.ref a, .int i1, .int (i2 + 1)]) rfl ?_
    refine r_goto (pc := 26) d_Md_restores_26 (tgt := 2) (by decide) ?_
    exact h
set_option maxRecDepth 4000 in
theorem e_Md_fitsAt {l : Launch} {d : Nat} {sh : aw_SH} {S : aw_S} {P : Int32 → aw_S → Prop} {a : Nat} {p0 : Int32} {p1 : Int32} {p2 : Int32} {p3 : Int32} (sa : sh[a]? = some (0, 11)) (h : ((0 ≤ p3 → Sp l m_Md_wrongSeen d 0 0 [.ref a, .int p0, .int p1, .int p2] sh S (gI sh (fun x3 S2 => ((x3 ≤ 0 → Sp l m_Md_laysRowsSeen d 0 0 [.ref a, .int p0, .int p1, .int p2] sh S2 (gV sh (fun S5 => (((S5.1 a 39) = 0 → Sp l m_Md_refuse d 0 0 [.ref a, .int 6] sh S5 (gI sh (fun x8 S7 => P x8 S7))) ∧ (¬ (S5.1 a 39) = 0 → ((p3 < p2 → ∃ r10, S5.2.2 a 37 = some r10 ∧ ∃ n12, sh[r10]? = some (3, n12) ∧ vp_in p3 n12 ∧ Sp l m_Md_gives d 0 0 [.ref a, .int (S5.1 r10 p3.toNatClampNeg)] sh S5 (gI sh (fun x15 S14 => P x15 S14))) ∧ (¬ p3 < p2 → Sp l m_Md_refuse d 0 0 [.ref a, .int 6] sh S5 (gI sh (fun x17 S16 => P x17 S16))))))))) ∧ (¬ x3 ≤ 0 → Sp l m_Md_refuse d 0 0 [.ref a, .int x3] sh S2 (gI sh (fun x19 S18 => P x19 S18))))))) ∧ (¬ 0 ≤ p3 → Sp l m_Md_refuse d 0 0 [.ref a, .int 1] sh S (gI sh (fun x22 S21 => P x22 S21))))) : Sp l m_Md_fitsAt (d + 1) 0 0 [.ref a, .int p0, .int p1, .int p2, .int p3] sh S (gI sh P) := by
  refine Sp.of k_Md_fitsAt (ls := [.ref a, .int p0, .int p1, .int p2, .int p3, .null]) rfl (Nat.le_of_ble_eq_true rfl) ?_
  refine r_iload (pc := 0) d_Md_fitsAt_0 (x := p3) rfl ?_
  refine r_if_ge (pc := 2) d_Md_fitsAt_2 (tgt := 9) (by decide) (fun c1 => ?_) (fun c1 => ?_)
  · replace h := h.1 c1
    refine r_aload_n (pc := 9) d_Md_fitsAt_9 (x := a) rfl ?_
    refine r_iload_n (pc := 10) d_Md_fitsAt_10 (x := p0) rfl ?_
    refine r_iload_n (pc := 11) d_Md_fitsAt_11 (x := p1) rfl ?_
    refine r_iload_n (pc := 12) d_Md_fitsAt_12 (x := p2) rfl ?_
    refine r_callV (pc := 13) (k := a) (As := [.int p0, .int p1, .int p2]) (rest := []) (mc' := 0) (ms' := 0) lk_Md_457 in_Md_wrongSeen se_Md_wrongSeen sa rfl d_Md_fitsAt_13 k_Md_wrongSeen rfl rfl (Nat.le_of_ble_eq_true rfl) (by decide) (by decide) (Sp.mono h ?_)
    rintro rS2 shS2 S2 ⟨qS2, x3, uS2, h⟩
    subst uS2
    rw [qS2]
    refine r_istore (pc := 16) (hd := d_Md_fitsAt_16) (hi := by decide) (ls2 := [.ref a, .int p0, .int p1, .int p2, .int p3, .int x3]) (h2 := rfl) ?_
    refine r_iload (pc := 18) d_Md_fitsAt_18 (x := x3) rfl ?_
    refine r_if_le (pc := 20) d_Md_fitsAt_20 (tgt := 30) (by decide) (fun c4 => ?_) (fun c4 => ?_)
    · replace h := h.1 c4
      refine r_aload_n (pc := 30) d_Md_fitsAt_30 (x := a) rfl ?_
      refine r_iload_n (pc := 31) d_Md_fitsAt_31 (x := p0) rfl ?_
      refine r_iload_n (pc := 32) d_Md_fitsAt_32 (x := p1) rfl ?_
      refine r_iload_n (pc := 33) d_Md_fitsAt_33 (x := p2) rfl ?_
      refine r_callV (pc := 34) (k := a) (As := [.int p0, .int p1, .int p2]) (rest := []) (mc' := 0) (ms' := 0) lk_Md_460 in_Md_laysRowsSeen se_Md_laysRowsSeen sa rfl d_Md_fitsAt_34 k_Md_laysRowsSeen rfl rfl (Nat.le_of_ble_eq_true rfl) (by decide) (by decide) (Sp.mono h ?_)
      rintro rS5 shS5 S5 ⟨qS5, uS5, h⟩
      subst uS5
      rw [qS5]
      refine r_aload_n (pc := 37) d_Md_fitsAt_37 (x := a) rfl ?_
      refine r_getI (pc := 38) d_Md_fitsAt_38 f_Md_442 sa rfl ?_
      refine r_if_eq (pc := 41) d_Md_fitsAt_41 (tgt := 50) (by decide) (fun c6 => ?_) (fun c6 => ?_)
      · replace h := h.1 c6
        refine r_aload_n (pc := 50) d_Md_fitsAt_50 (x := a) rfl ?_
        refine r_bipush (pc := 51) d_Md_fitsAt_51 (v := 6) (by decide) ?_
        refine r_callV (pc := 53) (k := a) (As := [.int 6]) (rest := []) (mc' := 0) (ms' := 0) lk_Md_118 in_Md_refuse se_Md_refuse sa rfl d_Md_fitsAt_53 k_Md_refuse rfl rfl (Nat.le_of_ble_eq_true rfl) (by decide) (by decide) (Sp.mono h ?_)
        rintro rS7 shS7 S7 ⟨qS7, x8, uS7, h⟩
        subst uS7
        rw [qS7]
        refine r_goto (pc := 56) d_Md_fitsAt_56 (tgt := 70) (by decide) ?_
        exact r_ireturn (pc := 70) d_Md_fitsAt_70 rfl rfl (Nat.le_refl _) ⟨rfl, _, rfl, h⟩
      · replace h := h.2 c6
        refine r_iload (pc := 44) d_Md_fitsAt_44 (x := p3) rfl ?_
        refine r_iload_n (pc := 46) d_Md_fitsAt_46 (x := p2) rfl ?_
        refine r_icmp_lt (pc := 47) d_Md_fitsAt_47 (tgt := 59) (by decide) (fun c9 => ?_) (fun c9 => ?_)
        · replace h := h.1 c9
          refine r_aload_n (pc := 59) d_Md_fitsAt_59 (x := a) rfl ?_
          refine r_aload_n (pc := 60) d_Md_fitsAt_60 (x := a) rfl ?_
          obtain ⟨r10, er10, h⟩ := h
          refine r_getR (pc := 61) d_Md_fitsAt_61 f_Md_78 sa (Or.inr ⟨_, rfl⟩) (r := r10) er10 ?_
          refine r_iload (pc := 64) d_Md_fitsAt_64 (x := p3) rfl ?_
          obtain ⟨n12, s11, h⟩ := h
          obtain ⟨g13, h⟩ := h
          refine r_iald (pc := 66) d_Md_fitsAt_66 s11 g13 ?_
          refine r_callV (pc := 67) (k := a) (As := [.int (S5.1 r10 p3.toNatClampNeg)]) (rest := []) (mc' := 0) (ms' := 0) lk_Md_122 in_Md_gives se_Md_gives sa rfl d_Md_fitsAt_67 k_Md_gives rfl rfl (Nat.le_of_ble_eq_true rfl) (by decide) (by decide) (Sp.mono h ?_)
          rintro rS14 shS14 S14 ⟨qS14, x15, uS14, h⟩
          subst uS14
          rw [qS14]
          exact r_ireturn (pc := 70) d_Md_fitsAt_70 rfl rfl (Nat.le_refl _) ⟨rfl, _, rfl, h⟩
        · replace h := h.2 c9
          refine r_aload_n (pc := 50) d_Md_fitsAt_50 (x := a) rfl ?_
          refine r_bipush (pc := 51) d_Md_fitsAt_51 (v := 6) (by decide) ?_
          refine r_callV (pc := 53) (k := a) (As := [.int 6]) (rest := []) (mc' := 0) (ms' := 0) lk_Md_118 in_Md_refuse se_Md_refuse sa rfl d_Md_fitsAt_53 k_Md_refuse rfl rfl (Nat.le_of_ble_eq_true rfl) (by decide) (by decide) (Sp.mono h ?_)
          rintro rS16 shS16 S16 ⟨qS16, x17, uS16, h⟩
          subst uS16
          rw [qS16]
          refine r_goto (pc := 56) d_Md_fitsAt_56 (tgt := 70) (by decide) ?_
          exact r_ireturn (pc := 70) d_Md_fitsAt_70 rfl rfl (Nat.le_refl _) ⟨rfl, _, rfl, h⟩
    · replace h := h.2 c4
      refine r_aload_n (pc := 23) d_Md_fitsAt_23 (x := a) rfl ?_
      refine r_iload (pc := 24) d_Md_fitsAt_24 (x := x3) rfl ?_
      refine r_callV (pc := 26) (k := a) (As := [.int x3]) (rest := []) (mc' := 0) (ms' := 0) lk_Md_118 in_Md_refuse se_Md_refuse sa rfl d_Md_fitsAt_26 k_Md_refuse rfl rfl (Nat.le_of_ble_eq_true rfl) (by decide) (by decide) (Sp.mono h ?_)
      rintro rS18 shS18 S18 ⟨qS18, x19, uS18, h⟩
      subst uS18
      rw [qS18]
      exact r_ireturn (pc := 29) d_Md_fitsAt_29 rfl rfl (Nat.le_refl _) ⟨rfl, _, rfl, h⟩
  · replace h := h.2 c1
    refine r_iconst (pc := 5) d_Md_fitsAt_5 (v := 1) (by decide) ?_
    refine r_goto (pc := 6) d_Md_fitsAt_6 (tgt := 16) (by decide) ?_
    refine r_istore (pc := 16) (hd := d_Md_fitsAt_16) (hi := by decide) (ls2 := [.ref a, .int p0, .int p1, .int p2, .int p3, .int 1]) (h2 := rfl) ?_
    refine r_iload (pc := 18) d_Md_fitsAt_18 (x := 1) rfl ?_
    refine r_if_le (pc := 20) d_Md_fitsAt_20 (tgt := 30) (by decide) (fun q => absurd q (by decide)) (fun _ => ?_)
    refine r_aload_n (pc := 23) d_Md_fitsAt_23 (x := a) rfl ?_
    refine r_iload (pc := 24) d_Md_fitsAt_24 (x := 1) rfl ?_
    refine r_callV (pc := 26) (k := a) (As := [.int 1]) (rest := []) (mc' := 0) (ms' := 0) lk_Md_118 in_Md_refuse se_Md_refuse sa rfl d_Md_fitsAt_26 k_Md_refuse rfl rfl (Nat.le_of_ble_eq_true rfl) (by decide) (by decide) (Sp.mono h ?_)
    rintro rS21 shS21 S21 ⟨qS21, x22, uS21, h⟩
    subst uS21
    rw [qS21]
    exact r_ireturn (pc := 29) d_Md_fitsAt_29 rfl rfl (Nat.le_refl _) ⟨rfl, _, rfl, h⟩
