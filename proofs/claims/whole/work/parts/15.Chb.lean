set_option maxRecDepth 4000 in
theorem e_Ch_setSlips {l : Launch} {d : Nat} {sh : aw_SH} {S : aw_S} {P : aw_S → Prop} {a : Nat} {p0 : Int32} {p1 : Int32} {p2 : Int32} (sa : sh[a]? = some (0, 10)) (h : ∃ r1, S.2.2 a 2 = some r1 ∧ Sp l m_Ar_fill_AJJV d 0 0 [.ref r1, .long 0] sh S (gV sh (fun S2 => ∃ r3, S2.2.2 a 2 = some r3 ∧ ∃ n5, sh[r3]? = some (4, n5) ∧ vp_in 0 n5 ∧ AW l m_Ch_setSlips (d + 1) 0 0 (gV sh P) 0 0 21 [.ref a, .int p0, .int p1, .int p2, .long 1, .null, .int 1, .null, .null] [] sh (aw_uL S2 r3 ((0 : Int32).toNatClampNeg) 1)))) : Sp l m_Ch_setSlips (d + 1) 0 0 [.ref a, .int p0, .int p1, .int p2] sh S (gV sh P) := by
  refine Sp.of k_Ch_setSlips (ls := [.ref a, .int p0, .int p1, .int p2, .null, .null, .null, .null, .null]) rfl (Nat.le_of_ble_eq_true rfl) ?_
  refine r_aload_n (pc := 0) d_Ch_setSlips_0 (x := a) rfl ?_
  obtain ⟨r1, er1, h⟩ := h
  refine r_getR (pc := 1) d_Ch_setSlips_1 f_Ch_15 sa (Or.inr ⟨_, rfl⟩) (r := r1) er1 ?_
  refine r_lconst (pc := 4) d_Ch_setSlips_4 (v := 0) (by decide) ?_
  refine r_callS (pc := 5) (k := 0) (As := [.ref r1, .long 0]) (rest := []) (mc' := 0) (ms' := 0) lk_Ch_29 st_Ar_fill_AJJV d_Ch_setSlips_5 k_Ar_fill_AJJV rfl rfl (Nat.le_of_ble_eq_true rfl) (by decide) (by decide) (Sp.mono h ?_)
  rintro rS2 shS2 S2 ⟨qS2, uS2, h⟩
  subst uS2
  rw [qS2]
  refine r_aload_n (pc := 8) d_Ch_setSlips_8 (x := a) rfl ?_
  obtain ⟨r3, er3, h⟩ := h
  refine r_getR (pc := 9) d_Ch_setSlips_9 f_Ch_15 sa (Or.inr ⟨_, rfl⟩) (r := r3) er3 ?_
  refine r_iconst (pc := 12) d_Ch_setSlips_12 (v := 0) (by decide) ?_
  refine r_lconst (pc := 13) d_Ch_setSlips_13 (v := 1) (by decide) ?_
  obtain ⟨n5, s4, h⟩ := h
  obtain ⟨g6, h⟩ := h
  refine r_last (pc := 14) d_Ch_setSlips_14 s4 g6 ?_
  refine r_lconst (pc := 15) d_Ch_setSlips_15 (v := 1) (by decide) ?_
  refine r_lstore (pc := 16) (hd := d_Ch_setSlips_16) (hi := by decide) (ls2 := [.ref a, .int p0, .int p1, .int p2, .long 1, .null, .null, .null, .null]) (h2 := rfl) ?_
  refine r_iconst (pc := 18) d_Ch_setSlips_18 (v := 1) (by decide) ?_
  refine r_istore (pc := 19) (hd := d_Ch_setSlips_19) (hi := by decide) (ls2 := [.ref a, .int p0, .int p1, .int p2, .long 1, .null, .int 1, .null, .null]) (h2 := rfl) ?_
  exact h
set_option maxRecDepth 4000 in
theorem s_Ch_setSlips_21 {l : Launch} {d : Nat} {sh : aw_SH} {S : aw_S} {P : aw_S → Prop} {a : Nat} {i1 : Int32} {i2 : Int32} {i3 : Int32} {i4 : Int64} {i6 : Int32} (sa : sh[a]? = some (0, 10)) (h : ((i2 < i6 → AW l m_Ch_setSlips (d + 1) 0 0 (gV sh P) 0 0 109 [.ref a, .null, .int i2, .null, .long i4, .null, .long 0, .null, .int i3] [] sh S) ∧ (¬ i2 < i6 → AW l m_Ch_setSlips (d + 1) 0 0 (gV sh P) 0 0 31 [.ref a, .int i1, .int i2, .int i3, .long i4, .null, .int i6, .int i6, .null] [] sh S))) : AW l m_Ch_setSlips (d + 1) 0 0 (gV sh P) 0 0 21 [.ref a, .int i1, .int i2, .int i3, .long i4, .null, .int i6, .null, .null] [] sh S := by
  refine r_iload (pc := 21) d_Ch_setSlips_21 (x := i6) rfl ?_
  refine r_iload_n (pc := 23) d_Ch_setSlips_23 (x := i2) rfl ?_
  refine r_icmp_gt (pc := 24) d_Ch_setSlips_24 (tgt := 103) (by decide) (fun c1 => ?_) (fun c1 => ?_)
  · replace h := h.1 c1
    refine r_lconst (pc := 103) d_Ch_setSlips_103 (v := 0) (by decide) ?_
    refine r_lstore (pc := 104) (hd := d_Ch_setSlips_104) (hi := by decide) (ls2 := [.ref a, .int i1, .int i2, .int i3, .long i4, .null, .long 0, .null, .null]) (h2 := rfl) ?_
    refine r_iload_n (pc := 106) d_Ch_setSlips_106 (x := i3) rfl ?_
    refine r_istore (pc := 107) (hd := d_Ch_setSlips_107) (hi := by decide) (ls2 := [.ref a, .int i1, .int i2, .int i3, .long i4, .null, .long 0, .null, .int i3]) (h2 := rfl) ?_
    exact r_weak (ls2 := [.ref a, .null, .int i2, .null, .long i4, .null, .long 0, .null, .int i3]) ⟨Or.inr rfl, Or.inl rfl, Or.inr rfl, Or.inl rfl, Or.inr rfl, Or.inl rfl, Or.inr rfl, Or.inl rfl, Or.inr rfl, trivial⟩ h
  · replace h := h.2 c1
    refine r_iload (pc := 27) d_Ch_setSlips_27 (x := i6) rfl ?_
    refine r_istore (pc := 29) (hd := d_Ch_setSlips_29) (hi := by decide) (ls2 := [.ref a, .int i1, .int i2, .int i3, .long i4, .null, .int i6, .int i6, .null]) (h2 := rfl) ?_
    exact h
set_option maxRecDepth 4000 in
theorem s_Ch_setSlips_109 {l : Launch} {d : Nat} {sh : aw_SH} {S : aw_S} {P : aw_S → Prop} {a : Nat} {i2 : Int32} {i4 : Int64} {i6 : Int64} {i8 : Int32} (sa : sh[a]? = some (0, 10)) (h : ((i2 < i8 → Sp l m_Ch_set d 0 0 [.ref a, .long i6, .long i4] sh S (gV sh (fun S2 => P S2))) ∧ (¬ i2 < i8 → ∃ r3, S.2.2 a 2 = some r3 ∧ ∃ n5, sh[r3]? = some (4, n5) ∧ vp_in i8 n5 ∧ AW l m_Ch_setSlips (d + 1) 0 0 (gV sh P) 0 0 109 [.ref a, .null, .int i2, .null, .long i4, .null, .long (i6 + (S.2.1 r3 i8.toNatClampNeg)), .null, .int (i8 + 1)] [] sh S))) : AW l m_Ch_setSlips (d + 1) 0 0 (gV sh P) 0 0 109 [.ref a, .null, .int i2, .null, .long i4, .null, .long i6, .null, .int i8] [] sh S := by
  refine r_iload (pc := 109) d_Ch_setSlips_109 (x := i8) rfl ?_
  refine r_iload_n (pc := 111) d_Ch_setSlips_111 (x := i2) rfl ?_
  refine r_icmp_gt (pc := 112) d_Ch_setSlips_112 (tgt := 133) (by decide) (fun c1 => ?_) (fun c1 => ?_)
  · replace h := h.1 c1
    refine r_aload_n (pc := 133) d_Ch_setSlips_133 (x := a) rfl ?_
    refine r_lload (pc := 134) d_Ch_setSlips_134 (x := i6) rfl ?_
    refine r_lload (pc := 136) d_Ch_setSlips_136 (x := i4) rfl ?_
    refine r_callV (pc := 138) (k := a) (As := [.long i6, .long i4]) (rest := []) (mc' := 0) (ms' := 0) lk_Ch_37 in_Ch_set se_Ch_set sa rfl d_Ch_setSlips_138 k_Ch_set rfl rfl (Nat.le_of_ble_eq_true rfl) (by decide) (by decide) (Sp.mono h ?_)
    rintro rS2 shS2 S2 ⟨qS2, uS2, h⟩
    subst uS2
    rw [qS2]
    exact r_return (pc := 141) d_Ch_setSlips_141 rfl rfl (Nat.le_refl _) ⟨rfl, rfl, h⟩
  · replace h := h.2 c1
    refine r_lload (pc := 115) d_Ch_setSlips_115 (x := i6) rfl ?_
    refine r_aload_n (pc := 117) d_Ch_setSlips_117 (x := a) rfl ?_
    obtain ⟨r3, er3, h⟩ := h
    refine r_getR (pc := 118) d_Ch_setSlips_118 f_Ch_15 sa (Or.inr ⟨_, rfl⟩) (r := r3) er3 ?_
    refine r_iload (pc := 121) d_Ch_setSlips_121 (x := i8) rfl ?_
    obtain ⟨n5, s4, h⟩ := h
    obtain ⟨g6, h⟩ := h
    refine r_lald (pc := 123) d_Ch_setSlips_123 s4 g6 ?_
    refine r_ladd (pc := 124) d_Ch_setSlips_124 ?_
    refine r_lstore (pc := 125) (hd := d_Ch_setSlips_125) (hi := by decide) (ls2 := [.ref a, .null, .int i2, .null, .long i4, .null, .long (i6 + (S.2.1 r3 i8.toNatClampNeg)), .null, .int i8]) (h2 := rfl) ?_
    refine r_iinc (pc := 127) d_Ch_setSlips_127 (hi := by decide) (x := i8) rfl (v := i8 + 1) rfl (ls2 := [.ref a, .null, .int i2, .null, .long i4, .null, .long (i6 + (S.2.1 r3 i8.toNatClampNeg)), .null, .int (i8 + 1)]) rfl ?_
    refine r_goto (pc := 130) d_Ch_setSlips_130 (tgt := 109) (by decide) ?_
    exact h
set_option maxRecDepth 4000 in
theorem s_Ch_setSlips_31 {l : Launch} {d : Nat} {sh : aw_SH} {S : aw_S} {P : aw_S → Prop} {a : Nat} {i1 : Int32} {i2 : Int32} {i3 : Int32} {i4 : Int64} {i6 : Int32} {i7 : Int32} (sa : sh[a]? = some (0, 10)) (h : ((i7 ≤ 0 → ∃ r2, S.2.2 a 2 = some r2 ∧ ∃ n4, sh[r2]? = some (4, n4) ∧ vp_in 0 n4 ∧ vp_in 0 n4 ∧ AW l m_Ch_setSlips (d + 1) 0 0 (gV sh P) 0 0 21 [.ref a, .int i1, .int i2, .int i3, .long (i4 * (16 : Int64)), .null, .int (i6 + 1), .null, .null] [] sh (aw_uL S r2 ((0 : Int32).toNatClampNeg) ((S.2.1 r2 (0 : Int32).toNatClampNeg) * (((16 : Int32) - i1).toInt64)))) ∧ (¬ i7 ≤ 0 → ∃ r7, S.2.2 a 2 = some r7 ∧ ∃ n9, sh[r7]? = some (4, n9) ∧ vp_in i7 n9 ∧ vp_in (i7 - (1 : Int32)) n9 ∧ vp_in i7 n9 ∧ AW l m_Ch_setSlips (d + 1) 0 0 (gV sh P) 0 0 31 [.ref a, .int i1, .int i2, .int i3, .long i4, .null, .int i6, .int (i7 + (-1)), .null] [] sh (aw_uL S r7 i7.toNatClampNeg (((S.2.1 r7 i7.toNatClampNeg) * (((16 : Int32) - i1).toInt64)) + ((S.2.1 r7 (i7 - (1 : Int32) : Int32).toNatClampNeg) * i1.toInt64)))))) : AW l m_Ch_setSlips (d + 1) 0 0 (gV sh P) 0 0 31 [.ref a, .int i1, .int i2, .int i3, .long i4, .null, .int i6, .int i7, .null] [] sh S := by
  refine r_iload (pc := 31) d_Ch_setSlips_31 (x := i7) rfl ?_
  refine r_if_le (pc := 33) d_Ch_setSlips_33 (tgt := 75) (by decide) (fun c1 => ?_) (fun c1 => ?_)
  · replace h := h.1 c1
    refine r_aload_n (pc := 75) d_Ch_setSlips_75 (x := a) rfl ?_
    obtain ⟨r2, er2, h⟩ := h
    refine r_getR (pc := 76) d_Ch_setSlips_76 f_Ch_15 sa (Or.inr ⟨_, rfl⟩) (r := r2) er2 ?_
    refine r_iconst (pc := 79) d_Ch_setSlips_79 (v := 0) (by decide) ?_
    refine r_dup2 (pc := 80) d_Ch_setSlips_80 rfl rfl ?_
    obtain ⟨n4, s3, h⟩ := h
    obtain ⟨g5, h⟩ := h
    refine r_lald (pc := 81) d_Ch_setSlips_81 s3 g5 ?_
    refine r_bipush (pc := 82) d_Ch_setSlips_82 (v := 16) (by decide) ?_
    refine r_iload_n (pc := 84) d_Ch_setSlips_84 (x := i1) rfl ?_
    refine r_isub (pc := 85) d_Ch_setSlips_85 ?_
    refine r_i2l (pc := 86) d_Ch_setSlips_86 ?_
    refine r_lmul (pc := 87) d_Ch_setSlips_87 ?_
    obtain ⟨g6, h⟩ := h
    refine r_last (pc := 88) d_Ch_setSlips_88 s3 g6 ?_
    refine r_lload (pc := 89) d_Ch_setSlips_89 (x := i4) rfl ?_
    refine r_ldc2 (pc := 91) d_Ch_setSlips_91 cl_Ch_35 ?_
    refine r_lmul (pc := 94) d_Ch_setSlips_94 ?_
    refine r_lstore (pc := 95) (hd := d_Ch_setSlips_95) (hi := by decide) (ls2 := [.ref a, .int i1, .int i2, .int i3, .long (i4 * (16 : Int64)), .null, .int i6, .int i7, .null]) (h2 := rfl) ?_
    refine r_iinc (pc := 97) d_Ch_setSlips_97 (hi := by decide) (x := i6) rfl (v := i6 + 1) rfl (ls2 := [.ref a, .int i1, .int i2, .int i3, .long (i4 * (16 : Int64)), .null, .int (i6 + 1), .int i7, .null]) rfl ?_
    refine r_goto (pc := 100) d_Ch_setSlips_100 (tgt := 21) (by decide) ?_
    exact r_weak (ls2 := [.ref a, .int i1, .int i2, .int i3, .long (i4 * (16 : Int64)), .null, .int (i6 + 1), .null, .null]) ⟨Or.inr rfl, Or.inr rfl, Or.inr rfl, Or.inr rfl, Or.inr rfl, Or.inl rfl, Or.inr rfl, Or.inl rfl, Or.inl rfl, trivial⟩ h
  · replace h := h.2 c1
    refine r_aload_n (pc := 36) d_Ch_setSlips_36 (x := a) rfl ?_
    obtain ⟨r7, er7, h⟩ := h
    refine r_getR (pc := 37) d_Ch_setSlips_37 f_Ch_15 sa (Or.inr ⟨_, rfl⟩) (r := r7) er7 ?_
    refine r_iload (pc := 40) d_Ch_setSlips_40 (x := i7) rfl ?_
    refine r_aload_n (pc := 42) d_Ch_setSlips_42 (x := a) rfl ?_
    refine r_getR (pc := 43) d_Ch_setSlips_43 f_Ch_15 sa (Or.inr ⟨_, rfl⟩) (r := r7) er7 ?_
    refine r_iload (pc := 46) d_Ch_setSlips_46 (x := i7) rfl ?_
    obtain ⟨n9, s8, h⟩ := h
    obtain ⟨g10, h⟩ := h
    refine r_lald (pc := 48) d_Ch_setSlips_48 s8 g10 ?_
    refine r_bipush (pc := 49) d_Ch_setSlips_49 (v := 16) (by decide) ?_
    refine r_iload_n (pc := 51) d_Ch_setSlips_51 (x := i1) rfl ?_
    refine r_isub (pc := 52) d_Ch_setSlips_52 ?_
    refine r_i2l (pc := 53) d_Ch_setSlips_53 ?_
    refine r_lmul (pc := 54) d_Ch_setSlips_54 ?_
    refine r_aload_n (pc := 55) d_Ch_setSlips_55 (x := a) rfl ?_
    refine r_getR (pc := 56) d_Ch_setSlips_56 f_Ch_15 sa (Or.inr ⟨_, rfl⟩) (r := r7) er7 ?_
    refine r_iload (pc := 59) d_Ch_setSlips_59 (x := i7) rfl ?_
    refine r_iconst (pc := 61) d_Ch_setSlips_61 (v := 1) (by decide) ?_
    refine r_isub (pc := 62) d_Ch_setSlips_62 ?_
    obtain ⟨g11, h⟩ := h
    refine r_lald (pc := 63) d_Ch_setSlips_63 s8 g11 ?_
    refine r_iload_n (pc := 64) d_Ch_setSlips_64 (x := i1) rfl ?_
    refine r_i2l (pc := 65) d_Ch_setSlips_65 ?_
    refine r_lmul (pc := 66) d_Ch_setSlips_66 ?_
    refine r_ladd (pc := 67) d_Ch_setSlips_67 ?_
    obtain ⟨g12, h⟩ := h
    refine r_last (pc := 68) d_Ch_setSlips_68 s8 g12 ?_
    refine r_iinc (pc := 69) d_Ch_setSlips_69 (hi := by decide) (x := i7) rfl (v := i7 + (-1)) rfl (ls2 := [.ref a, .int i1, .int i2, .int i3, .long i4, .null, .int i6, .int (i7 + (-1)), .null]) rfl ?_
    refine r_goto (pc := 72) d_Ch_setSlips_72 (tgt := 31) (by decide) ?_
    exact h
set_option maxRecDepth 4000 in
theorem e_Ch_set {l : Launch} {d : Nat} {sh : aw_SH} {S : aw_S} {P : aw_S → Prop} {a : Nat} {p0 : Int64} {p1 : Int64} (sa : sh[a]? = some (0, 10)) (h : Sp l m_Ch_commonDivisor d 0 0 [.long p0, .long p1] sh S (gL sh (fun x2 S1 => ((¬ (lg_cmp x2 0) = 0 → ¬ x2 = 0 ∧ ((¬ (lg_cmp x2 0) = 0 → ¬ x2 = 0 ∧ P (aw_uL (aw_uL S1 a 0 (p0 / x2)) a 1 (p1 / x2))) ∧ ((lg_cmp x2 0) = 0 → P (aw_uL (aw_uL S1 a 0 (p0 / x2)) a 1 1)))) ∧ ((lg_cmp x2 0) = 0 → ((¬ (lg_cmp x2 0) = 0 → ¬ x2 = 0 ∧ P (aw_uL (aw_uL S1 a 0 0) a 1 (p1 / x2))) ∧ ((lg_cmp x2 0) = 0 → P (aw_uL (aw_uL S1 a 0 0) a 1 1)))))))) : Sp l m_Ch_set (d + 1) 0 0 [.ref a, .long p0, .long p1] sh S (gV sh P) := by
  refine Sp.of k_Ch_set (ls := [.ref a, .long p0, .null, .long p1, .null, .null, .null]) rfl (Nat.le_of_ble_eq_true rfl) ?_
  refine r_lload_n (pc := 0) d_Ch_set_0 (x := p0) rfl ?_
  refine r_lload_n (pc := 1) d_Ch_set_1 (x := p1) rfl ?_
  refine r_callS (pc := 2) (k := 0) (As := [.long p0, .long p1]) (rest := []) (mc' := 0) (ms' := 0) lk_Ch_22 st_Ch_commonDivisor d_Ch_set_2 k_Ch_commonDivisor rfl rfl (Nat.le_of_ble_eq_true rfl) (by decide) (by decide) (Sp.mono h ?_)
  rintro rS1 shS1 S1 ⟨qS1, x2, uS1, h⟩
  subst uS1
  rw [qS1]
  refine r_lstore (pc := 5) (hd := d_Ch_set_5) (hi := by decide) (ls2 := [.ref a, .long p0, .null, .long p1, .null, .long x2, .null]) (h2 := rfl) ?_
  refine r_aload_n (pc := 7) d_Ch_set_7 (x := a) rfl ?_
  refine r_lload (pc := 8) d_Ch_set_8 (x := x2) rfl ?_
  refine r_lconst (pc := 10) d_Ch_set_10 (v := 0) (by decide) ?_
  refine r_lcmp (pc := 11) d_Ch_set_11 ?_
  refine r_if_ne (pc := 12) d_Ch_set_12 (tgt := 19) (by decide) (fun c3 => ?_) (fun c3 => ?_)
  · replace h := h.1 c3
    refine r_lload_n (pc := 19) d_Ch_set_19 (x := p0) rfl ?_
    refine r_lload (pc := 20) d_Ch_set_20 (x := x2) rfl ?_
    obtain ⟨g6, h⟩ := h
    refine r_ldiv (pc := 22) d_Ch_set_22 g6 ?_
    refine r_putL (pc := 23) d_Ch_set_23 f_Ch_26 sa rfl ?_
    refine r_aload_n (pc := 26) d_Ch_set_26 (x := a) rfl ?_
    refine r_lload (pc := 27) d_Ch_set_27 (x := x2) rfl ?_
    refine r_lconst (pc := 29) d_Ch_set_29 (v := 0) (by decide) ?_
    refine r_lcmp (pc := 30) d_Ch_set_30 ?_
    refine r_if_ne (pc := 31) d_Ch_set_31 (tgt := 38) (by decide) (fun c4 => ?_) (fun c4 => ?_)
    · replace h := h.1 c4
      refine r_lload_n (pc := 38) d_Ch_set_38 (x := p1) rfl ?_
      refine r_lload (pc := 39) d_Ch_set_39 (x := x2) rfl ?_
      obtain ⟨g5, h⟩ := h
      refine r_ldiv (pc := 41) d_Ch_set_41 g5 ?_
      refine r_putL (pc := 42) d_Ch_set_42 f_Ch_9 sa rfl ?_
      exact r_return (pc := 45) d_Ch_set_45 rfl rfl (Nat.le_refl _) ⟨rfl, rfl, h⟩
    · replace h := h.2 c4
      refine r_lconst (pc := 34) d_Ch_set_34 (v := 1) (by decide) ?_
      refine r_goto (pc := 35) d_Ch_set_35 (tgt := 42) (by decide) ?_
      refine r_putL (pc := 42) d_Ch_set_42 f_Ch_9 sa rfl ?_
      exact r_return (pc := 45) d_Ch_set_45 rfl rfl (Nat.le_refl _) ⟨rfl, rfl, h⟩
  · replace h := h.2 c3
    refine r_lconst (pc := 15) d_Ch_set_15 (v := 0) (by decide) ?_
    refine r_goto (pc := 16) d_Ch_set_16 (tgt := 23) (by decide) ?_
    refine r_putL (pc := 23) d_Ch_set_23 f_Ch_26 sa rfl ?_
    refine r_aload_n (pc := 26) d_Ch_set_26 (x := a) rfl ?_
    refine r_lload (pc := 27) d_Ch_set_27 (x := x2) rfl ?_
    refine r_lconst (pc := 29) d_Ch_set_29 (v := 0) (by decide) ?_
    refine r_lcmp (pc := 30) d_Ch_set_30 ?_
    refine r_if_ne (pc := 31) d_Ch_set_31 (tgt := 38) (by decide) (fun c7 => ?_) (fun c7 => ?_)
    · replace h := h.1 c7
      refine r_lload_n (pc := 38) d_Ch_set_38 (x := p1) rfl ?_
      refine r_lload (pc := 39) d_Ch_set_39 (x := x2) rfl ?_
      obtain ⟨g8, h⟩ := h
      refine r_ldiv (pc := 41) d_Ch_set_41 g8 ?_
      refine r_putL (pc := 42) d_Ch_set_42 f_Ch_9 sa rfl ?_
      exact r_return (pc := 45) d_Ch_set_45 rfl rfl (Nat.le_refl _) ⟨rfl, rfl, h⟩
    · replace h := h.2 c7
      refine r_lconst (pc := 34) d_Ch_set_34 (v := 1) (by decide) ?_
      refine r_goto (pc := 35) d_Ch_set_35 (tgt := 42) (by decide) ?_
      refine r_putL (pc := 42) d_Ch_set_42 f_Ch_9 sa rfl ?_
      exact r_return (pc := 45) d_Ch_set_45 rfl rfl (Nat.le_refl _) ⟨rfl, rfl, h⟩
set_option maxRecDepth 4000 in
theorem e_Ch_commonDivisor {l : Launch} {d : Nat} {sh : aw_SH} {S : aw_S} {P : Int64 → aw_S → Prop} {p0 : Int64} {p1 : Int64} (h : AW l m_Ch_commonDivisor (d + 1) 0 0 (gL sh P) 0 0 9 [.null, .null, .null, .null, .long p0, .null, .long p1, .null, .int 0, .null, .null] [] sh S) : Sp l m_Ch_commonDivisor (d + 1) 0 0 [.long p0, .long p1] sh S (gL sh P) := by
  refine Sp.of k_Ch_commonDivisor (ls := [.long p0, .null, .long p1, .null, .null, .null, .null, .null, .null, .null, .null]) rfl (Nat.le_of_ble_eq_true rfl) ?_
  refine r_lload_n (pc := 0) d_Ch_commonDivisor_0 (x := p0) rfl ?_
  refine r_lstore (pc := 1) (hd := d_Ch_commonDivisor_1) (hi := by decide) (ls2 := [.long p0, .null, .long p1, .null, .long p0, .null, .null, .null, .null, .null, .null]) (h2 := rfl) ?_
  refine r_lload_n (pc := 3) d_Ch_commonDivisor_3 (x := p1) rfl ?_
  refine r_lstore (pc := 4) (hd := d_Ch_commonDivisor_4) (hi := by decide) (ls2 := [.long p0, .null, .long p1, .null, .long p0, .null, .long p1, .null, .null, .null, .null]) (h2 := rfl) ?_
  refine r_iconst (pc := 6) d_Ch_commonDivisor_6 (v := 0) (by decide) ?_
  refine r_istore (pc := 7) (hd := d_Ch_commonDivisor_7) (hi := by decide) (ls2 := [.long p0, .null, .long p1, .null, .long p0, .null, .long p1, .null, .int 0, .null, .null]) (h2 := rfl) ?_
  exact r_weak (ls2 := [.null, .null, .null, .null, .long p0, .null, .long p1, .null, .int 0, .null, .null]) ⟨Or.inl rfl, Or.inl rfl, Or.inl rfl, Or.inl rfl, Or.inr rfl, Or.inl rfl, Or.inr rfl, Or.inl rfl, Or.inr rfl, Or.inl rfl, Or.inl rfl, trivial⟩ h
set_option maxRecDepth 4000 in
theorem s_Ch_commonDivisor_9 {l : Launch} {d : Nat} {sh : aw_SH} {S : aw_S} {P : Int64 → aw_S → Prop} {i4 : Int64} {i6 : Int64} {i8 : Int32} (h : ((100 ≤ i8 → P i4 S) ∧ (¬ 100 ≤ i8 → (((lg_cmp i6 0) = 0 → P i4 S) ∧ (¬ (lg_cmp i6 0) = 0 → ¬ i6 = 0 ∧ AW l m_Ch_commonDivisor (d + 1) 0 0 (gL sh P) 0 0 9 [.null, .null, .null, .null, .long i6, .null, .long (i4 - i4 / i6 * i6), .null, .int (i8 + 1), .null, .null] [] sh S))))) : AW l m_Ch_commonDivisor (d + 1) 0 0 (gL sh P) 0 0 9 [.null, .null, .null, .null, .long i4, .null, .long i6, .null, .int i8, .null, .null] [] sh S := by
  refine r_iload (pc := 9) d_Ch_commonDivisor_9 (x := i8) rfl ?_
  refine r_bipush (pc := 11) d_Ch_commonDivisor_11 (v := 100) (by decide) ?_
  refine r_icmp_ge (pc := 13) d_Ch_commonDivisor_13 (tgt := 44) (by decide) (fun c1 => ?_) (fun c1 => ?_)
  · replace h := h.1 c1
    refine r_lload (pc := 44) d_Ch_commonDivisor_44 (x := i4) rfl ?_
    exact r_lreturn (pc := 46) d_Ch_commonDivisor_46 rfl rfl (Nat.le_refl _) ⟨rfl, _, rfl, h⟩
  · replace h := h.2 c1
    refine r_lload (pc := 16) d_Ch_commonDivisor_16 (x := i6) rfl ?_
    refine r_lconst (pc := 18) d_Ch_commonDivisor_18 (v := 0) (by decide) ?_
    refine r_lcmp (pc := 19) d_Ch_commonDivisor_19 ?_
    refine r_if_eq (pc := 20) d_Ch_commonDivisor_20 (tgt := 44) (by decide) (fun c2 => ?_) (fun c2 => ?_)
    · replace h := h.1 c2
      refine r_lload (pc := 44) d_Ch_commonDivisor_44 (x := i4) rfl ?_
      exact r_lreturn (pc := 46) d_Ch_commonDivisor_46 rfl rfl (Nat.le_refl _) ⟨rfl, _, rfl, h⟩
    · replace h := h.2 c2
      refine r_lload (pc := 23) d_Ch_commonDivisor_23 (x := i4) rfl ?_
      refine r_lload (pc := 25) d_Ch_commonDivisor_25 (x := i6) rfl ?_
      obtain ⟨g3, h⟩ := h
      refine r_lrem (pc := 27) d_Ch_commonDivisor_27 g3 ?_
      refine r_lstore (pc := 28) (hd := d_Ch_commonDivisor_28) (hi := by decide) (ls2 := [.null, .null, .null, .null, .long i4, .null, .long i6, .null, .int i8, .long (i4 - i4 / i6 * i6), .null]) (h2 := rfl) ?_
      refine r_lload (pc := 30) d_Ch_commonDivisor_30 (x := i6) rfl ?_
      refine r_lstore (pc := 32) (hd := d_Ch_commonDivisor_32) (hi := by decide) (ls2 := [.null, .null, .null, .null, .long i6, .null, .long i6, .null, .int i8, .long (i4 - i4 / i6 * i6), .null]) (h2 := rfl) ?_
      refine r_lload (pc := 34) d_Ch_commonDivisor_34 (x := (i4 - i4 / i6 * i6)) rfl ?_
      refine r_lstore (pc := 36) (hd := d_Ch_commonDivisor_36) (hi := by decide) (ls2 := [.null, .null, .null, .null, .long i6, .null, .long (i4 - i4 / i6 * i6), .null, .int i8, .long (i4 - i4 / i6 * i6), .null]) (h2 := rfl) ?_
      refine r_iinc (pc := 38) d_Ch_commonDivisor_38 (hi := by decide) (x := i8) rfl (v := i8 + 1) rfl (ls2 := [.null, .null, .null, .null, .long i6, .null, .long (i4 - i4 / i6 * i6), .null, .int (i8 + 1), .long (i4 - i4 / i6 * i6), .null]) rfl ?_
      refine r_goto (pc := 41) d_Ch_commonDivisor_41 (tgt := 9) (by decide) ?_
      exact r_weak (ls2 := [.null, .null, .null, .null, .long i6, .null, .long (i4 - i4 / i6 * i6), .null, .int (i8 + 1), .null, .null]) ⟨Or.inl rfl, Or.inl rfl, Or.inl rfl, Or.inl rfl, Or.inr rfl, Or.inl rfl, Or.inr rfl, Or.inl rfl, Or.inr rfl, Or.inl rfl, Or.inl rfl, trivial⟩ h
set_option maxRecDepth 4000 in
theorem e_Ch_setDrift {l : Launch} {d : Nat} {sh : aw_SH} {S : aw_S} {P : aw_S → Prop} {a : Nat} {p0 : Nat} {p1 : Int32} {p2 : Int32} {p3 : Int32} (sa : sh[a]? = some (0, 10)) (h : ∃ r1, S.2.2 a 2 = some r1 ∧ Sp l m_Ar_fill_AJJV d 0 0 [.ref r1, .long 0] sh S (gV sh (fun S2 => ∃ r3, S2.2.2 a 2 = some r3 ∧ ∃ n5, sh[r3]? = some (4, n5) ∧ vp_in p1 n5 ∧ sh[p0]? = some (0, 2) ∧ Sp l m_Gr_gaps d 0 0 [.ref p0] sh (aw_uL S2 r3 p1.toNatClampNeg 1) (gI sh (fun x9 S8 => AW l m_Ch_setDrift (d + 1) 0 0 (gV sh P) 0 0 27 [.ref a, .ref p0, .null, .int p2, .int p3, .long 1, .null, .int x9, .int 0, .null, .null] [] sh S8))))) : Sp l m_Ch_setDrift (d + 1) 0 0 [.ref a, .ref p0, .int p1, .int p2, .int p3] sh S (gV sh P) := by
  refine Sp.of k_Ch_setDrift (ls := [.ref a, .ref p0, .int p1, .int p2, .int p3, .null, .null, .null, .null, .null, .null]) rfl (Nat.le_of_ble_eq_true rfl) ?_
  refine r_aload_n (pc := 0) d_Ch_setDrift_0 (x := a) rfl ?_
  obtain ⟨r1, er1, h⟩ := h
  refine r_getR (pc := 1) d_Ch_setDrift_1 f_Ch_15 sa (Or.inr ⟨_, rfl⟩) (r := r1) er1 ?_
  refine r_lconst (pc := 4) d_Ch_setDrift_4 (v := 0) (by decide) ?_
  refine r_callS (pc := 5) (k := 0) (As := [.ref r1, .long 0]) (rest := []) (mc' := 0) (ms' := 0) lk_Ch_29 st_Ar_fill_AJJV d_Ch_setDrift_5 k_Ar_fill_AJJV rfl rfl (Nat.le_of_ble_eq_true rfl) (by decide) (by decide) (Sp.mono h ?_)
  rintro rS2 shS2 S2 ⟨qS2, uS2, h⟩
  subst uS2
  rw [qS2]
  refine r_aload_n (pc := 8) d_Ch_setDrift_8 (x := a) rfl ?_
  obtain ⟨r3, er3, h⟩ := h
  refine r_getR (pc := 9) d_Ch_setDrift_9 f_Ch_15 sa (Or.inr ⟨_, rfl⟩) (r := r3) er3 ?_
  refine r_iload_n (pc := 12) d_Ch_setDrift_12 (x := p1) rfl ?_
  refine r_lconst (pc := 13) d_Ch_setDrift_13 (v := 1) (by decide) ?_
  obtain ⟨n5, s4, h⟩ := h
  obtain ⟨g6, h⟩ := h
  refine r_last (pc := 14) d_Ch_setDrift_14 s4 g6 ?_
  refine r_lconst (pc := 15) d_Ch_setDrift_15 (v := 1) (by decide) ?_
  refine r_lstore (pc := 16) (hd := d_Ch_setDrift_16) (hi := by decide) (ls2 := [.ref a, .ref p0, .int p1, .int p2, .int p3, .long 1, .null, .null, .null, .null, .null]) (h2 := rfl) ?_
  refine r_aload_n (pc := 18) d_Ch_setDrift_18 (x := p0) rfl ?_
  obtain ⟨s7, h⟩ := h
  refine r_callV (pc := 19) (k := p0) (As := []) (rest := []) (mc' := 0) (ms' := 0) lk_Ch_41 in_Gr_gaps se_Gr_gaps s7 rfl d_Ch_setDrift_19 k_Gr_gaps rfl rfl (Nat.le_of_ble_eq_true rfl) (by decide) (by decide) (Sp.mono h ?_)
  rintro rS8 shS8 S8 ⟨qS8, x9, uS8, h⟩
  subst uS8
  rw [qS8]
  refine r_istore (pc := 22) (hd := d_Ch_setDrift_22) (hi := by decide) (ls2 := [.ref a, .ref p0, .int p1, .int p2, .int p3, .long 1, .null, .int x9, .null, .null, .null]) (h2 := rfl) ?_
  refine r_iconst (pc := 24) d_Ch_setDrift_24 (v := 0) (by decide) ?_
  refine r_istore (pc := 25) (hd := d_Ch_setDrift_25) (hi := by decide) (ls2 := [.ref a, .ref p0, .int p1, .int p2, .int p3, .long 1, .null, .int x9, .int 0, .null, .null]) (h2 := rfl) ?_
  exact r_weak (ls2 := [.ref a, .ref p0, .null, .int p2, .int p3, .long 1, .null, .int x9, .int 0, .null, .null]) ⟨Or.inr rfl, Or.inr rfl, Or.inl rfl, Or.inr rfl, Or.inr rfl, Or.inr rfl, Or.inl rfl, Or.inr rfl, Or.inr rfl, Or.inl rfl, Or.inl rfl, trivial⟩ h
set_option maxRecDepth 4000 in
theorem s_Ch_setDrift_27 {l : Launch} {d : Nat} {sh : aw_SH} {S : aw_S} {P : aw_S → Prop} {a : Nat} {i1 : Nat} {i3 : Int32} {i4 : Int32} {i5 : Int64} {i7 : Int32} {i8 : Int32} (sa : sh[a]? = some (0, 10)) (h : ((i4 ≤ i8 → ∃ r2, S.2.2 a 2 = some r2 ∧ ∃ n4, sh[r2]? = some (4, n4) ∧ vp_in i3 n4 ∧ Sp l m_Ch_set d 0 0 [.ref a, .long (S.2.1 r2 i3.toNatClampNeg), .long i5] sh S (gV sh (fun S6 => P S6))) ∧ (¬ i4 ≤ i8 → ∃ r7, S.2.2 a 3 = some r7 ∧ Sp l m_Ar_fill_AJJV d 0 0 [.ref r7, .long 0] sh S (gV sh (fun S8 => AW l m_Ch_setDrift (d + 1) 0 0 (gV sh P) 0 0 45 [.ref a, .ref i1, .null, .int i3, .int i4, .long i5, .null, .int i7, .int i8, .int 0, .null] [] sh S8))))) : AW l m_Ch_setDrift (d + 1) 0 0 (gV sh P) 0 0 27 [.ref a, .ref i1, .null, .int i3, .int i4, .long i5, .null, .int i7, .int i8, .null, .null] [] sh S := by
  refine r_iload (pc := 27) d_Ch_setDrift_27 (x := i8) rfl ?_
  refine r_iload (pc := 29) d_Ch_setDrift_29 (x := i4) rfl ?_
  refine r_icmp_ge (pc := 31) d_Ch_setDrift_31 (tgt := 130) (by decide) (fun c1 => ?_) (fun c1 => ?_)
  · replace h := h.1 c1
    refine r_aload_n (pc := 130) d_Ch_setDrift_130 (x := a) rfl ?_
    refine r_aload_n (pc := 131) d_Ch_setDrift_131 (x := a) rfl ?_
    obtain ⟨r2, er2, h⟩ := h
    refine r_getR (pc := 132) d_Ch_setDrift_132 f_Ch_15 sa (Or.inr ⟨_, rfl⟩) (r := r2) er2 ?_
    refine r_iload_n (pc := 135) d_Ch_setDrift_135 (x := i3) rfl ?_
    obtain ⟨n4, s3, h⟩ := h
    obtain ⟨g5, h⟩ := h
    refine r_lald (pc := 136) d_Ch_setDrift_136 s3 g5 ?_
    refine r_lload (pc := 137) d_Ch_setDrift_137 (x := i5) rfl ?_
    refine r_callV (pc := 139) (k := a) (As := [.long (S.2.1 r2 i3.toNatClampNeg), .long i5]) (rest := []) (mc' := 0) (ms' := 0) lk_Ch_37 in_Ch_set se_Ch_set sa rfl d_Ch_setDrift_139 k_Ch_set rfl rfl (Nat.le_of_ble_eq_true rfl) (by decide) (by decide) (Sp.mono h ?_)
    rintro rS6 shS6 S6 ⟨qS6, uS6, h⟩
    subst uS6
    rw [qS6]
    exact r_return (pc := 142) d_Ch_setDrift_142 rfl rfl (Nat.le_refl _) ⟨rfl, rfl, h⟩
  · replace h := h.2 c1
    refine r_aload_n (pc := 34) d_Ch_setDrift_34 (x := a) rfl ?_
    obtain ⟨r7, er7, h⟩ := h
    refine r_getR (pc := 35) d_Ch_setDrift_35 f_Ch_19 sa (Or.inr ⟨_, rfl⟩) (r := r7) er7 ?_
    refine r_lconst (pc := 38) d_Ch_setDrift_38 (v := 0) (by decide) ?_
    refine r_callS (pc := 39) (k := 0) (As := [.ref r7, .long 0]) (rest := []) (mc' := 0) (ms' := 0) lk_Ch_29 st_Ar_fill_AJJV d_Ch_setDrift_39 k_Ar_fill_AJJV rfl rfl (Nat.le_of_ble_eq_true rfl) (by decide) (by decide) (Sp.mono h ?_)
    rintro rS8 shS8 S8 ⟨qS8, uS8, h⟩
    subst uS8
    rw [qS8]
    refine r_iconst (pc := 42) d_Ch_setDrift_42 (v := 0) (by decide) ?_
    refine r_istore (pc := 43) (hd := d_Ch_setDrift_43) (hi := by decide) (ls2 := [.ref a, .ref i1, .null, .int i3, .int i4, .long i5, .null, .int i7, .int i8, .int 0, .null]) (h2 := rfl) ?_
    exact h
set_option maxRecDepth 4000 in
theorem s_Ch_setDrift_45 {l : Launch} {d : Nat} {sh : aw_SH} {S : aw_S} {P : aw_S → Prop} {a : Nat} {i1 : Nat} {i3 : Int32} {i4 : Int32} {i5 : Int64} {i7 : Int32} {i8 : Int32} {i9 : Int32} (sa : sh[a]? = some (0, 10)) (h : sh[i1]? = some (0, 2) ∧ (((S.1 i1 0) ≤ i9 → ∃ r3, S.2.2 a 3 = some r3 ∧ ∃ r4, S.2.2 a 2 = some r4 ∧ ∃ n6, sh[r3]? = some (4, n6) ∧ ∃ n8, sh[r4]? = some (4, n8) ∧ ¬ (0 : Int32) < 0 ∧ ¬ (0 : Int32) < 0 ∧ ¬ (S.1 i1 0 : Int32) < 0 ∧ (0 : Int32).toNatClampNeg + (S.1 i1 0 : Int32).toNatClampNeg ≤ n6 ∧ (0 : Int32).toNatClampNeg + (S.1 i1 0 : Int32).toNatClampNeg ≤ n8 ∧ AW l m_Ch_setDrift (d + 1) 0 0 (gV sh P) 0 0 27 [.ref a, .ref i1, .null, .int i3, .int i4, .long (i5 * i7.toInt64), .null, .int i7, .int (i8 + 1), .null, .null] [] sh (aw_cpl S r3 r4 0 0 (S.1 i1 0))) ∧ (¬ (S.1 i1 0) ≤ i9 → AW l m_Ch_setDrift (d + 1) 0 0 (gV sh P) 0 0 57 [.ref a, .ref i1, .null, .int i3, .int i4, .long i5, .null, .int i7, .int i8, .int i9, .int 0] [] sh S))) : AW l m_Ch_setDrift (d + 1) 0 0 (gV sh P) 0 0 45 [.ref a, .ref i1, .null, .int i3, .int i4, .long i5, .null, .int i7, .int i8, .int i9, .null] [] sh S := by
  refine r_iload (pc := 45) d_Ch_setDrift_45 (x := i9) rfl ?_
  refine r_aload_n (pc := 47) d_Ch_setDrift_47 (x := i1) rfl ?_
  obtain ⟨s1, h⟩ := h
  refine r_getI (pc := 48) d_Ch_setDrift_48 f_Ch_47 s1 rfl ?_
  refine r_icmp_ge (pc := 51) d_Ch_setDrift_51 (tgt := 99) (by decide) (fun c2 => ?_) (fun c2 => ?_)
  · replace h := h.1 c2
    refine r_aload_n (pc := 99) d_Ch_setDrift_99 (x := a) rfl ?_
    obtain ⟨r3, er3, h⟩ := h
    refine r_getR (pc := 100) d_Ch_setDrift_100 f_Ch_19 sa (Or.inr ⟨_, rfl⟩) (r := r3) er3 ?_
    refine r_iconst (pc := 103) d_Ch_setDrift_103 (v := 0) (by decide) ?_
    refine r_aload_n (pc := 104) d_Ch_setDrift_104 (x := a) rfl ?_
    obtain ⟨r4, er4, h⟩ := h
    refine r_getR (pc := 105) d_Ch_setDrift_105 f_Ch_15 sa (Or.inr ⟨_, rfl⟩) (r := r4) er4 ?_
    refine r_iconst (pc := 108) d_Ch_setDrift_108 (v := 0) (by decide) ?_
    refine r_aload_n (pc := 109) d_Ch_setDrift_109 (x := i1) rfl ?_
    refine r_getI (pc := 110) d_Ch_setDrift_110 f_Ch_47 s1 rfl ?_
    obtain ⟨n6, s5, h⟩ := h
    obtain ⟨n8, s7, h⟩ := h
    obtain ⟨g9, g10, g11, g12, g13, h⟩ := h
    refine r_copyl (pc := 113) d_Ch_setDrift_113 ck_Ch_55 s5 s7 g9 g10 g11 g12 g13 (Nat.le_of_ble_eq_true rfl) ?_
    refine r_lload (pc := 116) d_Ch_setDrift_116 (x := i5) rfl ?_
    refine r_iload (pc := 118) d_Ch_setDrift_118 (x := i7) rfl ?_
    refine r_i2l (pc := 120) d_Ch_setDrift_120 ?_
    refine r_lmul (pc := 121) d_Ch_setDrift_121 ?_
    refine r_lstore (pc := 122) (hd := d_Ch_setDrift_122) (hi := by decide) (ls2 := [.ref a, .ref i1, .null, .int i3, .int i4, .long (i5 * i7.toInt64), .null, .int i7, .int i8, .int i9, .null]) (h2 := rfl) ?_
    refine r_iinc (pc := 124) d_Ch_setDrift_124 (hi := by decide) (x := i8) rfl (v := i8 + 1) rfl (ls2 := [.ref a, .ref i1, .null, .int i3, .int i4, .long (i5 * i7.toInt64), .null, .int i7, .int (i8 + 1), .int i9, .null]) rfl ?_
    refine r_goto (pc := 127) d_Ch_setDrift_127 (tgt := 27) (by decide) ?_
    exact r_weak (ls2 := [.ref a, .ref i1, .null, .int i3, .int i4, .long (i5 * i7.toInt64), .null, .int i7, .int (i8 + 1), .null, .null]) ⟨Or.inr rfl, Or.inr rfl, Or.inl rfl, Or.inr rfl, Or.inr rfl, Or.inr rfl, Or.inl rfl, Or.inr rfl, Or.inr rfl, Or.inl rfl, Or.inl rfl, trivial⟩ h
  · replace h := h.2 c2
    refine r_iconst (pc := 54) d_Ch_setDrift_54 (v := 0) (by decide) ?_
    refine r_istore (pc := 55) (hd := d_Ch_setDrift_55) (hi := by decide) (ls2 := [.ref a, .ref i1, .null, .int i3, .int i4, .long i5, .null, .int i7, .int i8, .int i9, .int 0]) (h2 := rfl) ?_
    exact h
set_option maxRecDepth 4000 in
theorem s_Ch_setDrift_57 {l : Launch} {d : Nat} {sh : aw_SH} {S : aw_S} {P : aw_S → Prop} {a : Nat} {i1 : Nat} {i3 : Int32} {i4 : Int32} {i5 : Int64} {i7 : Int32} {i8 : Int32} {i9 : Int32} {i10 : Int32} (sa : sh[a]? = some (0, 10)) (h : ((i7 ≤ i10 → AW l m_Ch_setDrift (d + 1) 0 0 (gV sh P) 0 0 45 [.ref a, .ref i1, .null, .int i3, .int i4, .long i5, .null, .int i7, .int i8, .int (i9 + 1), .null] [] sh S) ∧ (¬ i7 ≤ i10 → ∃ r2, S.2.2 a 3 = some r2 ∧ sh[i1]? = some (0, 2) ∧ Sp l m_Gr_placeBehind d 0 0 [.ref i1, .int i9, .int i10] sh S (gI sh (fun x5 S4 => ∃ n7, sh[r2]? = some (4, n7) ∧ vp_in x5 n7 ∧ ∃ r9, S4.2.2 a 2 = some r9 ∧ ∃ n11, sh[r9]? = some (4, n11) ∧ vp_in i9 n11 ∧ vp_in x5 n7 ∧ AW l m_Ch_setDrift (d + 1) 0 0 (gV sh P) 0 0 57 [.ref a, .ref i1, .null, .int i3, .int i4, .long i5, .null, .int i7, .int i8, .int i9, .int (i10 + 1)] [] sh (aw_uL S4 r2 x5.toNatClampNeg ((S4.2.1 r2 x5.toNatClampNeg) + (S4.2.1 r9 i9.toNatClampNeg)))))))) : AW l m_Ch_setDrift (d + 1) 0 0 (gV sh P) 0 0 57 [.ref a, .ref i1, .null, .int i3, .int i4, .long i5, .null, .int i7, .int i8, .int i9, .int i10] [] sh S := by
  refine r_iload (pc := 57) d_Ch_setDrift_57 (x := i10) rfl ?_
  refine r_iload (pc := 59) d_Ch_setDrift_59 (x := i7) rfl ?_
  refine r_icmp_ge (pc := 61) d_Ch_setDrift_61 (tgt := 93) (by decide) (fun c1 => ?_) (fun c1 => ?_)
  · replace h := h.1 c1
    refine r_iinc (pc := 93) d_Ch_setDrift_93 (hi := by decide) (x := i9) rfl (v := i9 + 1) rfl (ls2 := [.ref a, .ref i1, .null, .int i3, .int i4, .long i5, .null, .int i7, .int i8, .int (i9 + 1), .int i10]) rfl ?_
    refine r_goto (pc := 96) d_Ch_setDrift_96 (tgt := 45) (by decide) ?_
    exact r_weak (ls2 := [.ref a, .ref i1, .null, .int i3, .int i4, .long i5, .null, .int i7, .int i8, .int (i9 + 1), .null]) ⟨Or.inr rfl, Or.inr rfl, Or.inl rfl, Or.inr rfl, Or.inr rfl, Or.inr rfl, Or.inl rfl, Or.inr rfl, Or.inr rfl, Or.inr rfl, Or.inl rfl, trivial⟩ h
  · replace h := h.2 c1
    refine r_aload_n (pc := 64) d_Ch_setDrift_64 (x := a) rfl ?_
    obtain ⟨r2, er2, h⟩ := h
    refine r_getR (pc := 65) d_Ch_setDrift_65 f_Ch_19 sa (Or.inr ⟨_, rfl⟩) (r := r2) er2 ?_
    refine r_aload_n (pc := 68) d_Ch_setDrift_68 (x := i1) rfl ?_
    refine r_iload (pc := 69) d_Ch_setDrift_69 (x := i9) rfl ?_
    refine r_iload (pc := 71) d_Ch_setDrift_71 (x := i10) rfl ?_
    obtain ⟨s3, h⟩ := h
    refine r_callV (pc := 73) (k := i1) (As := [.int i9, .int i10]) (rest := [.ref r2]) (mc' := 0) (ms' := 0) lk_Ch_51 in_Gr_placeBehind se_Gr_placeBehind s3 rfl d_Ch_setDrift_73 k_Gr_placeBehind rfl rfl (Nat.le_of_ble_eq_true rfl) (by decide) (by decide) (Sp.mono h ?_)
    rintro rS4 shS4 S4 ⟨qS4, x5, uS4, h⟩
    subst uS4
    rw [qS4]
    refine r_dup2 (pc := 76) d_Ch_setDrift_76 rfl rfl ?_
    obtain ⟨n7, s6, h⟩ := h
    obtain ⟨g8, h⟩ := h
    refine r_lald (pc := 77) d_Ch_setDrift_77 s6 g8 ?_
    refine r_aload_n (pc := 78) d_Ch_setDrift_78 (x := a) rfl ?_
    obtain ⟨r9, er9, h⟩ := h
    refine r_getR (pc := 79) d_Ch_setDrift_79 f_Ch_15 sa (Or.inr ⟨_, rfl⟩) (r := r9) er9 ?_
    refine r_iload (pc := 82) d_Ch_setDrift_82 (x := i9) rfl ?_
    obtain ⟨n11, s10, h⟩ := h
    obtain ⟨g12, h⟩ := h
    refine r_lald (pc := 84) d_Ch_setDrift_84 s10 g12 ?_
    refine r_ladd (pc := 85) d_Ch_setDrift_85 ?_
    obtain ⟨g13, h⟩ := h
    refine r_last (pc := 86) d_Ch_setDrift_86 s6 g13 ?_
    refine r_iinc (pc := 87) d_Ch_setDrift_87 (hi := by decide) (x := i10) rfl (v := i10 + 1) rfl (ls2 := [.ref a, .ref i1, .null, .int i3, .int i4, .long i5, .null, .int i7, .int i8, .int i9, .int (i10 + 1)]) rfl ?_
    refine r_goto (pc := 90) d_Ch_setDrift_90 (tgt := 57) (by decide) ?_
    exact h
