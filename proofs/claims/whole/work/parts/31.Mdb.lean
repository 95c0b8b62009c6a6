set_option maxRecDepth 4000 in
theorem e_Md_inWords {l : Launch} {d : Nat} {sh : aw_SH} {S : aw_S} {P : Int32 → aw_S → Prop} {a : Nat} {p0 : UInt32} (sa : sh[a]? = some (0, 11)) (hp0 : p0 = 1 ∨ p0 = 2) (h : (((S.1 a 12) = 2 → AW l m_Md_inWords (d + 1) 0 0 (gI sh P) 0 0 14 [.ref a, .float p0, .int 0, .int 1, .null, .null, .null] [] sh S) ∧ (¬ (S.1 a 12) = 2 → P (-1) S))) : Sp l m_Md_inWords (d + 1) 0 0 [.ref a, .float p0] sh S (gI sh P) := by
  refine Sp.of k_Md_inWords (ls := [.ref a, .float p0, .null, .null, .null, .null, .null]) rfl (Nat.le_of_ble_eq_true rfl) ?_
  refine r_aload_n (pc := 0) d_Md_inWords_0 (x := a) rfl ?_
  refine r_getI (pc := 1) d_Md_inWords_1 f_Md_163 sa rfl ?_
  refine r_iconst (pc := 4) d_Md_inWords_4 (v := 2) (by decide) ?_
  refine r_icmp_eq (pc := 5) d_Md_inWords_5 (tgt := 10) (by decide) (fun c1 => ?_) (fun c1 => ?_)
  · replace h := h.1 c1
    refine r_iconst (pc := 10) d_Md_inWords_10 (v := 0) (by decide) ?_
    refine r_istore_n (pc := 11) (hk := rfl) (hd := d_Md_inWords_11) (hi := by decide) (ls2 := [.ref a, .float p0, .int 0, .null, .null, .null, .null]) (h2 := rfl) ?_
    refine r_iconst (pc := 12) d_Md_inWords_12 (v := 1) (by decide) ?_
    refine r_istore_n (pc := 13) (hk := rfl) (hd := d_Md_inWords_13) (hi := by decide) (ls2 := [.ref a, .float p0, .int 0, .int 1, .null, .null, .null]) (h2 := rfl) ?_
    exact h
  · replace h := h.2 c1
    refine r_iconst (pc := 8) d_Md_inWords_8 (v := (-1)) (by decide) ?_
    exact r_ireturn (pc := 9) d_Md_inWords_9 rfl rfl (Nat.le_refl _) ⟨rfl, _, rfl, h⟩
set_option maxRecDepth 4000 in
theorem s_Md_inWords_14 {l : Launch} {d : Nat} {sh : aw_SH} {S : aw_S} {P : Int32 → aw_S → Prop} {a : Nat} {i1 : UInt32} {i2 : Int32} {i3 : Int32} (sa : sh[a]? = some (0, 11)) (hi1 : i1 = 1 ∨ i1 = 2) (h : Sp l m_St_length d 0 0 [.float i1] sh S (gI sh (fun x2 S1 => ((x2 ≤ i3 → P (-1) S1) ∧ (¬ x2 ≤ i3 → AW l m_Md_inWords (d + 1) 0 0 (gI sh P) 0 0 25 [.ref a, .float i1, .int i2, .int i3, .int i3, .null, .null] [] sh S1))))) : AW l m_Md_inWords (d + 1) 0 0 (gI sh P) 0 0 14 [.ref a, .float i1, .int i2, .int i3, .null, .null, .null] [] sh S := by
  refine r_iload_n (pc := 14) d_Md_inWords_14 (x := i3) rfl ?_
  refine r_aload_nX (pc := 15) d_Md_inWords_15 (x := i1) rfl ?_
  refine r_callX (pc := 16) (k := 0) (w := i1) (As := []) (rest := [.int i3]) (mc' := 0) (ms' := 0) lk_Md_178 in_St_length se_St_length hi1 rfl d_Md_inWords_16 k_St_length rfl rfl (Nat.le_of_ble_eq_true rfl) (by decide) (by decide) (Sp.mono h ?_)
  rintro rS1 shS1 S1 ⟨qS1, x2, uS1, h⟩
  subst uS1
  rw [qS1]
  refine r_icmp_ge (pc := 19) d_Md_inWords_19 (tgt := 133) (by decide) (fun c3 => ?_) (fun c3 => ?_)
  · replace h := h.1 c3
    refine r_iconst (pc := 133) d_Md_inWords_133 (v := (-1)) (by decide) ?_
    exact r_ireturn (pc := 134) d_Md_inWords_134 rfl rfl (Nat.le_refl _) ⟨rfl, _, rfl, h⟩
  · replace h := h.2 c3
    refine r_iload_n (pc := 22) d_Md_inWords_22 (x := i3) rfl ?_
    refine r_istore (pc := 23) (hd := d_Md_inWords_23) (hi := by decide) (ls2 := [.ref a, .float i1, .int i2, .int i3, .int i3, .null, .null]) (h2 := rfl) ?_
    exact h
set_option maxRecDepth 4000 in
theorem s_Md_inWords_25 {l : Launch} {d : Nat} {sh : aw_SH} {S : aw_S} {P : Int32 → aw_S → Prop} {a : Nat} {i1 : UInt32} {i2 : Int32} {i3 : Int32} {i4 : Int32} (sa : sh[a]? = some (0, 11)) (hi1 : i1 = 1 ∨ i1 = 2) (h : Sp l m_St_charAt d 0 0 [.float i1, .int i4] sh S (gI sh (fun x2 S1 => ((x2 = 32 → ((¬ (i4 - i3) = ((S1.1 a 14) - (S1.1 a 13)) → AW l m_Md_inWords (d + 1) 0 0 (gI sh P) 0 0 68 [.ref a, .float i1, .int i2, .int i3, .int i4, .int 0, .int i3] [] sh S1) ∧ ((i4 - i3) = ((S1.1 a 14) - (S1.1 a 13)) → AW l m_Md_inWords (d + 1) 0 0 (gI sh P) 0 0 68 [.ref a, .float i1, .int i2, .int i3, .int i4, .int 1, .int i3] [] sh S1))) ∧ (¬ x2 = 32 → AW l m_Md_inWords (d + 1) 0 0 (gI sh P) 0 0 25 [.ref a, .float i1, .int i2, .int i3, .int (i4 + 1), .null, .null] [] sh S1))))) : AW l m_Md_inWords (d + 1) 0 0 (gI sh P) 0 0 25 [.ref a, .float i1, .int i2, .int i3, .int i4, .null, .null] [] sh S := by
  refine r_aload_nX (pc := 25) d_Md_inWords_25 (x := i1) rfl ?_
  refine r_iload (pc := 26) d_Md_inWords_26 (x := i4) rfl ?_
  refine r_callX (pc := 28) (k := 0) (w := i1) (As := [.int i4]) (rest := []) (mc' := 0) (ms' := 0) lk_Md_184 in_St_charAt se_St_charAt hi1 rfl d_Md_inWords_28 k_St_charAt rfl rfl (Nat.le_of_ble_eq_true rfl) (by decide) (by decide) (Sp.mono h ?_)
  rintro rS1 shS1 S1 ⟨qS1, x2, uS1, h⟩
  subst uS1
  rw [qS1]
  refine r_bipush (pc := 31) d_Md_inWords_31 (v := 32) (by decide) ?_
  refine r_icmp_eq (pc := 33) d_Md_inWords_33 (tgt := 42) (by decide) (fun c3 => ?_) (fun c3 => ?_)
  · replace h := h.1 c3
    refine r_iload (pc := 42) d_Md_inWords_42 (x := i4) rfl ?_
    refine r_iload_n (pc := 44) d_Md_inWords_44 (x := i3) rfl ?_
    refine r_isub (pc := 45) d_Md_inWords_45 ?_
    refine r_aload_n (pc := 46) d_Md_inWords_46 (x := a) rfl ?_
    refine r_getI (pc := 47) d_Md_inWords_47 f_Md_151 sa rfl ?_
    refine r_aload_n (pc := 50) d_Md_inWords_50 (x := a) rfl ?_
    refine r_getI (pc := 51) d_Md_inWords_51 f_Md_157 sa rfl ?_
    refine r_isub (pc := 54) d_Md_inWords_54 ?_
    refine r_icmp_ne (pc := 55) d_Md_inWords_55 (tgt := 62) (by decide) (fun c4 => ?_) (fun c4 => ?_)
    · replace h := h.1 c4
      refine r_iconst (pc := 62) d_Md_inWords_62 (v := 0) (by decide) ?_
      refine r_istore (pc := 63) (hd := d_Md_inWords_63) (hi := by decide) (ls2 := [.ref a, .float i1, .int i2, .int i3, .int i4, .int 0, .null]) (h2 := rfl) ?_
      refine r_iload_n (pc := 65) d_Md_inWords_65 (x := i3) rfl ?_
      refine r_istore (pc := 66) (hd := d_Md_inWords_66) (hi := by decide) (ls2 := [.ref a, .float i1, .int i2, .int i3, .int i4, .int 0, .int i3]) (h2 := rfl) ?_
      exact h
    · replace h := h.2 c4
      refine r_iconst (pc := 58) d_Md_inWords_58 (v := 1) (by decide) ?_
      refine r_goto (pc := 59) d_Md_inWords_59 (tgt := 63) (by decide) ?_
      refine r_istore (pc := 63) (hd := d_Md_inWords_63) (hi := by decide) (ls2 := [.ref a, .float i1, .int i2, .int i3, .int i4, .int 1, .null]) (h2 := rfl) ?_
      refine r_iload_n (pc := 65) d_Md_inWords_65 (x := i3) rfl ?_
      refine r_istore (pc := 66) (hd := d_Md_inWords_66) (hi := by decide) (ls2 := [.ref a, .float i1, .int i2, .int i3, .int i4, .int 1, .int i3]) (h2 := rfl) ?_
      exact h
  · replace h := h.2 c3
    refine r_iinc (pc := 36) d_Md_inWords_36 (hi := by decide) (x := i4) rfl (v := i4 + 1) rfl (ls2 := [.ref a, .float i1, .int i2, .int i3, .int (i4 + 1), .null, .null]) rfl ?_
    refine r_goto (pc := 39) d_Md_inWords_39 (tgt := 25) (by decide) ?_
    exact h
set_option maxRecDepth 4000 in
theorem s_Md_inWords_68 {l : Launch} {d : Nat} {sh : aw_SH} {S : aw_S} {P : Int32 → aw_S → Prop} {a : Nat} {i1 : UInt32} {i2 : Int32} {i3 : Int32} {i4 : Int32} {i5 : Int32} {i6 : Int32} (sa : sh[a]? = some (0, 11)) (hi1 : i1 = 1 ∨ i1 = 2) (h : ((i4 ≤ i6 → ((i5 = 0 → AW l m_Md_inWords (d + 1) 0 0 (gI sh P) 0 0 14 [.ref a, .float i1, .int (i2 + 1), .int (i4 + (1 : Int32)), .null, .null, .null] [] sh S) ∧ (¬ i5 = 0 → P i2 S))) ∧ (¬ i4 ≤ i6 → ((i5 = 0 → ((i5 = 0 → AW l m_Md_inWords (d + 1) 0 0 (gI sh P) 0 0 14 [.ref a, .float i1, .int (i2 + 1), .int (i4 + (1 : Int32)), .null, .null, .null] [] sh S) ∧ (¬ i5 = 0 → P i2 S))) ∧ (¬ i5 = 0 → Sp l m_St_charAt d 0 0 [.float i1, .int i6] sh S (gI sh (fun x6 S5 => Sp l m_Md_byteAt d 0 0 [.ref a, .int (((S5.1 a 13) + i6) - i3)] sh S5 (gI sh (fun x8 S7 => ((¬ x6 = x8 → AW l m_Md_inWords (d + 1) 0 0 (gI sh P) 0 0 68 [.ref a, .float i1, .int i2, .int i3, .int i4, .int 0, .int (i6 + 1)] [] sh S7) ∧ (x6 = x8 → AW l m_Md_inWords (d + 1) 0 0 (gI sh P) 0 0 68 [.ref a, .float i1, .int i2, .int i3, .int i4, .int 1, .int (i6 + 1)] [] sh S7))))))))))) : AW l m_Md_inWords (d + 1) 0 0 (gI sh P) 0 0 68 [.ref a, .float i1, .int i2, .int i3, .int i4, .int i5, .int i6] [] sh S := by
  refine r_iload (pc := 68) d_Md_inWords_68 (x := i6) rfl ?_
  refine r_iload (pc := 70) d_Md_inWords_70 (x := i4) rfl ?_
  refine r_icmp_ge (pc := 72) d_Md_inWords_72 (tgt := 115) (by decide) (fun c1 => ?_) (fun c1 => ?_)
  · replace h := h.1 c1
    refine r_iload (pc := 115) d_Md_inWords_115 (x := i5) rfl ?_
    refine r_if_eq (pc := 117) d_Md_inWords_117 (tgt := 122) (by decide) (fun c2 => ?_) (fun c2 => ?_)
    · replace h := h.1 c2
      refine r_iinc (pc := 122) d_Md_inWords_122 (hi := by decide) (x := i2) rfl (v := i2 + 1) rfl (ls2 := [.ref a, .float i1, .int (i2 + 1), .int i3, .int i4, .int i5, .int i6]) rfl ?_
      refine r_iload (pc := 125) d_Md_inWords_125 (x := i4) rfl ?_
      refine r_iconst (pc := 127) d_Md_inWords_127 (v := 1) (by decide) ?_
      refine r_iadd (pc := 128) d_Md_inWords_128 ?_
      refine r_istore_n (pc := 129) (hk := rfl) (hd := d_Md_inWords_129) (hi := by decide) (ls2 := [.ref a, .float i1, .int (i2 + 1), .int (i4 + (1 : Int32)), .int i4, .int i5, .int i6]) (h2 := rfl) ?_
      refine r_goto (pc := 130) d_Md_inWords_130 (tgt := 14) (by decide) ?_
      exact r_weak (ls2 := [.ref a, .float i1, .int (i2 + 1), .int (i4 + (1 : Int32)), .null, .null, .null]) ⟨Or.inr rfl, Or.inr rfl, Or.inr rfl, Or.inr rfl, Or.inl rfl, Or.inl rfl, Or.inl rfl, trivial⟩ h
    · replace h := h.2 c2
      refine r_iload_n (pc := 120) d_Md_inWords_120 (x := i2) rfl ?_
      exact r_ireturn (pc := 121) d_Md_inWords_121 rfl rfl (Nat.le_refl _) ⟨rfl, _, rfl, h⟩
  · replace h := h.2 c1
    refine r_iload (pc := 75) d_Md_inWords_75 (x := i5) rfl ?_
    refine r_if_eq (pc := 77) d_Md_inWords_77 (tgt := 115) (by decide) (fun c3 => ?_) (fun c3 => ?_)
    · replace h := h.1 c3
      refine r_iload (pc := 115) d_Md_inWords_115 (x := i5) rfl ?_
      refine r_if_eq (pc := 117) d_Md_inWords_117 (tgt := 122) (by decide) (fun c4 => ?_) (fun c4 => ?_)
      · replace h := h.1 c4
        refine r_iinc (pc := 122) d_Md_inWords_122 (hi := by decide) (x := i2) rfl (v := i2 + 1) rfl (ls2 := [.ref a, .float i1, .int (i2 + 1), .int i3, .int i4, .int i5, .int i6]) rfl ?_
        refine r_iload (pc := 125) d_Md_inWords_125 (x := i4) rfl ?_
        refine r_iconst (pc := 127) d_Md_inWords_127 (v := 1) (by decide) ?_
        refine r_iadd (pc := 128) d_Md_inWords_128 ?_
        refine r_istore_n (pc := 129) (hk := rfl) (hd := d_Md_inWords_129) (hi := by decide) (ls2 := [.ref a, .float i1, .int (i2 + 1), .int (i4 + (1 : Int32)), .int i4, .int i5, .int i6]) (h2 := rfl) ?_
        refine r_goto (pc := 130) d_Md_inWords_130 (tgt := 14) (by decide) ?_
        exact r_weak (ls2 := [.ref a, .float i1, .int (i2 + 1), .int (i4 + (1 : Int32)), .null, .null, .null]) ⟨Or.inr rfl, Or.inr rfl, Or.inr rfl, Or.inr rfl, Or.inl rfl, Or.inl rfl, Or.inl rfl, trivial⟩ h
      · replace h := h.2 c4
        refine r_iload_n (pc := 120) d_Md_inWords_120 (x := i2) rfl ?_
        exact r_ireturn (pc := 121) d_Md_inWords_121 rfl rfl (Nat.le_refl _) ⟨rfl, _, rfl, h⟩
    · replace h := h.2 c3
      refine r_aload_nX (pc := 80) d_Md_inWords_80 (x := i1) rfl ?_
      refine r_iload (pc := 81) d_Md_inWords_81 (x := i6) rfl ?_
      refine r_callX (pc := 83) (k := 0) (w := i1) (As := [.int i6]) (rest := []) (mc' := 0) (ms' := 0) lk_Md_184 in_St_charAt se_St_charAt hi1 rfl d_Md_inWords_83 k_St_charAt rfl rfl (Nat.le_of_ble_eq_true rfl) (by decide) (by decide) (Sp.mono h ?_)
      rintro rS5 shS5 S5 ⟨qS5, x6, uS5, h⟩
      subst uS5
      rw [qS5]
      refine r_aload_n (pc := 86) d_Md_inWords_86 (x := a) rfl ?_
      refine r_aload_n (pc := 87) d_Md_inWords_87 (x := a) rfl ?_
      refine r_getI (pc := 88) d_Md_inWords_88 f_Md_157 sa rfl ?_
      refine r_iload (pc := 91) d_Md_inWords_91 (x := i6) rfl ?_
      refine r_iadd (pc := 93) d_Md_inWords_93 ?_
      refine r_iload_n (pc := 94) d_Md_inWords_94 (x := i3) rfl ?_
      refine r_isub (pc := 95) d_Md_inWords_95 ?_
      refine r_callV (pc := 96) (k := a) (As := [.int (((S5.1 a 13) + i6) - i3)]) (rest := [.int x6]) (mc' := 0) (ms' := 0) lk_Md_154 in_Md_byteAt se_Md_byteAt sa rfl d_Md_inWords_96 k_Md_byteAt rfl rfl (Nat.le_of_ble_eq_true rfl) (by decide) (by decide) (Sp.mono h ?_)
      rintro rS7 shS7 S7 ⟨qS7, x8, uS7, h⟩
      subst uS7
      rw [qS7]
      refine r_icmp_ne (pc := 99) d_Md_inWords_99 (tgt := 106) (by decide) (fun c9 => ?_) (fun c9 => ?_)
      · replace h := h.1 c9
        refine r_iconst (pc := 106) d_Md_inWords_106 (v := 0) (by decide) ?_
        refine r_istore (pc := 107) (hd := d_Md_inWords_107) (hi := by decide) (ls2 := [.ref a, .float i1, .int i2, .int i3, .int i4, .int 0, .int i6]) (h2 := rfl) ?_
        refine r_iinc (pc := 109) d_Md_inWords_109 (hi := by decide) (x := i6) rfl (v := i6 + 1) rfl (ls2 := [.ref a, .float i1, .int i2, .int i3, .int i4, .int 0, .int (i6 + 1)]) rfl ?_
        refine r_goto (pc := 112) d_Md_inWords_112 (tgt := 68) (by decide) ?_
        exact h
      · replace h := h.2 c9
        refine r_iconst (pc := 102) d_Md_inWords_102 (v := 1) (by decide) ?_
        refine r_goto (pc := 103) d_Md_inWords_103 (tgt := 107) (by decide) ?_
        refine r_istore (pc := 107) (hd := d_Md_inWords_107) (hi := by decide) (ls2 := [.ref a, .float i1, .int i2, .int i3, .int i4, .int 1, .int i6]) (h2 := rfl) ?_
        refine r_iinc (pc := 109) d_Md_inWords_109 (hi := by decide) (x := i6) rfl (v := i6 + 1) rfl (ls2 := [.ref a, .float i1, .int i2, .int i3, .int i4, .int 1, .int (i6 + 1)]) rfl ?_
        refine r_goto (pc := 112) d_Md_inWords_112 (tgt := 68) (by decide) ?_
        exact h
set_option maxRecDepth 4000 in
theorem e_Md_fails {l : Launch} {d : Nat} {sh : aw_SH} {S : aw_S} {P : Int32 → aw_S → Prop} {a : Nat} {p0 : Int32} (sa : sh[a]? = some (0, 11)) (h : ((¬ (S.1 a 18) = 0 → P 0 S) ∧ ((S.1 a 18) = 0 → ((¬ (S.1 a 12) = 1 → P 0 (aw_uI (aw_uI S a 18 p0) a 17 ((aw_uI S a 18 p0).1 a 13))) ∧ ((S.1 a 12) = 1 → P 0 (aw_uI (aw_uI S a 18 1) a 17 ((aw_uI S a 18 1).1 a 13))))))) : Sp l m_Md_fails (d + 1) 0 0 [.ref a, .int p0] sh S (gI sh P) := by
  refine Sp.of k_Md_fails (ls := [.ref a, .int p0]) rfl (Nat.le_of_ble_eq_true rfl) ?_
  refine r_aload_n (pc := 0) d_Md_fails_0 (x := a) rfl ?_
  refine r_getI (pc := 1) d_Md_fails_1 f_Md_188 sa rfl ?_
  refine r_if_ne (pc := 4) d_Md_fails_4 (tgt := 32) (by decide) (fun c1 => ?_) (fun c1 => ?_)
  · replace h := h.1 c1
    refine r_iconst (pc := 32) d_Md_fails_32 (v := 0) (by decide) ?_
    exact r_zreturn (pc := 33) d_Md_fails_33 (v := 0) rfl (by decide) rfl (Nat.le_refl _) ⟨rfl, _, rfl, h⟩
  · replace h := h.2 c1
    refine r_aload_n (pc := 7) d_Md_fails_7 (x := a) rfl ?_
    refine r_aload_n (pc := 8) d_Md_fails_8 (x := a) rfl ?_
    refine r_getI (pc := 9) d_Md_fails_9 f_Md_163 sa rfl ?_
    refine r_iconst (pc := 12) d_Md_fails_12 (v := 1) (by decide) ?_
    refine r_icmp_ne (pc := 13) d_Md_fails_13 (tgt := 20) (by decide) (fun c2 => ?_) (fun c2 => ?_)
    · replace h := h.1 c2
      refine r_iload_n (pc := 20) d_Md_fails_20 (x := p0) rfl ?_
      refine r_putI (pc := 21) d_Md_fails_21 f_Md_188 sa rfl ?_
      refine r_aload_n (pc := 24) d_Md_fails_24 (x := a) rfl ?_
      refine r_aload_n (pc := 25) d_Md_fails_25 (x := a) rfl ?_
      refine r_getI (pc := 26) d_Md_fails_26 f_Md_157 sa rfl ?_
      refine r_putI (pc := 29) d_Md_fails_29 f_Md_41 sa rfl ?_
      refine r_iconst (pc := 32) d_Md_fails_32 (v := 0) (by decide) ?_
      exact r_zreturn (pc := 33) d_Md_fails_33 (v := 0) rfl (by decide) rfl (Nat.le_refl _) ⟨rfl, _, rfl, h⟩
    · replace h := h.2 c2
      refine r_iconst (pc := 16) d_Md_fails_16 (v := 1) (by decide) ?_
      refine r_goto (pc := 17) d_Md_fails_17 (tgt := 21) (by decide) ?_
      refine r_putI (pc := 21) d_Md_fails_21 f_Md_188 sa rfl ?_
      refine r_aload_n (pc := 24) d_Md_fails_24 (x := a) rfl ?_
      refine r_aload_n (pc := 25) d_Md_fails_25 (x := a) rfl ?_
      refine r_getI (pc := 26) d_Md_fails_26 f_Md_157 sa rfl ?_
      refine r_putI (pc := 29) d_Md_fails_29 f_Md_41 sa rfl ?_
      refine r_iconst (pc := 32) d_Md_fails_32 (v := 0) (by decide) ?_
      exact r_zreturn (pc := 33) d_Md_fails_33 (v := 0) rfl (by decide) rfl (Nat.le_refl _) ⟨rfl, _, rfl, h⟩
set_option maxRecDepth 4000 in
theorem e_Md_isIn {l : Launch} {d : Nat} {sh : aw_SH} {S : aw_S} {P : Int32 → aw_S → Prop} {a : Nat} {p0 : Int32} {p1 : Int32} (sa : sh[a]? = some (0, 11)) (h : ((¬ ((p0 >>> (p1 &&& 31)) &&& (1 : Int32)) = 1 → P 0 S) ∧ (((p0 >>> (p1 &&& 31)) &&& (1 : Int32)) = 1 → P 1 S))) : Sp l m_Md_isIn (d + 1) 0 0 [.ref a, .int p0, .int p1] sh S (gI sh P) := by
  refine Sp.of k_Md_isIn (ls := [.ref a, .int p0, .int p1]) rfl (Nat.le_of_ble_eq_true rfl) ?_
  refine r_iload_n (pc := 0) d_Md_isIn_0 (x := p0) rfl ?_
  refine r_iload_n (pc := 1) d_Md_isIn_1 (x := p1) rfl ?_
  refine r_ishr (pc := 2) d_Md_isIn_2 ?_
  refine r_iconst (pc := 3) d_Md_isIn_3 (v := 1) (by decide) ?_
  refine r_iand (pc := 4) d_Md_isIn_4 ?_
  refine r_iconst (pc := 5) d_Md_isIn_5 (v := 1) (by decide) ?_
  refine r_icmp_ne (pc := 6) d_Md_isIn_6 (tgt := 13) (by decide) (fun c1 => ?_) (fun c1 => ?_)
  · replace h := h.1 c1
    refine r_iconst (pc := 13) d_Md_isIn_13 (v := 0) (by decide) ?_
    exact r_zreturn (pc := 14) d_Md_isIn_14 (v := 0) rfl (by decide) rfl (Nat.le_refl _) ⟨rfl, _, rfl, h⟩
  · replace h := h.2 c1
    refine r_iconst (pc := 9) d_Md_isIn_9 (v := 1) (by decide) ?_
    refine r_goto (pc := 10) d_Md_isIn_10 (tgt := 14) (by decide) ?_
    exact r_zreturn (pc := 14) d_Md_isIn_14 (v := 1) rfl (by decide) rfl (Nat.le_refl _) ⟨rfl, _, rfl, h⟩
set_option maxRecDepth 4000 in
theorem e_Md_aDancer {l : Launch} {d : Nat} {sh : aw_SH} {S : aw_S} {P : Int32 → aw_S → Prop} {a : Nat} (sa : sh[a]? = some (0, 11)) (h : ∃ r1, S.2.2 a 0 = some r1 ∧ ∃ n3, sh[r1]? = some (3, n3) ∧ vp_in 2208 n3 ∧ Sp l m_Md_isIn d 0 0 [.ref a, .int (S.1 a 20), .int 3] sh S (gI sh (fun x6 S5 => ((x6 = 0 → ((¬ (S.1 r1 (2208 : Int32).toNatClampNeg) = 7 → Sp l m_Md_ahead d 0 0 [.ref a] sh S5 (gV sh (fun S9 => Sp l m_Md_isName d 0 0 [.ref a, .float 2] sh S9 (gI sh (fun x11 S10 => ((¬ x11 = 0 → Sp l m_Md_findHere d 0 0 [.ref a, .int 28, .int (S.1 r1 (2208 : Int32).toNatClampNeg)] sh S10 (gI sh (fun x14 S13 => ((x14 = (-1) → ∃ r16, S13.2.2 a 1 = some r16 ∧ Sp l m_Md_nameHere d 0 0 [.ref a] sh S13 (gL sh (fun x18 S17 => ∃ n20, sh[r16]? = some (4, n20) ∧ vp_in ((28 : Int32) + (S.1 r1 (2208 : Int32).toNatClampNeg)) n20 ∧ Sp l m_Md_ahead d 0 0 [.ref a] sh (aw_uL S17 r16 (((28 : Int32) + (S.1 r1 (2208 : Int32).toNatClampNeg) : Int32).toNatClampNeg) x18) (gV sh (fun S22 => Sp l m_Md_wantWord d 0 0 [.ref a, .float 2, .int 4] sh S22 (gI sh (fun x24 S23 => ((x24 = 0 → P 0 S23) ∧ (¬ x24 = 0 → Sp l m_Md_number d 0 0 [.ref a, .int ((2218 : Int32) + (S.1 r1 (2208 : Int32).toNatClampNeg)), .int 0, .int 5] sh S23 (gI sh (fun x27 S26 => ((¬ x27 = 0 → ∃ r29, S26.2.2 a 0 = some r29 ∧ ∃ n31, sh[r29]? = some (3, n31) ∧ vp_in ((2225 : Int32) + (S.1 r1 (2208 : Int32).toNatClampNeg)) n31 ∧ vp_in 2208 n31 ∧ vp_in 2208 n31 ∧ P 1 (aw_uI (aw_uI S26 r29 (((2225 : Int32) + (S.1 r1 (2208 : Int32).toNatClampNeg) : Int32).toNatClampNeg) (S.1 r1 (2208 : Int32).toNatClampNeg)) r29 ((2208 : Int32).toNatClampNeg) (((aw_uI S26 r29 (((2225 : Int32) + (S.1 r1 (2208 : Int32).toNatClampNeg) : Int32).toNatClampNeg) (S.1 r1 (2208 : Int32).toNatClampNeg)).1 r29 (2208 : Int32).toNatClampNeg) + (1 : Int32)))) ∧ (x27 = 0 → P 0 S26))))))))))))) ∧ (¬ x14 = (-1) → Sp l m_Md_fails d 0 0 [.ref a, .int 3] sh S13 (gI sh (fun x36 S35 => ((x36 = 0 ∨ x36 = 1) ∧ P x36 S35)))))))) ∧ (x11 = 0 → Sp l m_Md_fails d 0 0 [.ref a, .int 2] sh S10 (gI sh (fun x39 S38 => ((x39 = 0 ∨ x39 = 1) ∧ P x39 S38)))))))))) ∧ ((S.1 r1 (2208 : Int32).toNatClampNeg) = 7 → Sp l m_Md_fails d 0 0 [.ref a, .int 6] sh S5 (gI sh (fun x42 S41 => ((x42 = 0 ∨ x42 = 1) ∧ P x42 S41)))))) ∧ (¬ x6 = 0 → Sp l m_Md_fails d 0 0 [.ref a, .int 5] sh S5 (gI sh (fun x45 S44 => ((x45 = 0 ∨ x45 = 1) ∧ P x45 S44)))))))) : Sp l m_Md_aDancer (d + 1) 0 0 [.ref a] sh S (gI sh P) := by
  refine Sp.of k_Md_aDancer (ls := [.ref a, .null]) rfl (Nat.le_of_ble_eq_true rfl) ?_
  refine r_aload_n (pc := 0) d_Md_aDancer_0 (x := a) rfl ?_
  obtain ⟨r1, er1, h⟩ := h
  refine r_getR (pc := 1) d_Md_aDancer_1 f_Md_7 sa (Or.inr ⟨_, rfl⟩) (r := r1) er1 ?_
  refine r_sipush (pc := 4) d_Md_aDancer_4 (v := 2208) (by decide) ?_
  obtain ⟨n3, s2, h⟩ := h
  obtain ⟨g4, h⟩ := h
  refine r_iald (pc := 7) d_Md_aDancer_7 s2 g4 ?_
  refine r_istore_n (pc := 8) (hk := rfl) (hd := d_Md_aDancer_8) (hi := by decide) (ls2 := [.ref a, .int (S.1 r1 (2208 : Int32).toNatClampNeg)]) (h2 := rfl) ?_
  refine r_aload_n (pc := 9) d_Md_aDancer_9 (x := a) rfl ?_
  refine r_aload_n (pc := 10) d_Md_aDancer_10 (x := a) rfl ?_
  refine r_getI (pc := 11) d_Md_aDancer_11 f_Md_238 sa rfl ?_
  refine r_iconst (pc := 14) d_Md_aDancer_14 (v := 3) (by decide) ?_
  refine r_callV (pc := 15) (k := a) (As := [.int (S.1 a 20), .int 3]) (rest := []) (mc' := 0) (ms' := 0) lk_Md_241 in_Md_isIn se_Md_isIn sa rfl d_Md_aDancer_15 k_Md_isIn rfl rfl (Nat.le_of_ble_eq_true rfl) (by decide) (by decide) (Sp.mono h ?_)
  rintro rS5 shS5 S5 ⟨qS5, x6, uS5, h⟩
  subst uS5
  rw [qS5]
  refine r_if_eq (pc := 18) d_Md_aDancer_18 (tgt := 27) (by decide) (fun c7 => ?_) (fun c7 => ?_)
  · replace h := h.1 c7
    refine r_iload_n (pc := 27) d_Md_aDancer_27 (x := (S.1 r1 (2208 : Int32).toNatClampNeg)) rfl ?_
    refine r_bipush (pc := 28) d_Md_aDancer_28 (v := 7) (by decide) ?_
    refine r_icmp_ne (pc := 30) d_Md_aDancer_30 (tgt := 40) (by decide) (fun c8 => ?_) (fun c8 => ?_)
    · replace h := h.1 c8
      refine r_aload_n (pc := 40) d_Md_aDancer_40 (x := a) rfl ?_
      refine r_callV (pc := 41) (k := a) (As := []) (rest := []) (mc' := 0) (ms' := 0) lk_Md_194 in_Md_ahead se_Md_ahead sa rfl d_Md_aDancer_41 k_Md_ahead rfl rfl (Nat.le_of_ble_eq_true rfl) (by decide) (by decide) (Sp.mono h ?_)
      rintro rS9 shS9 S9 ⟨qS9, uS9, h⟩
      subst uS9
      rw [qS9]
      refine r_aload_n (pc := 44) d_Md_aDancer_44 (x := a) rfl ?_
      refine r_ldcS (pc := 45) d_Md_aDancer_45 (w := 2) (by decide) ?_
      refine r_callV (pc := 47) (k := a) (As := [.float 2]) (rest := []) (mc' := 0) (ms' := 0) lk_Md_246 in_Md_isName se_Md_isName sa rfl d_Md_aDancer_47 k_Md_isName rfl rfl (Nat.le_of_ble_eq_true rfl) (by decide) (by decide) (Sp.mono h ?_)
      rintro rS10 shS10 S10 ⟨qS10, x11, uS10, h⟩
      subst uS10
      rw [qS10]
      refine r_if_ne (pc := 50) d_Md_aDancer_50 (tgt := 59) (by decide) (fun c12 => ?_) (fun c12 => ?_)
      · replace h := h.1 c12
        refine r_aload_n (pc := 59) d_Md_aDancer_59 (x := a) rfl ?_
        refine r_bipush (pc := 60) d_Md_aDancer_60 (v := 28) (by decide) ?_
        refine r_iload_n (pc := 62) d_Md_aDancer_62 (x := (S.1 r1 (2208 : Int32).toNatClampNeg)) rfl ?_
        refine r_callV (pc := 63) (k := a) (As := [.int 28, .int (S.1 r1 (2208 : Int32).toNatClampNeg)]) (rest := []) (mc' := 0) (ms' := 0) lk_Md_250 in_Md_findHere se_Md_findHere sa rfl d_Md_aDancer_63 k_Md_findHere rfl rfl (Nat.le_of_ble_eq_true rfl) (by decide) (by decide) (Sp.mono h ?_)
        rintro rS13 shS13 S13 ⟨qS13, x14, uS13, h⟩
        subst uS13
        rw [qS13]
        refine r_iconst (pc := 66) d_Md_aDancer_66 (v := (-1)) (by decide) ?_
        refine r_icmp_eq (pc := 67) d_Md_aDancer_67 (tgt := 76) (by decide) (fun c15 => ?_) (fun c15 => ?_)
        · replace h := h.1 c15
          refine r_aload_n (pc := 76) d_Md_aDancer_76 (x := a) rfl ?_
          obtain ⟨r16, er16, h⟩ := h
          refine r_getR (pc := 77) d_Md_aDancer_77 f_Md_13 sa (Or.inr ⟨_, rfl⟩) (r := r16) er16 ?_
          refine r_bipush (pc := 80) d_Md_aDancer_80 (v := 28) (by decide) ?_
          refine r_iload_n (pc := 82) d_Md_aDancer_82 (x := (S.1 r1 (2208 : Int32).toNatClampNeg)) rfl ?_
          refine r_iadd (pc := 83) d_Md_aDancer_83 ?_
          refine r_aload_n (pc := 84) d_Md_aDancer_84 (x := a) rfl ?_
          refine r_callV (pc := 85) (k := a) (As := []) (rest := [.int ((28 : Int32) + (S.1 r1 (2208 : Int32).toNatClampNeg)), .ref r16]) (mc' := 0) (ms' := 0) lk_Md_207 in_Md_nameHere se_Md_nameHere sa rfl d_Md_aDancer_85 k_Md_nameHere rfl rfl (Nat.le_of_ble_eq_true rfl) (by decide) (by decide) (Sp.mono h ?_)
          rintro rS17 shS17 S17 ⟨qS17, x18, uS17, h⟩
          subst uS17
          rw [qS17]
          obtain ⟨n20, s19, h⟩ := h
          obtain ⟨g21, h⟩ := h
          refine r_last (pc := 88) d_Md_aDancer_88 s19 g21 ?_
          refine r_aload_n (pc := 89) d_Md_aDancer_89 (x := a) rfl ?_
          refine r_callV (pc := 90) (k := a) (As := []) (rest := []) (mc' := 0) (ms' := 0) lk_Md_194 in_Md_ahead se_Md_ahead sa rfl d_Md_aDancer_90 k_Md_ahead rfl rfl (Nat.le_of_ble_eq_true rfl) (by decide) (by decide) (Sp.mono h ?_)
          rintro rS22 shS22 S22 ⟨qS22, uS22, h⟩
          subst uS22
          rw [qS22]
          refine r_aload_n (pc := 93) d_Md_aDancer_93 (x := a) rfl ?_
          refine r_ldcS (pc := 94) d_Md_aDancer_94 (w := 2) (by decide) ?_
          refine r_iconst (pc := 96) d_Md_aDancer_96 (v := 4) (by decide) ?_
          refine r_callV (pc := 97) (k := a) (As := [.float 2, .int 4]) (rest := []) (mc' := 0) (ms' := 0) lk_Md_253 in_Md_wantWord se_Md_wantWord sa rfl d_Md_aDancer_97 k_Md_wantWord rfl rfl (Nat.le_of_ble_eq_true rfl) (by decide) (by decide) (Sp.mono h ?_)
          rintro rS23 shS23 S23 ⟨qS23, x24, uS23, h⟩
          subst uS23
          rw [qS23]
          refine r_if_eq (pc := 100) d_Md_aDancer_100 (tgt := 117) (by decide) (fun c25 => ?_) (fun c25 => ?_)
          · replace h := h.1 c25
            refine r_iconst (pc := 117) d_Md_aDancer_117 (v := 0) (by decide) ?_
            exact r_zreturn (pc := 118) d_Md_aDancer_118 (v := 0) rfl (by decide) rfl (Nat.le_refl _) ⟨rfl, _, rfl, h⟩
          · replace h := h.2 c25
            refine r_aload_n (pc := 103) d_Md_aDancer_103 (x := a) rfl ?_
            refine r_sipush (pc := 104) d_Md_aDancer_104 (v := 2218) (by decide) ?_
            refine r_iload_n (pc := 107) d_Md_aDancer_107 (x := (S.1 r1 (2208 : Int32).toNatClampNeg)) rfl ?_
            refine r_iadd (pc := 108) d_Md_aDancer_108 ?_
            refine r_iconst (pc := 109) d_Md_aDancer_109 (v := 0) (by decide) ?_
            refine r_iconst (pc := 110) d_Md_aDancer_110 (v := 5) (by decide) ?_
            refine r_callV (pc := 111) (k := a) (As := [.int ((2218 : Int32) + (S.1 r1 (2208 : Int32).toNatClampNeg)), .int 0, .int 5]) (rest := []) (mc' := 0) (ms' := 0) lk_Md_257 in_Md_number se_Md_number sa rfl d_Md_aDancer_111 k_Md_number rfl rfl (Nat.le_of_ble_eq_true rfl) (by decide) (by decide) (Sp.mono h ?_)
            rintro rS26 shS26 S26 ⟨qS26, x27, uS26, h⟩
            subst uS26
            rw [qS26]
            refine r_if_ne (pc := 114) d_Md_aDancer_114 (tgt := 119) (by decide) (fun c28 => ?_) (fun c28 => ?_)
            · replace h := h.1 c28
              refine r_aload_n (pc := 119) d_Md_aDancer_119 (x := a) rfl ?_
              obtain ⟨r29, er29, h⟩ := h
              refine r_getR (pc := 120) d_Md_aDancer_120 f_Md_7 sa (Or.inr ⟨_, rfl⟩) (r := r29) er29 ?_
              refine r_sipush (pc := 123) d_Md_aDancer_123 (v := 2225) (by decide) ?_
              refine r_iload_n (pc := 126) d_Md_aDancer_126 (x := (S.1 r1 (2208 : Int32).toNatClampNeg)) rfl ?_
              refine r_iadd (pc := 127) d_Md_aDancer_127 ?_
              refine r_iload_n (pc := 128) d_Md_aDancer_128 (x := (S.1 r1 (2208 : Int32).toNatClampNeg)) rfl ?_
              obtain ⟨n31, s30, h⟩ := h
              obtain ⟨g32, h⟩ := h
              refine r_iast (pc := 129) d_Md_aDancer_129 s30 g32 ?_
              refine r_aload_n (pc := 130) d_Md_aDancer_130 (x := a) rfl ?_
              refine r_getR (pc := 131) d_Md_aDancer_131 f_Md_7 sa (Or.inr ⟨_, rfl⟩) (r := r29) er29 ?_
              refine r_sipush (pc := 134) d_Md_aDancer_134 (v := 2208) (by decide) ?_
              refine r_dup2 (pc := 137) d_Md_aDancer_137 rfl rfl ?_
              obtain ⟨g33, h⟩ := h
              refine r_iald (pc := 138) d_Md_aDancer_138 s30 g33 ?_
              refine r_iconst (pc := 139) d_Md_aDancer_139 (v := 1) (by decide) ?_
              refine r_iadd (pc := 140) d_Md_aDancer_140 ?_
              obtain ⟨g34, h⟩ := h
              refine r_iast (pc := 141) d_Md_aDancer_141 s30 g34 ?_
              refine r_iconst (pc := 142) d_Md_aDancer_142 (v := 1) (by decide) ?_
              exact r_zreturn (pc := 143) d_Md_aDancer_143 (v := 1) rfl (by decide) rfl (Nat.le_refl _) ⟨rfl, _, rfl, h⟩
            · replace h := h.2 c28
              refine r_iconst (pc := 117) d_Md_aDancer_117 (v := 0) (by decide) ?_
              exact r_zreturn (pc := 118) d_Md_aDancer_118 (v := 0) rfl (by decide) rfl (Nat.le_refl _) ⟨rfl, _, rfl, h⟩
        · replace h := h.2 c15
          refine r_aload_n (pc := 70) d_Md_aDancer_70 (x := a) rfl ?_
          refine r_iconst (pc := 71) d_Md_aDancer_71 (v := 3) (by decide) ?_
          refine r_callV (pc := 72) (k := a) (As := [.int 3]) (rest := []) (mc' := 0) (ms' := 0) lk_Md_200 in_Md_fails se_Md_fails sa rfl d_Md_aDancer_72 k_Md_fails rfl rfl (Nat.le_of_ble_eq_true rfl) (by decide) (by decide) (Sp.mono h ?_)
          rintro rS35 shS35 S35 ⟨qS35, x36, uS35, h⟩
          subst uS35
          rw [qS35]
          obtain ⟨g37, h⟩ := h
          exact r_zreturn (pc := 75) d_Md_aDancer_75 rfl (aw_nb g37) rfl (Nat.le_refl _) ⟨rfl, _, rfl, h⟩
      · replace h := h.2 c12
        refine r_aload_n (pc := 53) d_Md_aDancer_53 (x := a) rfl ?_
        refine r_iconst (pc := 54) d_Md_aDancer_54 (v := 2) (by decide) ?_
        refine r_callV (pc := 55) (k := a) (As := [.int 2]) (rest := []) (mc' := 0) (ms' := 0) lk_Md_200 in_Md_fails se_Md_fails sa rfl d_Md_aDancer_55 k_Md_fails rfl rfl (Nat.le_of_ble_eq_true rfl) (by decide) (by decide) (Sp.mono h ?_)
        rintro rS38 shS38 S38 ⟨qS38, x39, uS38, h⟩
        subst uS38
        rw [qS38]
        obtain ⟨g40, h⟩ := h
        exact r_zreturn (pc := 58) d_Md_aDancer_58 rfl (aw_nb g40) rfl (Nat.le_refl _) ⟨rfl, _, rfl, h⟩
    · replace h := h.2 c8
      refine r_aload_n (pc := 33) d_Md_aDancer_33 (x := a) rfl ?_
      refine r_bipush (pc := 34) d_Md_aDancer_34 (v := 6) (by decide) ?_
      refine r_callV (pc := 36) (k := a) (As := [.int 6]) (rest := []) (mc' := 0) (ms' := 0) lk_Md_200 in_Md_fails se_Md_fails sa rfl d_Md_aDancer_36 k_Md_fails rfl rfl (Nat.le_of_ble_eq_true rfl) (by decide) (by decide) (Sp.mono h ?_)
      rintro rS41 shS41 S41 ⟨qS41, x42, uS41, h⟩
      subst uS41
      rw [qS41]
      obtain ⟨g43, h⟩ := h
      exact r_zreturn (pc := 39) d_Md_aDancer_39 rfl (aw_nb g43) rfl (Nat.le_refl _) ⟨rfl, _, rfl, h⟩
  · replace h := h.2 c7
    refine r_aload_n (pc := 21) d_Md_aDancer_21 (x := a) rfl ?_
    refine r_iconst (pc := 22) d_Md_aDancer_22 (v := 5) (by decide) ?_
    refine r_callV (pc := 23) (k := a) (As := [.int 5]) (rest := []) (mc' := 0) (ms' := 0) lk_Md_200 in_Md_fails se_Md_fails sa rfl d_Md_aDancer_23 k_Md_fails rfl rfl (Nat.le_of_ble_eq_true rfl) (by decide) (by decide) (Sp.mono h ?_)
    rintro rS44 shS44 S44 ⟨qS44, x45, uS44, h⟩
    subst uS44
    rw [qS44]
    obtain ⟨g46, h⟩ := h
    exact r_zreturn (pc := 26) d_Md_aDancer_26 rfl (aw_nb g46) rfl (Nat.le_refl _) ⟨rfl, _, rfl, h⟩
set_option maxRecDepth 4000 in
theorem e_Md_isName {l : Launch} {d : Nat} {sh : aw_SH} {S : aw_S} {P : Int32 → aw_S → Prop} {a : Nat} {p0 : UInt32} (sa : sh[a]? = some (0, 11)) (hp0 : p0 = 1 ∨ p0 = 2) (h : ((¬ (S.1 a 12) = 2 → P 0 S) ∧ ((S.1 a 12) = 2 → ((8 < ((S.1 a 14) - (S.1 a 13)) → P 0 S) ∧ (¬ 8 < ((S.1 a 14) - (S.1 a 13)) → Sp l m_Md_inWords d 0 0 [.ref a, .float p0] sh S (gI sh (fun x4 S3 => ((¬ x4 = (-1) → P 0 S3) ∧ (x4 = (-1) → P 1 S3))))))))) : Sp l m_Md_isName (d + 1) 0 0 [.ref a, .float p0] sh S (gI sh P) := by
  refine Sp.of k_Md_isName (ls := [.ref a, .float p0]) rfl (Nat.le_of_ble_eq_true rfl) ?_
  refine r_aload_n (pc := 0) d_Md_isName_0 (x := a) rfl ?_
  refine r_getI (pc := 1) d_Md_isName_1 f_Md_163 sa rfl ?_
  refine r_iconst (pc := 4) d_Md_isName_4 (v := 2) (by decide) ?_
  refine r_icmp_ne (pc := 5) d_Md_isName_5 (tgt := 35) (by decide) (fun c1 => ?_) (fun c1 => ?_)
  · replace h := h.1 c1
    refine r_iconst (pc := 35) d_Md_isName_35 (v := 0) (by decide) ?_
    exact r_zreturn (pc := 36) d_Md_isName_36 (v := 0) rfl (by decide) rfl (Nat.le_refl _) ⟨rfl, _, rfl, h⟩
  · replace h := h.2 c1
    refine r_aload_n (pc := 8) d_Md_isName_8 (x := a) rfl ?_
    refine r_getI (pc := 9) d_Md_isName_9 f_Md_151 sa rfl ?_
    refine r_aload_n (pc := 12) d_Md_isName_12 (x := a) rfl ?_
    refine r_getI (pc := 13) d_Md_isName_13 f_Md_157 sa rfl ?_
    refine r_isub (pc := 16) d_Md_isName_16 ?_
    refine r_bipush (pc := 17) d_Md_isName_17 (v := 8) (by decide) ?_
    refine r_icmp_gt (pc := 19) d_Md_isName_19 (tgt := 35) (by decide) (fun c2 => ?_) (fun c2 => ?_)
    · replace h := h.1 c2
      refine r_iconst (pc := 35) d_Md_isName_35 (v := 0) (by decide) ?_
      exact r_zreturn (pc := 36) d_Md_isName_36 (v := 0) rfl (by decide) rfl (Nat.le_refl _) ⟨rfl, _, rfl, h⟩
    · replace h := h.2 c2
      refine r_aload_n (pc := 22) d_Md_isName_22 (x := a) rfl ?_
      refine r_aload_nX (pc := 23) d_Md_isName_23 (x := p0) rfl ?_
      refine r_callV (pc := 24) (k := a) (As := [.float p0]) (rest := []) (mc' := 0) (ms' := 0) lk_Md_203 in_Md_inWords se_Md_inWords sa rfl d_Md_isName_24 k_Md_inWords rfl rfl (Nat.le_of_ble_eq_true rfl) (by decide) (by decide) (Sp.mono h ?_)
      rintro rS3 shS3 S3 ⟨qS3, x4, uS3, h⟩
      subst uS3
      rw [qS3]
      refine r_iconst (pc := 27) d_Md_isName_27 (v := (-1)) (by decide) ?_
      refine r_icmp_ne (pc := 28) d_Md_isName_28 (tgt := 35) (by decide) (fun c5 => ?_) (fun c5 => ?_)
      · replace h := h.1 c5
        refine r_iconst (pc := 35) d_Md_isName_35 (v := 0) (by decide) ?_
        exact r_zreturn (pc := 36) d_Md_isName_36 (v := 0) rfl (by decide) rfl (Nat.le_refl _) ⟨rfl, _, rfl, h⟩
      · replace h := h.2 c5
        refine r_iconst (pc := 31) d_Md_isName_31 (v := 1) (by decide) ?_
        refine r_goto (pc := 32) d_Md_isName_32 (tgt := 36) (by decide) ?_
        exact r_zreturn (pc := 36) d_Md_isName_36 (v := 1) rfl (by decide) rfl (Nat.le_refl _) ⟨rfl, _, rfl, h⟩
set_option maxRecDepth 4000 in
theorem e_Md_findHere {l : Launch} {d : Nat} {sh : aw_SH} {S : aw_S} {P : Int32 → aw_S → Prop} {a : Nat} {p0 : Int32} {p1 : Int32} (sa : sh[a]? = some (0, 11)) (h : AW l m_Md_findHere (d + 1) 0 0 (gI sh P) 0 0 2 [.ref a, .int p0, .int p1, .int 0] [] sh S) : Sp l m_Md_findHere (d + 1) 0 0 [.ref a, .int p0, .int p1] sh S (gI sh P) := by
  refine Sp.of k_Md_findHere (ls := [.ref a, .int p0, .int p1, .null]) rfl (Nat.le_of_ble_eq_true rfl) ?_
  refine r_iconst (pc := 0) d_Md_findHere_0 (v := 0) (by decide) ?_
  refine r_istore_n (pc := 1) (hk := rfl) (hd := d_Md_findHere_1) (hi := by decide) (ls2 := [.ref a, .int p0, .int p1, .int 0]) (h2 := rfl) ?_
  exact h
set_option maxRecDepth 4000 in
theorem s_Md_findHere_2 {l : Launch} {d : Nat} {sh : aw_SH} {S : aw_S} {P : Int32 → aw_S → Prop} {a : Nat} {i1 : Int32} {i2 : Int32} {i3 : Int32} (sa : sh[a]? = some (0, 11)) (h : ((i2 ≤ i3 → P (-1) S) ∧ (¬ i2 ≤ i3 → ∃ r2, S.2.2 a 1 = some r2 ∧ ∃ n4, sh[r2]? = some (4, n4) ∧ vp_in (i1 + i3) n4 ∧ Sp l m_Md_nameHere d 0 0 [.ref a] sh S (gL sh (fun x7 S6 => ((¬ (lg_cmp (S.2.1 r2 (i1 + i3 : Int32).toNatClampNeg) x7) = 0 → AW l m_Md_findHere (d + 1) 0 0 (gI sh P) 0 0 2 [.ref a, .int i1, .int i2, .int (i3 + 1)] [] sh S6) ∧ ((lg_cmp (S.2.1 r2 (i1 + i3 : Int32).toNatClampNeg) x7) = 0 → P i3 S6))))))) : AW l m_Md_findHere (d + 1) 0 0 (gI sh P) 0 0 2 [.ref a, .int i1, .int i2, .int i3] [] sh S := by
  refine r_iload_n (pc := 2) d_Md_findHere_2 (x := i3) rfl ?_
  refine r_iload_n (pc := 3) d_Md_findHere_3 (x := i2) rfl ?_
  refine r_icmp_ge (pc := 4) d_Md_findHere_4 (tgt := 31) (by decide) (fun c1 => ?_) (fun c1 => ?_)
  · replace h := h.1 c1
    refine r_iconst (pc := 31) d_Md_findHere_31 (v := (-1)) (by decide) ?_
    exact r_ireturn (pc := 32) d_Md_findHere_32 rfl rfl (Nat.le_refl _) ⟨rfl, _, rfl, h⟩
  · replace h := h.2 c1
    refine r_aload_n (pc := 7) d_Md_findHere_7 (x := a) rfl ?_
    obtain ⟨r2, er2, h⟩ := h
    refine r_getR (pc := 8) d_Md_findHere_8 f_Md_13 sa (Or.inr ⟨_, rfl⟩) (r := r2) er2 ?_
    refine r_iload_n (pc := 11) d_Md_findHere_11 (x := i1) rfl ?_
    refine r_iload_n (pc := 12) d_Md_findHere_12 (x := i3) rfl ?_
    refine r_iadd (pc := 13) d_Md_findHere_13 ?_
    obtain ⟨n4, s3, h⟩ := h
    obtain ⟨g5, h⟩ := h
    refine r_lald (pc := 14) d_Md_findHere_14 s3 g5 ?_
    refine r_aload_n (pc := 15) d_Md_findHere_15 (x := a) rfl ?_
    refine r_callV (pc := 16) (k := a) (As := []) (rest := [.long (S.2.1 r2 (i1 + i3 : Int32).toNatClampNeg)]) (mc' := 0) (ms' := 0) lk_Md_207 in_Md_nameHere se_Md_nameHere sa rfl d_Md_findHere_16 k_Md_nameHere rfl rfl (Nat.le_of_ble_eq_true rfl) (by decide) (by decide) (Sp.mono h ?_)
    rintro rS6 shS6 S6 ⟨qS6, x7, uS6, h⟩
    subst uS6
    rw [qS6]
    refine r_lcmp (pc := 19) d_Md_findHere_19 ?_
    refine r_if_ne (pc := 20) d_Md_findHere_20 (tgt := 25) (by decide) (fun c8 => ?_) (fun c8 => ?_)
    · replace h := h.1 c8
      refine r_iinc (pc := 25) d_Md_findHere_25 (hi := by decide) (x := i3) rfl (v := i3 + 1) rfl (ls2 := [.ref a, .int i1, .int i2, .int (i3 + 1)]) rfl ?_
      refine r_goto (pc := 28) d_Md_findHere_28 (tgt := 2) (by decide) ?_
      exact h
    · replace h := h.2 c8
      refine r_iload_n (pc := 23) d_Md_findHere_23 (x := i3) rfl ?_
      exact r_ireturn (pc := 24) d_Md_findHere_24 rfl rfl (Nat.le_refl _) ⟨rfl, _, rfl, h⟩
set_option maxRecDepth 4000 in
theorem e_Md_nameHere {l : Launch} {d : Nat} {sh : aw_SH} {S : aw_S} {P : Int64 → aw_S → Prop} {a : Nat} (sa : sh[a]? = some (0, 11)) (h : AW l m_Md_nameHere (d + 1) 0 0 (gL sh P) 0 0 7 [.ref a, .long 0, .null, .int (S.1 a 13)] [] sh S) : Sp l m_Md_nameHere (d + 1) 0 0 [.ref a] sh S (gL sh P) := by
  refine Sp.of k_Md_nameHere (ls := [.ref a, .null, .null, .null]) rfl (Nat.le_of_ble_eq_true rfl) ?_
  refine r_lconst (pc := 0) d_Md_nameHere_0 (v := 0) (by decide) ?_
  refine r_lstore_n (pc := 1) (hk := rfl) (hd := d_Md_nameHere_1) (hi := by decide) (ls2 := [.ref a, .long 0, .null, .null]) (h2 := rfl) ?_
  refine r_aload_n (pc := 2) d_Md_nameHere_2 (x := a) rfl ?_
  refine r_getI (pc := 3) d_Md_nameHere_3 f_Md_157 sa rfl ?_
  refine r_istore_n (pc := 6) (hk := rfl) (hd := d_Md_nameHere_6) (hi := by decide) (ls2 := [.ref a, .long 0, .null, .int (S.1 a 13)]) (h2 := rfl) ?_
  exact h
set_option maxRecDepth 4000 in
theorem s_Md_nameHere_7 {l : Launch} {d : Nat} {sh : aw_SH} {S : aw_S} {P : Int64 → aw_S → Prop} {a : Nat} {i1 : Int64} {i3 : Int32} (sa : sh[a]? = some (0, 11)) (h : (((S.1 a 14) ≤ i3 → P i1 S) ∧ (¬ (S.1 a 14) ≤ i3 → Sp l m_Md_byteAt d 0 0 [.ref a, .int i3] sh S (gI sh (fun x3 S2 => AW l m_Md_nameHere (d + 1) 0 0 (gL sh P) 0 0 7 [.ref a, .long ((i1 <<< (((8) : Int32).toInt64 &&& 63)) ||| x3.toInt64), .null, .int (i3 + 1)] [] sh S2))))) : AW l m_Md_nameHere (d + 1) 0 0 (gL sh P) 0 0 7 [.ref a, .long i1, .null, .int i3] [] sh S := by
  refine r_iload_n (pc := 7) d_Md_nameHere_7 (x := i3) rfl ?_
  refine r_aload_n (pc := 8) d_Md_nameHere_8 (x := a) rfl ?_
  refine r_getI (pc := 9) d_Md_nameHere_9 f_Md_151 sa rfl ?_
  refine r_icmp_ge (pc := 12) d_Md_nameHere_12 (tgt := 33) (by decide) (fun c1 => ?_) (fun c1 => ?_)
  · replace h := h.1 c1
    refine r_lload_n (pc := 33) d_Md_nameHere_33 (x := i1) rfl ?_
    exact r_lreturn (pc := 34) d_Md_nameHere_34 rfl rfl (Nat.le_refl _) ⟨rfl, _, rfl, h⟩
  · replace h := h.2 c1
    refine r_lload_n (pc := 15) d_Md_nameHere_15 (x := i1) rfl ?_
    refine r_bipush (pc := 16) d_Md_nameHere_16 (v := 8) (by decide) ?_
    refine r_lshl (pc := 18) d_Md_nameHere_18 ?_
    refine r_aload_n (pc := 19) d_Md_nameHere_19 (x := a) rfl ?_
    refine r_iload_n (pc := 20) d_Md_nameHere_20 (x := i3) rfl ?_
    refine r_callV (pc := 21) (k := a) (As := [.int i3]) (rest := [.long (i1 <<< (((8) : Int32).toInt64 &&& 63))]) (mc' := 0) (ms' := 0) lk_Md_154 in_Md_byteAt se_Md_byteAt sa rfl d_Md_nameHere_21 k_Md_byteAt rfl rfl (Nat.le_of_ble_eq_true rfl) (by decide) (by decide) (Sp.mono h ?_)
    rintro rS2 shS2 S2 ⟨qS2, x3, uS2, h⟩
    subst uS2
    rw [qS2]
    refine r_i2l (pc := 24) d_Md_nameHere_24 ?_
    refine r_lor (pc := 25) d_Md_nameHere_25 ?_
    refine r_lstore_n (pc := 26) (hk := rfl) (hd := d_Md_nameHere_26) (hi := by decide) (ls2 := [.ref a, .long ((i1 <<< (((8) : Int32).toInt64 &&& 63)) ||| x3.toInt64), .null, .int i3]) (h2 := rfl) ?_
    refine r_iinc (pc := 27) d_Md_nameHere_27 (hi := by decide) (x := i3) rfl (v := i3 + 1) rfl (ls2 := [.ref a, .long ((i1 <<< (((8) : Int32).toInt64 &&& 63)) ||| x3.toInt64), .null, .int (i3 + 1)]) rfl ?_
    refine r_goto (pc := 30) d_Md_nameHere_30 (tgt := 7) (by decide) ?_
    exact h
set_option maxRecDepth 4000 in
theorem e_Md_wantWord {l : Launch} {d : Nat} {sh : aw_SH} {S : aw_S} {P : Int32 → aw_S → Prop} {a : Nat} {p0 : UInt32} {p1 : Int32} (sa : sh[a]? = some (0, 11)) (hp0 : p0 = 1 ∨ p0 = 2) (h : Sp l m_Md_inWords d 0 0 [.ref a, .float p0] sh S (gI sh (fun x2 S1 => ((x2 = p1 → Sp l m_Md_ahead d 0 0 [.ref a] sh S1 (gV sh (fun S4 => P 1 S4))) ∧ (¬ x2 = p1 → Sp l m_Md_fails d 0 0 [.ref a, .int 2] sh S1 (gI sh (fun x6 S5 => ((x6 = 0 ∨ x6 = 1) ∧ P x6 S5)))))))) : Sp l m_Md_wantWord (d + 1) 0 0 [.ref a, .float p0, .int p1] sh S (gI sh P) := by
  refine Sp.of k_Md_wantWord (ls := [.ref a, .float p0, .int p1]) rfl (Nat.le_of_ble_eq_true rfl) ?_
  refine r_aload_n (pc := 0) d_Md_wantWord_0 (x := a) rfl ?_
  refine r_aload_nX (pc := 1) d_Md_wantWord_1 (x := p0) rfl ?_
  refine r_callV (pc := 2) (k := a) (As := [.float p0]) (rest := []) (mc' := 0) (ms' := 0) lk_Md_203 in_Md_inWords se_Md_inWords sa rfl d_Md_wantWord_2 k_Md_inWords rfl rfl (Nat.le_of_ble_eq_true rfl) (by decide) (by decide) (Sp.mono h ?_)
  rintro rS1 shS1 S1 ⟨qS1, x2, uS1, h⟩
  subst uS1
  rw [qS1]
  refine r_iload_n (pc := 5) d_Md_wantWord_5 (x := p1) rfl ?_
  refine r_icmp_eq (pc := 6) d_Md_wantWord_6 (tgt := 15) (by decide) (fun c3 => ?_) (fun c3 => ?_)
  · replace h := h.1 c3
    refine r_aload_n (pc := 15) d_Md_wantWord_15 (x := a) rfl ?_
    refine r_callV (pc := 16) (k := a) (As := []) (rest := []) (mc' := 0) (ms' := 0) lk_Md_194 in_Md_ahead se_Md_ahead sa rfl d_Md_wantWord_16 k_Md_ahead rfl rfl (Nat.le_of_ble_eq_true rfl) (by decide) (by decide) (Sp.mono h ?_)
    rintro rS4 shS4 S4 ⟨qS4, uS4, h⟩
    subst uS4
    rw [qS4]
    refine r_iconst (pc := 19) d_Md_wantWord_19 (v := 1) (by decide) ?_
    exact r_zreturn (pc := 20) d_Md_wantWord_20 (v := 1) rfl (by decide) rfl (Nat.le_refl _) ⟨rfl, _, rfl, h⟩
  · replace h := h.2 c3
    refine r_aload_n (pc := 9) d_Md_wantWord_9 (x := a) rfl ?_
    refine r_iconst (pc := 10) d_Md_wantWord_10 (v := 2) (by decide) ?_
    refine r_callV (pc := 11) (k := a) (As := [.int 2]) (rest := []) (mc' := 0) (ms' := 0) lk_Md_200 in_Md_fails se_Md_fails sa rfl d_Md_wantWord_11 k_Md_fails rfl rfl (Nat.le_of_ble_eq_true rfl) (by decide) (by decide) (Sp.mono h ?_)
    rintro rS5 shS5 S5 ⟨qS5, x6, uS5, h⟩
    subst uS5
    rw [qS5]
    obtain ⟨g7, h⟩ := h
    exact r_zreturn (pc := 14) d_Md_wantWord_14 rfl (aw_nb g7) rfl (Nat.le_refl _) ⟨rfl, _, rfl, h⟩
set_option maxRecDepth 4000 in
theorem e_Md_number {l : Launch} {d : Nat} {sh : aw_SH} {S : aw_S} {P : Int32 → aw_S → Prop} {a : Nat} {p0 : Int32} {p1 : Int32} {p2 : Int32} (sa : sh[a]? = some (0, 11)) (h : (((S.1 a 12) = 3 → (((S.1 a 15) < p1 → Sp l m_Md_fails d 0 0 [.ref a, .int 4] sh S (gI sh (fun x4 S3 => ((x4 = 0 ∨ x4 = 1) ∧ P x4 S3)))) ∧ (¬ (S.1 a 15) < p1 → (((S.1 a 15) ≤ p2 → ∃ r7, S.2.2 a 0 = some r7 ∧ ∃ n9, sh[r7]? = some (3, n9) ∧ vp_in p0 n9 ∧ Sp l m_Md_ahead d 0 0 [.ref a] sh (aw_uI S r7 p0.toNatClampNeg (S.1 a 15)) (gV sh (fun S11 => P 1 S11))) ∧ (¬ (S.1 a 15) ≤ p2 → Sp l m_Md_fails d 0 0 [.ref a, .int 4] sh S (gI sh (fun x13 S12 => ((x13 = 0 ∨ x13 = 1) ∧ P x13 S12)))))))) ∧ (¬ (S.1 a 12) = 3 → Sp l m_Md_fails d 0 0 [.ref a, .int 2] sh S (gI sh (fun x16 S15 => ((x16 = 0 ∨ x16 = 1) ∧ P x16 S15)))))) : Sp l m_Md_number (d + 1) 0 0 [.ref a, .int p0, .int p1, .int p2] sh S (gI sh P) := by
  refine Sp.of k_Md_number (ls := [.ref a, .int p0, .int p1, .int p2]) rfl (Nat.le_of_ble_eq_true rfl) ?_
  refine r_aload_n (pc := 0) d_Md_number_0 (x := a) rfl ?_
  refine r_getI (pc := 1) d_Md_number_1 f_Md_163 sa rfl ?_
  refine r_iconst (pc := 4) d_Md_number_4 (v := 3) (by decide) ?_
  refine r_icmp_eq (pc := 5) d_Md_number_5 (tgt := 14) (by decide) (fun c1 => ?_) (fun c1 => ?_)
  · replace h := h.1 c1
    refine r_aload_n (pc := 14) d_Md_number_14 (x := a) rfl ?_
    refine r_getI (pc := 15) d_Md_number_15 f_Md_160 sa rfl ?_
    refine r_iload_n (pc := 18) d_Md_number_18 (x := p1) rfl ?_
    refine r_icmp_lt (pc := 19) d_Md_number_19 (tgt := 30) (by decide) (fun c2 => ?_) (fun c2 => ?_)
    · replace h := h.1 c2
      refine r_aload_n (pc := 30) d_Md_number_30 (x := a) rfl ?_
      refine r_iconst (pc := 31) d_Md_number_31 (v := 4) (by decide) ?_
      refine r_callV (pc := 32) (k := a) (As := [.int 4]) (rest := []) (mc' := 0) (ms' := 0) lk_Md_200 in_Md_fails se_Md_fails sa rfl d_Md_number_32 k_Md_fails rfl rfl (Nat.le_of_ble_eq_true rfl) (by decide) (by decide) (Sp.mono h ?_)
      rintro rS3 shS3 S3 ⟨qS3, x4, uS3, h⟩
      subst uS3
      rw [qS3]
      obtain ⟨g5, h⟩ := h
      exact r_zreturn (pc := 35) d_Md_number_35 rfl (aw_nb g5) rfl (Nat.le_refl _) ⟨rfl, _, rfl, h⟩
    · replace h := h.2 c2
      refine r_aload_n (pc := 22) d_Md_number_22 (x := a) rfl ?_
      refine r_getI (pc := 23) d_Md_number_23 f_Md_160 sa rfl ?_
      refine r_iload_n (pc := 26) d_Md_number_26 (x := p2) rfl ?_
      refine r_icmp_le (pc := 27) d_Md_number_27 (tgt := 36) (by decide) (fun c6 => ?_) (fun c6 => ?_)
      · replace h := h.1 c6
        refine r_aload_n (pc := 36) d_Md_number_36 (x := a) rfl ?_
        obtain ⟨r7, er7, h⟩ := h
        refine r_getR (pc := 37) d_Md_number_37 f_Md_7 sa (Or.inr ⟨_, rfl⟩) (r := r7) er7 ?_
        refine r_iload_n (pc := 40) d_Md_number_40 (x := p0) rfl ?_
        refine r_aload_n (pc := 41) d_Md_number_41 (x := a) rfl ?_
        refine r_getI (pc := 42) d_Md_number_42 f_Md_160 sa rfl ?_
        obtain ⟨n9, s8, h⟩ := h
        obtain ⟨g10, h⟩ := h
        refine r_iast (pc := 45) d_Md_number_45 s8 g10 ?_
        refine r_aload_n (pc := 46) d_Md_number_46 (x := a) rfl ?_
        refine r_callV (pc := 47) (k := a) (As := []) (rest := []) (mc' := 0) (ms' := 0) lk_Md_194 in_Md_ahead se_Md_ahead sa rfl d_Md_number_47 k_Md_ahead rfl rfl (Nat.le_of_ble_eq_true rfl) (by decide) (by decide) (Sp.mono h ?_)
        rintro rS11 shS11 S11 ⟨qS11, uS11, h⟩
        subst uS11
        rw [qS11]
        refine r_iconst (pc := 50) d_Md_number_50 (v := 1) (by decide) ?_
        exact r_zreturn (pc := 51) d_Md_number_51 (v := 1) rfl (by decide) rfl (Nat.le_refl _) ⟨rfl, _, rfl, h⟩
      · replace h := h.2 c6
        refine r_aload_n (pc := 30) d_Md_number_30 (x := a) rfl ?_
        refine r_iconst (pc := 31) d_Md_number_31 (v := 4) (by decide) ?_
        refine r_callV (pc := 32) (k := a) (As := [.int 4]) (rest := []) (mc' := 0) (ms' := 0) lk_Md_200 in_Md_fails se_Md_fails sa rfl d_Md_number_32 k_Md_fails rfl rfl (Nat.le_of_ble_eq_true rfl) (by decide) (by decide) (Sp.mono h ?_)
        rintro rS12 shS12 S12 ⟨qS12, x13, uS12, h⟩
        subst uS12
        rw [qS12]
        obtain ⟨g14, h⟩ := h
        exact r_zreturn (pc := 35) d_Md_number_35 rfl (aw_nb g14) rfl (Nat.le_refl _) ⟨rfl, _, rfl, h⟩
  · replace h := h.2 c1
    refine r_aload_n (pc := 8) d_Md_number_8 (x := a) rfl ?_
    refine r_iconst (pc := 9) d_Md_number_9 (v := 2) (by decide) ?_
    refine r_callV (pc := 10) (k := a) (As := [.int 2]) (rest := []) (mc' := 0) (ms' := 0) lk_Md_200 in_Md_fails se_Md_fails sa rfl d_Md_number_10 k_Md_fails rfl rfl (Nat.le_of_ble_eq_true rfl) (by decide) (by decide) (Sp.mono h ?_)
    rintro rS15 shS15 S15 ⟨qS15, x16, uS15, h⟩
    subst uS15
    rw [qS15]
    obtain ⟨g17, h⟩ := h
    exact r_zreturn (pc := 13) d_Md_number_13 rfl (aw_nb g17) rfl (Nat.le_refl _) ⟨rfl, _, rfl, h⟩
set_option maxRecDepth 4000 in
theorem e_Md_wantSign {l : Launch} {d : Nat} {sh : aw_SH} {S : aw_S} {P : Int32 → aw_S → Prop} {a : Nat} {p0 : Int32} (sa : sh[a]? = some (0, 11)) (h : Sp l m_Md_isSign d 0 0 [.ref a, .int p0] sh S (gI sh (fun x2 S1 => ((¬ x2 = 0 → Sp l m_Md_ahead d 0 0 [.ref a] sh S1 (gV sh (fun S4 => P 1 S4))) ∧ (x2 = 0 → Sp l m_Md_fails d 0 0 [.ref a, .int 2] sh S1 (gI sh (fun x6 S5 => ((x6 = 0 ∨ x6 = 1) ∧ P x6 S5)))))))) : Sp l m_Md_wantSign (d + 1) 0 0 [.ref a, .int p0] sh S (gI sh P) := by
  refine Sp.of k_Md_wantSign (ls := [.ref a, .int p0]) rfl (Nat.le_of_ble_eq_true rfl) ?_
  refine r_aload_n (pc := 0) d_Md_wantSign_0 (x := a) rfl ?_
  refine r_iload_n (pc := 1) d_Md_wantSign_1 (x := p0) rfl ?_
  refine r_callV (pc := 2) (k := a) (As := [.int p0]) (rest := []) (mc' := 0) (ms' := 0) lk_Md_197 in_Md_isSign se_Md_isSign sa rfl d_Md_wantSign_2 k_Md_isSign rfl rfl (Nat.le_of_ble_eq_true rfl) (by decide) (by decide) (Sp.mono h ?_)
  rintro rS1 shS1 S1 ⟨qS1, x2, uS1, h⟩
  subst uS1
  rw [qS1]
  refine r_if_ne (pc := 5) d_Md_wantSign_5 (tgt := 14) (by decide) (fun c3 => ?_) (fun c3 => ?_)
  · replace h := h.1 c3
    refine r_aload_n (pc := 14) d_Md_wantSign_14 (x := a) rfl ?_
    refine r_callV (pc := 15) (k := a) (As := []) (rest := []) (mc' := 0) (ms' := 0) lk_Md_194 in_Md_ahead se_Md_ahead sa rfl d_Md_wantSign_15 k_Md_ahead rfl rfl (Nat.le_of_ble_eq_true rfl) (by decide) (by decide) (Sp.mono h ?_)
    rintro rS4 shS4 S4 ⟨qS4, uS4, h⟩
    subst uS4
    rw [qS4]
    refine r_iconst (pc := 18) d_Md_wantSign_18 (v := 1) (by decide) ?_
    exact r_zreturn (pc := 19) d_Md_wantSign_19 (v := 1) rfl (by decide) rfl (Nat.le_refl _) ⟨rfl, _, rfl, h⟩
  · replace h := h.2 c3
    refine r_aload_n (pc := 8) d_Md_wantSign_8 (x := a) rfl ?_
    refine r_iconst (pc := 9) d_Md_wantSign_9 (v := 2) (by decide) ?_
    refine r_callV (pc := 10) (k := a) (As := [.int 2]) (rest := []) (mc' := 0) (ms' := 0) lk_Md_200 in_Md_fails se_Md_fails sa rfl d_Md_wantSign_10 k_Md_fails rfl rfl (Nat.le_of_ble_eq_true rfl) (by decide) (by decide) (Sp.mono h ?_)
    rintro rS5 shS5 S5 ⟨qS5, x6, uS5, h⟩
    subst uS5
    rw [qS5]
    obtain ⟨g7, h⟩ := h
    exact r_zreturn (pc := 13) d_Md_wantSign_13 rfl (aw_nb g7) rfl (Nat.le_refl _) ⟨rfl, _, rfl, h⟩
set_option maxRecDepth 4000 in
theorem e_Md_isSign {l : Launch} {d : Nat} {sh : aw_SH} {S : aw_S} {P : Int32 → aw_S → Prop} {a : Nat} {p0 : Int32} (sa : sh[a]? = some (0, 11)) (h : ((¬ (S.1 a 12) = 4 → P 0 S) ∧ ((S.1 a 12) = 4 → ((¬ (S.1 a 15) = p0 → P 0 S) ∧ ((S.1 a 15) = p0 → P 1 S))))) : Sp l m_Md_isSign (d + 1) 0 0 [.ref a, .int p0] sh S (gI sh P) := by
  refine Sp.of k_Md_isSign (ls := [.ref a, .int p0]) rfl (Nat.le_of_ble_eq_true rfl) ?_
  refine r_aload_n (pc := 0) d_Md_isSign_0 (x := a) rfl ?_
  refine r_getI (pc := 1) d_Md_isSign_1 f_Md_163 sa rfl ?_
  refine r_iconst (pc := 4) d_Md_isSign_4 (v := 4) (by decide) ?_
  refine r_icmp_ne (pc := 5) d_Md_isSign_5 (tgt := 20) (by decide) (fun c1 => ?_) (fun c1 => ?_)
  · replace h := h.1 c1
    refine r_iconst (pc := 20) d_Md_isSign_20 (v := 0) (by decide) ?_
    exact r_zreturn (pc := 21) d_Md_isSign_21 (v := 0) rfl (by decide) rfl (Nat.le_refl _) ⟨rfl, _, rfl, h⟩
  · replace h := h.2 c1
    refine r_aload_n (pc := 8) d_Md_isSign_8 (x := a) rfl ?_
    refine r_getI (pc := 9) d_Md_isSign_9 f_Md_160 sa rfl ?_
    refine r_iload_n (pc := 12) d_Md_isSign_12 (x := p0) rfl ?_
    refine r_icmp_ne (pc := 13) d_Md_isSign_13 (tgt := 20) (by decide) (fun c2 => ?_) (fun c2 => ?_)
    · replace h := h.1 c2
      refine r_iconst (pc := 20) d_Md_isSign_20 (v := 0) (by decide) ?_
      exact r_zreturn (pc := 21) d_Md_isSign_21 (v := 0) rfl (by decide) rfl (Nat.le_refl _) ⟨rfl, _, rfl, h⟩
    · replace h := h.2 c2
      refine r_iconst (pc := 16) d_Md_isSign_16 (v := 1) (by decide) ?_
      refine r_goto (pc := 17) d_Md_isSign_17 (tgt := 21) (by decide) ?_
      exact r_zreturn (pc := 21) d_Md_isSign_21 (v := 1) rfl (by decide) rfl (Nat.le_refl _) ⟨rfl, _, rfl, h⟩
set_option maxRecDepth 4000 in
theorem e_Md_aPass {l : Launch} {d : Nat} {sh : aw_SH} {S : aw_S} {P : Int32 → aw_S → Prop} {a : Nat} (sa : sh[a]? = some (0, 11)) (h : Sp l m_Md_ahead d 0 0 [.ref a] sh S (gV sh (fun S1 => Sp l m_Md_gapTo d 0 0 [.ref a, .int 2208, .int 2752] sh S1 (gI sh (fun x3 S2 => ((x3 = 0 → P 0 S2) ∧ (¬ x3 = 0 → Sp l m_Md_howTo d 0 0 [.ref a, .int ((2752 : Int32) + (1 : Int32))] sh S2 (gI sh (fun x6 S5 => ((¬ x6 = 0 → ∃ r8, S5.2.2 a 0 = some r8 ∧ ∃ n10, sh[r8]? = some (3, n10) ∧ vp_in 2752 n10 ∧ vp_in ((2752 : Int32) + (1 : Int32)) n10 ∧ Sp l m_Md_dances d 0 0 [.ref a, .int 2208, .int (S5.1 r8 (2752 : Int32).toNatClampNeg), .int (S5.1 r8 ((2752 : Int32) + (1 : Int32) : Int32).toNatClampNeg)] sh S5 (gI sh (fun x14 S13 => ((¬ x14 = 0 → Sp l m_Md_ahead d 0 0 [.ref a] sh S13 (gV sh (fun S16 => P 1 S16))) ∧ (x14 = 0 → Sp l m_Md_fails d 0 0 [.ref a, .int 5] sh S13 (gI sh (fun x18 S17 => ((x18 = 0 ∨ x18 = 1) ∧ P x18 S17)))))))) ∧ (x6 = 0 → P 0 S5))))))))))) : Sp l m_Md_aPass (d + 1) 0 0 [.ref a] sh S (gI sh P) := by
  refine Sp.of k_Md_aPass (ls := [.ref a, .null]) rfl (Nat.le_of_ble_eq_true rfl) ?_
  refine r_sipush (pc := 0) d_Md_aPass_0 (v := 2752) (by decide) ?_
  refine r_istore_n (pc := 3) (hk := rfl) (hd := d_Md_aPass_3) (hi := by decide) (ls2 := [.ref a, .int 2752]) (h2 := rfl) ?_
  refine r_aload_n (pc := 4) d_Md_aPass_4 (x := a) rfl ?_
  refine r_callV (pc := 5) (k := a) (As := []) (rest := []) (mc' := 0) (ms' := 0) lk_Md_194 in_Md_ahead se_Md_ahead sa rfl d_Md_aPass_5 k_Md_ahead rfl rfl (Nat.le_of_ble_eq_true rfl) (by decide) (by decide) (Sp.mono h ?_)
  rintro rS1 shS1 S1 ⟨qS1, uS1, h⟩
  subst uS1
  rw [qS1]
  refine r_aload_n (pc := 8) d_Md_aPass_8 (x := a) rfl ?_
  refine r_sipush (pc := 9) d_Md_aPass_9 (v := 2208) (by decide) ?_
  refine r_iload_n (pc := 12) d_Md_aPass_12 (x := 2752) rfl ?_
  refine r_callV (pc := 13) (k := a) (As := [.int 2208, .int 2752]) (rest := []) (mc' := 0) (ms' := 0) lk_Md_263 in_Md_gapTo se_Md_gapTo sa rfl d_Md_aPass_13 k_Md_gapTo rfl rfl (Nat.le_of_ble_eq_true rfl) (by decide) (by decide) (Sp.mono h ?_)
  rintro rS2 shS2 S2 ⟨qS2, x3, uS2, h⟩
  subst uS2
  rw [qS2]
  refine r_if_eq (pc := 16) d_Md_aPass_16 (tgt := 29) (by decide) (fun c4 => ?_) (fun c4 => ?_)
  · replace h := h.1 c4
    refine r_iconst (pc := 29) d_Md_aPass_29 (v := 0) (by decide) ?_
    exact r_zreturn (pc := 30) d_Md_aPass_30 (v := 0) rfl (by decide) rfl (Nat.le_refl _) ⟨rfl, _, rfl, h⟩
  · replace h := h.2 c4
    refine r_aload_n (pc := 19) d_Md_aPass_19 (x := a) rfl ?_
    refine r_iload_n (pc := 20) d_Md_aPass_20 (x := 2752) rfl ?_
    refine r_iconst (pc := 21) d_Md_aPass_21 (v := 1) (by decide) ?_
    refine r_iadd (pc := 22) d_Md_aPass_22 ?_
    refine r_callV (pc := 23) (k := a) (As := [.int ((2752 : Int32) + (1 : Int32))]) (rest := []) (mc' := 0) (ms' := 0) lk_Md_266 in_Md_howTo se_Md_howTo sa rfl d_Md_aPass_23 k_Md_howTo rfl rfl (Nat.le_of_ble_eq_true rfl) (by decide) (by decide) (Sp.mono h ?_)
    rintro rS5 shS5 S5 ⟨qS5, x6, uS5, h⟩
    subst uS5
    rw [qS5]
    refine r_if_ne (pc := 26) d_Md_aPass_26 (tgt := 31) (by decide) (fun c7 => ?_) (fun c7 => ?_)
    · replace h := h.1 c7
      refine r_aload_n (pc := 31) d_Md_aPass_31 (x := a) rfl ?_
      refine r_sipush (pc := 32) d_Md_aPass_32 (v := 2208) (by decide) ?_
      refine r_aload_n (pc := 35) d_Md_aPass_35 (x := a) rfl ?_
      obtain ⟨r8, er8, h⟩ := h
      refine r_getR (pc := 36) d_Md_aPass_36 f_Md_7 sa (Or.inr ⟨_, rfl⟩) (r := r8) er8 ?_
      refine r_iload_n (pc := 39) d_Md_aPass_39 (x := 2752) rfl ?_
      obtain ⟨n10, s9, h⟩ := h
      obtain ⟨g11, h⟩ := h
      refine r_iald (pc := 40) d_Md_aPass_40 s9 g11 ?_
      refine r_aload_n (pc := 41) d_Md_aPass_41 (x := a) rfl ?_
      refine r_getR (pc := 42) d_Md_aPass_42 f_Md_7 sa (Or.inr ⟨_, rfl⟩) (r := r8) er8 ?_
      refine r_iload_n (pc := 45) d_Md_aPass_45 (x := 2752) rfl ?_
      refine r_iconst (pc := 46) d_Md_aPass_46 (v := 1) (by decide) ?_
      refine r_iadd (pc := 47) d_Md_aPass_47 ?_
      obtain ⟨g12, h⟩ := h
      refine r_iald (pc := 48) d_Md_aPass_48 s9 g12 ?_
      refine r_callV (pc := 49) (k := a) (As := [.int 2208, .int (S5.1 r8 (2752 : Int32).toNatClampNeg), .int (S5.1 r8 ((2752 : Int32) + (1 : Int32) : Int32).toNatClampNeg)]) (rest := []) (mc' := 0) (ms' := 0) lk_Md_269 in_Md_dances se_Md_dances sa rfl d_Md_aPass_49 k_Md_dances rfl rfl (Nat.le_of_ble_eq_true rfl) (by decide) (by decide) (Sp.mono h ?_)
      rintro rS13 shS13 S13 ⟨qS13, x14, uS13, h⟩
      subst uS13
      rw [qS13]
      refine r_if_ne (pc := 52) d_Md_aPass_52 (tgt := 61) (by decide) (fun c15 => ?_) (fun c15 => ?_)
      · replace h := h.1 c15
        refine r_aload_n (pc := 61) d_Md_aPass_61 (x := a) rfl ?_
        refine r_callV (pc := 62) (k := a) (As := []) (rest := []) (mc' := 0) (ms' := 0) lk_Md_194 in_Md_ahead se_Md_ahead sa rfl d_Md_aPass_62 k_Md_ahead rfl rfl (Nat.le_of_ble_eq_true rfl) (by decide) (by decide) (Sp.mono h ?_)
        rintro rS16 shS16 S16 ⟨qS16, uS16, h⟩
        subst uS16
        rw [qS16]
        refine r_iconst (pc := 65) d_Md_aPass_65 (v := 1) (by decide) ?_
        exact r_zreturn (pc := 66) d_Md_aPass_66 (v := 1) rfl (by decide) rfl (Nat.le_refl _) ⟨rfl, _, rfl, h⟩
      · replace h := h.2 c15
        refine r_aload_n (pc := 55) d_Md_aPass_55 (x := a) rfl ?_
        refine r_iconst (pc := 56) d_Md_aPass_56 (v := 5) (by decide) ?_
        refine r_callV (pc := 57) (k := a) (As := [.int 5]) (rest := []) (mc' := 0) (ms' := 0) lk_Md_200 in_Md_fails se_Md_fails sa rfl d_Md_aPass_57 k_Md_fails rfl rfl (Nat.le_of_ble_eq_true rfl) (by decide) (by decide) (Sp.mono h ?_)
        rintro rS17 shS17 S17 ⟨qS17, x18, uS17, h⟩
        subst uS17
        rw [qS17]
        obtain ⟨g19, h⟩ := h
        exact r_zreturn (pc := 60) d_Md_aPass_60 rfl (aw_nb g19) rfl (Nat.le_refl _) ⟨rfl, _, rfl, h⟩
    · replace h := h.2 c7
      refine r_iconst (pc := 29) d_Md_aPass_29 (v := 0) (by decide) ?_
      exact r_zreturn (pc := 30) d_Md_aPass_30 (v := 0) rfl (by decide) rfl (Nat.le_refl _) ⟨rfl, _, rfl, h⟩
set_option maxRecDepth 4000 in
theorem e_Md_gapTo {l : Launch} {d : Nat} {sh : aw_SH} {S : aw_S} {P : Int32 → aw_S → Prop} {a : Nat} {p0 : Int32} {p1 : Int32} (sa : sh[a]? = some (0, 11)) (h : Sp l m_Md_gapsOf d 0 0 [.ref a, .int p0] sh S (gI sh (fun x2 S1 => Sp l m_Md_number d 0 0 [.ref a, .int p1, .int 0, .int (x2 - (1 : Int32))] sh S1 (gI sh (fun x4 S3 => ((x4 = 0 ∨ x4 = 1) ∧ P x4 S3)))))) : Sp l m_Md_gapTo (d + 1) 0 0 [.ref a, .int p0, .int p1] sh S (gI sh P) := by
  refine Sp.of k_Md_gapTo (ls := [.ref a, .int p0, .int p1]) rfl (Nat.le_of_ble_eq_true rfl) ?_
  refine r_aload_n (pc := 0) d_Md_gapTo_0 (x := a) rfl ?_
  refine r_iload_n (pc := 1) d_Md_gapTo_1 (x := p1) rfl ?_
  refine r_iconst (pc := 2) d_Md_gapTo_2 (v := 0) (by decide) ?_
  refine r_aload_n (pc := 3) d_Md_gapTo_3 (x := a) rfl ?_
  refine r_iload_n (pc := 4) d_Md_gapTo_4 (x := p0) rfl ?_
  refine r_callV (pc := 5) (k := a) (As := [.int p0]) (rest := [.int 0, .int p1, .ref a]) (mc' := 0) (ms' := 0) lk_Md_260 in_Md_gapsOf se_Md_gapsOf sa rfl d_Md_gapTo_5 k_Md_gapsOf rfl rfl (Nat.le_of_ble_eq_true rfl) (by decide) (by decide) (Sp.mono h ?_)
  rintro rS1 shS1 S1 ⟨qS1, x2, uS1, h⟩
  subst uS1
  rw [qS1]
  refine r_iconst (pc := 8) d_Md_gapTo_8 (v := 1) (by decide) ?_
  refine r_isub (pc := 9) d_Md_gapTo_9 ?_
  refine r_callV (pc := 10) (k := a) (As := [.int p1, .int 0, .int (x2 - (1 : Int32))]) (rest := []) (mc' := 0) (ms' := 0) lk_Md_257 in_Md_number se_Md_number sa rfl d_Md_gapTo_10 k_Md_number rfl rfl (Nat.le_of_ble_eq_true rfl) (by decide) (by decide) (Sp.mono h ?_)
  rintro rS3 shS3 S3 ⟨qS3, x4, uS3, h⟩
  subst uS3
  rw [qS3]
  obtain ⟨g5, h⟩ := h
  exact r_zreturn (pc := 13) d_Md_gapTo_13 rfl (aw_nb g5) rfl (Nat.le_refl _) ⟨rfl, _, rfl, h⟩
set_option maxRecDepth 4000 in
theorem e_Md_gapsOf {l : Launch} {d : Nat} {sh : aw_SH} {S : aw_S} {P : Int32 → aw_S → Prop} {a : Nat} {p0 : Int32} (sa : sh[a]? = some (0, 11)) (h : ∃ r1, S.2.2 a 0 = some r1 ∧ ∃ n3, sh[r1]? = some (3, n3) ∧ vp_in (p0 + (0 : Int32)) n3 ∧ ((2 ≤ (S.1 r1 (p0 + (0 : Int32) : Int32).toNatClampNeg) → ((¬ (S.1 r1 (p0 + (0 : Int32) : Int32).toNatClampNeg) = 2 → P (S.1 r1 (p0 + (0 : Int32) : Int32).toNatClampNeg) S) ∧ ((S.1 r1 (p0 + (0 : Int32) : Int32).toNatClampNeg) = 2 → P 1 S))) ∧ (¬ 2 ≤ (S.1 r1 (p0 + (0 : Int32) : Int32).toNatClampNeg) → P 0 S))) : Sp l m_Md_gapsOf (d + 1) 0 0 [.ref a, .int p0] sh S (gI sh P) := by
  refine Sp.of k_Md_gapsOf (ls := [.ref a, .int p0, .null]) rfl (Nat.le_of_ble_eq_true rfl) ?_
  refine r_aload_n (pc := 0) d_Md_gapsOf_0 (x := a) rfl ?_
  obtain ⟨r1, er1, h⟩ := h
  refine r_getR (pc := 1) d_Md_gapsOf_1 f_Md_7 sa (Or.inr ⟨_, rfl⟩) (r := r1) er1 ?_
  refine r_iload_n (pc := 4) d_Md_gapsOf_4 (x := p0) rfl ?_
  refine r_iconst (pc := 5) d_Md_gapsOf_5 (v := 0) (by decide) ?_
  refine r_iadd (pc := 6) d_Md_gapsOf_6 ?_
  obtain ⟨n3, s2, h⟩ := h
  obtain ⟨g4, h⟩ := h
  refine r_iald (pc := 7) d_Md_gapsOf_7 s2 g4 ?_
  refine r_istore_n (pc := 8) (hk := rfl) (hd := d_Md_gapsOf_8) (hi := by decide) (ls2 := [.ref a, .int p0, .int (S.1 r1 (p0 + (0 : Int32) : Int32).toNatClampNeg)]) (h2 := rfl) ?_
  refine r_iload_n (pc := 9) d_Md_gapsOf_9 (x := (S.1 r1 (p0 + (0 : Int32) : Int32).toNatClampNeg)) rfl ?_
  refine r_iconst (pc := 10) d_Md_gapsOf_10 (v := 2) (by decide) ?_
  refine r_icmp_ge (pc := 11) d_Md_gapsOf_11 (tgt := 18) (by decide) (fun c5 => ?_) (fun c5 => ?_)
  · replace h := h.1 c5
    refine r_iload_n (pc := 18) d_Md_gapsOf_18 (x := (S.1 r1 (p0 + (0 : Int32) : Int32).toNatClampNeg)) rfl ?_
    refine r_iconst (pc := 19) d_Md_gapsOf_19 (v := 2) (by decide) ?_
    refine r_icmp_ne (pc := 20) d_Md_gapsOf_20 (tgt := 27) (by decide) (fun c6 => ?_) (fun c6 => ?_)
    · replace h := h.1 c6
      refine r_iload_n (pc := 27) d_Md_gapsOf_27 (x := (S.1 r1 (p0 + (0 : Int32) : Int32).toNatClampNeg)) rfl ?_
      exact r_ireturn (pc := 28) d_Md_gapsOf_28 rfl rfl (Nat.le_refl _) ⟨rfl, _, rfl, h⟩
    · replace h := h.2 c6
      refine r_iconst (pc := 23) d_Md_gapsOf_23 (v := 1) (by decide) ?_
      refine r_goto (pc := 24) d_Md_gapsOf_24 (tgt := 28) (by decide) ?_
      exact r_ireturn (pc := 28) d_Md_gapsOf_28 rfl rfl (Nat.le_refl _) ⟨rfl, _, rfl, h⟩
  · replace h := h.2 c5
    refine r_iconst (pc := 14) d_Md_gapsOf_14 (v := 0) (by decide) ?_
    refine r_goto (pc := 15) d_Md_gapsOf_15 (tgt := 28) (by decide) ?_
    exact r_ireturn (pc := 28) d_Md_gapsOf_28 rfl rfl (Nat.le_refl _) ⟨rfl, _, rfl, h⟩
set_option maxRecDepth 4000 in
theorem e_Md_howTo {l : Launch} {d : Nat} {sh : aw_SH} {S : aw_S} {P : Int32 → aw_S → Prop} {a : Nat} {p0 : Int32} (sa : sh[a]? = some (0, 11)) (h : Sp l m_Md_inWords d 0 0 [.ref a, .float 2] sh S (gI sh (fun x2 S1 => ((x2 = 5 → ∃ r4, S1.2.2 a 0 = some r4 ∧ ((¬ x2 = 5 → ∃ n7, sh[r4]? = some (3, n7) ∧ vp_in p0 n7 ∧ P 1 (aw_uI S1 r4 p0.toNatClampNeg 0)) ∧ (x2 = 5 → ∃ n10, sh[r4]? = some (3, n10) ∧ vp_in p0 n10 ∧ P 1 (aw_uI S1 r4 p0.toNatClampNeg 1)))) ∧ (¬ x2 = 5 → ((x2 = 6 → ∃ r13, S1.2.2 a 0 = some r13 ∧ ((¬ x2 = 5 → ∃ n16, sh[r13]? = some (3, n16) ∧ vp_in p0 n16 ∧ P 1 (aw_uI S1 r13 p0.toNatClampNeg 0)) ∧ (x2 = 5 → ∃ n19, sh[r13]? = some (3, n19) ∧ vp_in p0 n19 ∧ P 1 (aw_uI S1 r13 p0.toNatClampNeg 1)))) ∧ (¬ x2 = 6 → Sp l m_Md_fails d 0 0 [.ref a, .int 2] sh S1 (gI sh (fun x22 S21 => ((x22 = 0 ∨ x22 = 1) ∧ P x22 S21)))))))))) : Sp l m_Md_howTo (d + 1) 0 0 [.ref a, .int p0] sh S (gI sh P) := by
  refine Sp.of k_Md_howTo (ls := [.ref a, .int p0, .null]) rfl (Nat.le_of_ble_eq_true rfl) ?_
  refine r_aload_n (pc := 0) d_Md_howTo_0 (x := a) rfl ?_
  refine r_ldcS (pc := 1) d_Md_howTo_1 (w := 2) (by decide) ?_
  refine r_callV (pc := 3) (k := a) (As := [.float 2]) (rest := []) (mc' := 0) (ms' := 0) lk_Md_203 in_Md_inWords se_Md_inWords sa rfl d_Md_howTo_3 k_Md_inWords rfl rfl (Nat.le_of_ble_eq_true rfl) (by decide) (by decide) (Sp.mono h ?_)
  rintro rS1 shS1 S1 ⟨qS1, x2, uS1, h⟩
  subst uS1
  rw [qS1]
  refine r_istore_n (pc := 6) (hk := rfl) (hd := d_Md_howTo_6) (hi := by decide) (ls2 := [.ref a, .int p0, .int x2]) (h2 := rfl) ?_
  refine r_iload_n (pc := 7) d_Md_howTo_7 (x := x2) rfl ?_
  refine r_iconst (pc := 8) d_Md_howTo_8 (v := 5) (by decide) ?_
  refine r_icmp_eq (pc := 9) d_Md_howTo_9 (tgt := 24) (by decide) (fun c3 => ?_) (fun c3 => ?_)
  · replace h := h.1 c3
    refine r_aload_n (pc := 24) d_Md_howTo_24 (x := a) rfl ?_
    obtain ⟨r4, er4, h⟩ := h
    refine r_getR (pc := 25) d_Md_howTo_25 f_Md_7 sa (Or.inr ⟨_, rfl⟩) (r := r4) er4 ?_
    refine r_iload_n (pc := 28) d_Md_howTo_28 (x := p0) rfl ?_
    refine r_iload_n (pc := 29) d_Md_howTo_29 (x := x2) rfl ?_
    refine r_iconst (pc := 30) d_Md_howTo_30 (v := 5) (by decide) ?_
    refine r_icmp_ne (pc := 31) d_Md_howTo_31 (tgt := 38) (by decide) (fun c5 => ?_) (fun c5 => ?_)
    · replace h := h.1 c5
      refine r_iconst (pc := 38) d_Md_howTo_38 (v := 0) (by decide) ?_
      obtain ⟨n7, s6, h⟩ := h
      obtain ⟨g8, h⟩ := h
      refine r_iast (pc := 39) d_Md_howTo_39 s6 g8 ?_
      refine r_iconst (pc := 40) d_Md_howTo_40 (v := 1) (by decide) ?_
      exact r_zreturn (pc := 41) d_Md_howTo_41 (v := 1) rfl (by decide) rfl (Nat.le_refl _) ⟨rfl, _, rfl, h⟩
    · replace h := h.2 c5
      refine r_iconst (pc := 34) d_Md_howTo_34 (v := 1) (by decide) ?_
      refine r_goto (pc := 35) d_Md_howTo_35 (tgt := 39) (by decide) ?_
      obtain ⟨n10, s9, h⟩ := h
      obtain ⟨g11, h⟩ := h
      refine r_iast (pc := 39) d_Md_howTo_39 s9 g11 ?_
      refine r_iconst (pc := 40) d_Md_howTo_40 (v := 1) (by decide) ?_
      exact r_zreturn (pc := 41) d_Md_howTo_41 (v := 1) rfl (by decide) rfl (Nat.le_refl _) ⟨rfl, _, rfl, h⟩
  · replace h := h.2 c3
    refine r_iload_n (pc := 12) d_Md_howTo_12 (x := x2) rfl ?_
    refine r_bipush (pc := 13) d_Md_howTo_13 (v := 6) (by decide) ?_
    refine r_icmp_eq (pc := 15) d_Md_howTo_15 (tgt := 24) (by decide) (fun c12 => ?_) (fun c12 => ?_)
    · replace h := h.1 c12
      refine r_aload_n (pc := 24) d_Md_howTo_24 (x := a) rfl ?_
      obtain ⟨r13, er13, h⟩ := h
      refine r_getR (pc := 25) d_Md_howTo_25 f_Md_7 sa (Or.inr ⟨_, rfl⟩) (r := r13) er13 ?_
      refine r_iload_n (pc := 28) d_Md_howTo_28 (x := p0) rfl ?_
      refine r_iload_n (pc := 29) d_Md_howTo_29 (x := x2) rfl ?_
      refine r_iconst (pc := 30) d_Md_howTo_30 (v := 5) (by decide) ?_
      refine r_icmp_ne (pc := 31) d_Md_howTo_31 (tgt := 38) (by decide) (fun c14 => ?_) (fun c14 => ?_)
      · replace h := h.1 c14
        refine r_iconst (pc := 38) d_Md_howTo_38 (v := 0) (by decide) ?_
        obtain ⟨n16, s15, h⟩ := h
        obtain ⟨g17, h⟩ := h
        refine r_iast (pc := 39) d_Md_howTo_39 s15 g17 ?_
        refine r_iconst (pc := 40) d_Md_howTo_40 (v := 1) (by decide) ?_
        exact r_zreturn (pc := 41) d_Md_howTo_41 (v := 1) rfl (by decide) rfl (Nat.le_refl _) ⟨rfl, _, rfl, h⟩
      · replace h := h.2 c14
        refine r_iconst (pc := 34) d_Md_howTo_34 (v := 1) (by decide) ?_
        refine r_goto (pc := 35) d_Md_howTo_35 (tgt := 39) (by decide) ?_
        obtain ⟨n19, s18, h⟩ := h
        obtain ⟨g20, h⟩ := h
        refine r_iast (pc := 39) d_Md_howTo_39 s18 g20 ?_
        refine r_iconst (pc := 40) d_Md_howTo_40 (v := 1) (by decide) ?_
        exact r_zreturn (pc := 41) d_Md_howTo_41 (v := 1) rfl (by decide) rfl (Nat.le_refl _) ⟨rfl, _, rfl, h⟩
    · replace h := h.2 c12
      refine r_aload_n (pc := 18) d_Md_howTo_18 (x := a) rfl ?_
      refine r_iconst (pc := 19) d_Md_howTo_19 (v := 2) (by decide) ?_
      refine r_callV (pc := 20) (k := a) (As := [.int 2]) (rest := []) (mc' := 0) (ms' := 0) lk_Md_200 in_Md_fails se_Md_fails sa rfl d_Md_howTo_20 k_Md_fails rfl rfl (Nat.le_of_ble_eq_true rfl) (by decide) (by decide) (Sp.mono h ?_)
      rintro rS21 shS21 S21 ⟨qS21, x22, uS21, h⟩
      subst uS21
      rw [qS21]
      obtain ⟨g23, h⟩ := h
      exact r_zreturn (pc := 23) d_Md_howTo_23 rfl (aw_nb g23) rfl (Nat.le_refl _) ⟨rfl, _, rfl, h⟩
set_option maxRecDepth 4000 in
theorem e_Md_dances {l : Launch} {d : Nat} {sh : aw_SH} {S : aw_S} {P : Int32 → aw_S → Prop} {a : Nat} {p0 : Int32} {p1 : Int32} {p2 : Int32} (sa : sh[a]? = some (0, 11)) (h : Sp l m_Md_latestIn d 0 0 [.ref a, .int p0, .int p1] sh S (gI sh (fun x2 S1 => ((x2 = (-1) → ∃ r4, S1.2.2 a 0 = some r4 ∧ ∃ n6, sh[r4]? = some (3, n6) ∧ vp_in ((p0 + (17 : Int32)) + p1) n6 ∧ vp_in (p0 + (0 : Int32)) n6 ∧ ¬ (S1.1 r4 (p0 + (0 : Int32) : Int32).toNatClampNeg) = 0 ∧ vp_in ((p0 + (17 : Int32)) + ((p1 + (1 : Int32)) - (p1 + (1 : Int32)) / (S1.1 r4 (p0 + (0 : Int32) : Int32).toNatClampNeg) * (S1.1 r4 (p0 + (0 : Int32) : Int32).toNatClampNeg))) n6 ∧ ∀ v10 : Int32, v10 = S1.1 r4 ((p0 + (17 : Int32)) + ((p1 + (1 : Int32)) - (p1 + (1 : Int32)) / (S1.1 r4 (p0 + (0 : Int32) : Int32).toNatClampNeg) * (S1.1 r4 (p0 + (0 : Int32) : Int32).toNatClampNeg)) : Int32).toNatClampNeg → vp_in (p0 + (3 : Int32)) n6 ∧ (((S1.1 r4 (p0 + (3 : Int32) : Int32).toNatClampNeg) = 40 → P 0 S1) ∧ (¬ (S1.1 r4 (p0 + (3 : Int32) : Int32).toNatClampNeg) = 40 → Sp l m_Md_leftOf d 0 0 [.ref a, .int p0, .int (S1.1 r4 ((p0 + (17 : Int32)) + p1 : Int32).toNatClampNeg)] sh S1 (gI sh (fun x14 S13 => ((x14 = 0 → P 0 S13) ∧ (¬ x14 = 0 → Sp l m_Md_leftOf d 0 0 [.ref a, .int p0, .int v10] sh S13 (gI sh (fun x17 S16 => ((¬ x17 = 0 → ∃ r19, S16.2.2 a 0 = some r19 ∧ ∃ n21, sh[r19]? = some (3, n21) ∧ vp_in (p0 + (3 : Int32)) n21 ∧ Sp l m_Md_plaitRow d 0 0 [.int (S16.1 r19 (p0 + (3 : Int32) : Int32).toNatClampNeg)] sh S16 (gI sh (fun x24 S23 => ∃ r25, S23.2.2 a 0 = some r25 ∧ ∃ n27, sh[r25]? = some (3, n27) ∧ vp_in (p0 + x24) n27 ∧ vp_in ((p0 + x24) + (1 : Int32)) n27 ∧ ((¬ p2 = 1 → vp_in ((p0 + x24) + (2 : Int32)) n27 ∧ ((¬ p2 = 1 → vp_in ((p0 + x24) + (3 : Int32)) n27 ∧ vp_in (p0 + (3 : Int32)) n27 ∧ vp_in (p0 + (3 : Int32)) n27 ∧ Sp l m_Md_swaps d 0 0 [.ref a, .int p0, .int p1] sh (aw_uI (aw_uI (aw_uI (aw_uI (aw_uI S23 r25 ((p0 + x24 : Int32).toNatClampNeg) p1) r25 (((p0 + x24) + (1 : Int32) : Int32).toNatClampNeg) p2) r25 (((p0 + x24) + (2 : Int32) : Int32).toNatClampNeg) v10) r25 (((p0 + x24) + (3 : Int32) : Int32).toNatClampNeg) (S1.1 r4 ((p0 + (17 : Int32)) + p1 : Int32).toNatClampNeg)) r25 ((p0 + (3 : Int32) : Int32).toNatClampNeg) (((aw_uI (aw_uI (aw_uI (aw_uI S23 r25 ((p0 + x24 : Int32).toNatClampNeg) p1) r25 (((p0 + x24) + (1 : Int32) : Int32).toNatClampNeg) p2) r25 (((p0 + x24) + (2 : Int32) : Int32).toNatClampNeg) v10) r25 (((p0 + x24) + (3 : Int32) : Int32).toNatClampNeg) (S1.1 r4 ((p0 + (17 : Int32)) + p1 : Int32).toNatClampNeg)).1 r25 (p0 + (3 : Int32) : Int32).toNatClampNeg) + (1 : Int32))) (gV sh (fun S36 => P 1 S36))) ∧ (p2 = 1 → vp_in ((p0 + x24) + (3 : Int32)) n27 ∧ vp_in (p0 + (3 : Int32)) n27 ∧ vp_in (p0 + (3 : Int32)) n27 ∧ Sp l m_Md_swaps d 0 0 [.ref a, .int p0, .int p1] sh (aw_uI (aw_uI (aw_uI (aw_uI (aw_uI S23 r25 ((p0 + x24 : Int32).toNatClampNeg) p1) r25 (((p0 + x24) + (1 : Int32) : Int32).toNatClampNeg) p2) r25 (((p0 + x24) + (2 : Int32) : Int32).toNatClampNeg) v10) r25 (((p0 + x24) + (3 : Int32) : Int32).toNatClampNeg) v10) r25 ((p0 + (3 : Int32) : Int32).toNatClampNeg) (((aw_uI (aw_uI (aw_uI (aw_uI S23 r25 ((p0 + x24 : Int32).toNatClampNeg) p1) r25 (((p0 + x24) + (1 : Int32) : Int32).toNatClampNeg) p2) r25 (((p0 + x24) + (2 : Int32) : Int32).toNatClampNeg) v10) r25 (((p0 + x24) + (3 : Int32) : Int32).toNatClampNeg) v10).1 r25 (p0 + (3 : Int32) : Int32).toNatClampNeg) + (1 : Int32))) (gV sh (fun S40 => P 1 S40))))) ∧ (p2 = 1 → vp_in ((p0 + x24) + (2 : Int32)) n27 ∧ ((¬ p2 = 1 → vp_in ((p0 + x24) + (3 : Int32)) n27 ∧ vp_in (p0 + (3 : Int32)) n27 ∧ vp_in (p0 + (3 : Int32)) n27 ∧ Sp l m_Md_swaps d 0 0 [.ref a, .int p0, .int p1] sh (aw_uI (aw_uI (aw_uI (aw_uI (aw_uI S23 r25 ((p0 + x24 : Int32).toNatClampNeg) p1) r25 (((p0 + x24) + (1 : Int32) : Int32).toNatClampNeg) p2) r25 (((p0 + x24) + (2 : Int32) : Int32).toNatClampNeg) (S1.1 r4 ((p0 + (17 : Int32)) + p1 : Int32).toNatClampNeg)) r25 (((p0 + x24) + (3 : Int32) : Int32).toNatClampNeg) (S1.1 r4 ((p0 + (17 : Int32)) + p1 : Int32).toNatClampNeg)) r25 ((p0 + (3 : Int32) : Int32).toNatClampNeg) (((aw_uI (aw_uI (aw_uI (aw_uI S23 r25 ((p0 + x24 : Int32).toNatClampNeg) p1) r25 (((p0 + x24) + (1 : Int32) : Int32).toNatClampNeg) p2) r25 (((p0 + x24) + (2 : Int32) : Int32).toNatClampNeg) (S1.1 r4 ((p0 + (17 : Int32)) + p1 : Int32).toNatClampNeg)) r25 (((p0 + x24) + (3 : Int32) : Int32).toNatClampNeg) (S1.1 r4 ((p0 + (17 : Int32)) + p1 : Int32).toNatClampNeg)).1 r25 (p0 + (3 : Int32) : Int32).toNatClampNeg) + (1 : Int32))) (gV sh (fun S46 => P 1 S46))) ∧ (p2 = 1 → vp_in ((p0 + x24) + (3 : Int32)) n27 ∧ vp_in (p0 + (3 : Int32)) n27 ∧ vp_in (p0 + (3 : Int32)) n27 ∧ Sp l m_Md_swaps d 0 0 [.ref a, .int p0, .int p1] sh (aw_uI (aw_uI (aw_uI (aw_uI (aw_uI S23 r25 ((p0 + x24 : Int32).toNatClampNeg) p1) r25 (((p0 + x24) + (1 : Int32) : Int32).toNatClampNeg) p2) r25 (((p0 + x24) + (2 : Int32) : Int32).toNatClampNeg) (S1.1 r4 ((p0 + (17 : Int32)) + p1 : Int32).toNatClampNeg)) r25 (((p0 + x24) + (3 : Int32) : Int32).toNatClampNeg) v10) r25 ((p0 + (3 : Int32) : Int32).toNatClampNeg) (((aw_uI (aw_uI (aw_uI (aw_uI S23 r25 ((p0 + x24 : Int32).toNatClampNeg) p1) r25 (((p0 + x24) + (1 : Int32) : Int32).toNatClampNeg) p2) r25 (((p0 + x24) + (2 : Int32) : Int32).toNatClampNeg) (S1.1 r4 ((p0 + (17 : Int32)) + p1 : Int32).toNatClampNeg)) r25 (((p0 + x24) + (3 : Int32) : Int32).toNatClampNeg) v10).1 r25 (p0 + (3 : Int32) : Int32).toNatClampNeg) + (1 : Int32))) (gV sh (fun S50 => P 1 S50))))))))) ∧ (x17 = 0 → P 0 S16))))))))))) ∧ (¬ x2 = (-1) → ∃ r52, S1.2.2 a 0 = some r52 ∧ Sp l m_Md_plaitRow d 0 0 [.int x2] sh S1 (gI sh (fun x54 S53 => ∃ n56, sh[r52]? = some (3, n56) ∧ vp_in ((p0 + x54) + (1 : Int32)) n56 ∧ (((S53.1 r52 ((p0 + x54) + (1 : Int32) : Int32).toNatClampNeg) = p2 → ∃ r59, S53.2.2 a 0 = some r59 ∧ ∃ n61, sh[r59]? = some (3, n61) ∧ vp_in ((p0 + (17 : Int32)) + p1) n61 ∧ vp_in (p0 + (0 : Int32)) n61 ∧ ¬ (S53.1 r59 (p0 + (0 : Int32) : Int32).toNatClampNeg) = 0 ∧ vp_in ((p0 + (17 : Int32)) + ((p1 + (1 : Int32)) - (p1 + (1 : Int32)) / (S53.1 r59 (p0 + (0 : Int32) : Int32).toNatClampNeg) * (S53.1 r59 (p0 + (0 : Int32) : Int32).toNatClampNeg))) n61 ∧ ∀ v65 : Int32, v65 = S53.1 r59 ((p0 + (17 : Int32)) + ((p1 + (1 : Int32)) - (p1 + (1 : Int32)) / (S53.1 r59 (p0 + (0 : Int32) : Int32).toNatClampNeg) * (S53.1 r59 (p0 + (0 : Int32) : Int32).toNatClampNeg)) : Int32).toNatClampNeg → vp_in (p0 + (3 : Int32)) n61 ∧ (((S53.1 r59 (p0 + (3 : Int32) : Int32).toNatClampNeg) = 40 → P 0 S53) ∧ (¬ (S53.1 r59 (p0 + (3 : Int32) : Int32).toNatClampNeg) = 40 → Sp l m_Md_leftOf d 0 0 [.ref a, .int p0, .int (S53.1 r59 ((p0 + (17 : Int32)) + p1 : Int32).toNatClampNeg)] sh S53 (gI sh (fun x69 S68 => ((x69 = 0 → P 0 S68) ∧ (¬ x69 = 0 → Sp l m_Md_leftOf d 0 0 [.ref a, .int p0, .int v65] sh S68 (gI sh (fun x72 S71 => ((¬ x72 = 0 → ∃ r74, S71.2.2 a 0 = some r74 ∧ ∃ n76, sh[r74]? = some (3, n76) ∧ vp_in (p0 + (3 : Int32)) n76 ∧ Sp l m_Md_plaitRow d 0 0 [.int (S71.1 r74 (p0 + (3 : Int32) : Int32).toNatClampNeg)] sh S71 (gI sh (fun x79 S78 => ∃ r80, S78.2.2 a 0 = some r80 ∧ ∃ n82, sh[r80]? = some (3, n82) ∧ vp_in (p0 + x79) n82 ∧ vp_in ((p0 + x79) + (1 : Int32)) n82 ∧ ((¬ p2 = 1 → vp_in ((p0 + x79) + (2 : Int32)) n82 ∧ ((¬ p2 = 1 → vp_in ((p0 + x79) + (3 : Int32)) n82 ∧ vp_in (p0 + (3 : Int32)) n82 ∧ vp_in (p0 + (3 : Int32)) n82 ∧ Sp l m_Md_swaps d 0 0 [.ref a, .int p0, .int p1] sh (aw_uI (aw_uI (aw_uI (aw_uI (aw_uI S78 r80 ((p0 + x79 : Int32).toNatClampNeg) p1) r80 (((p0 + x79) + (1 : Int32) : Int32).toNatClampNeg) p2) r80 (((p0 + x79) + (2 : Int32) : Int32).toNatClampNeg) v65) r80 (((p0 + x79) + (3 : Int32) : Int32).toNatClampNeg) (S53.1 r59 ((p0 + (17 : Int32)) + p1 : Int32).toNatClampNeg)) r80 ((p0 + (3 : Int32) : Int32).toNatClampNeg) (((aw_uI (aw_uI (aw_uI (aw_uI S78 r80 ((p0 + x79 : Int32).toNatClampNeg) p1) r80 (((p0 + x79) + (1 : Int32) : Int32).toNatClampNeg) p2) r80 (((p0 + x79) + (2 : Int32) : Int32).toNatClampNeg) v65) r80 (((p0 + x79) + (3 : Int32) : Int32).toNatClampNeg) (S53.1 r59 ((p0 + (17 : Int32)) + p1 : Int32).toNatClampNeg)).1 r80 (p0 + (3 : Int32) : Int32).toNatClampNeg) + (1 : Int32))) (gV sh (fun S91 => P 1 S91))) ∧ (p2 = 1 → vp_in ((p0 + x79) + (3 : Int32)) n82 ∧ vp_in (p0 + (3 : Int32)) n82 ∧ vp_in (p0 + (3 : Int32)) n82 ∧ Sp l m_Md_swaps d 0 0 [.ref a, .int p0, .int p1] sh (aw_uI (aw_uI (aw_uI (aw_uI (aw_uI S78 r80 ((p0 + x79 : Int32).toNatClampNeg) p1) r80 (((p0 + x79) + (1 : Int32) : Int32).toNatClampNeg) p2) r80 (((p0 + x79) + (2 : Int32) : Int32).toNatClampNeg) v65) r80 (((p0 + x79) + (3 : Int32) : Int32).toNatClampNeg) v65) r80 ((p0 + (3 : Int32) : Int32).toNatClampNeg) (((aw_uI (aw_uI (aw_uI (aw_uI S78 r80 ((p0 + x79 : Int32).toNatClampNeg) p1) r80 (((p0 + x79) + (1 : Int32) : Int32).toNatClampNeg) p2) r80 (((p0 + x79) + (2 : Int32) : Int32).toNatClampNeg) v65) r80 (((p0 + x79) + (3 : Int32) : Int32).toNatClampNeg) v65).1 r80 (p0 + (3 : Int32) : Int32).toNatClampNeg) + (1 : Int32))) (gV sh (fun S95 => P 1 S95))))) ∧ (p2 = 1 → vp_in ((p0 + x79) + (2 : Int32)) n82 ∧ ((¬ p2 = 1 → vp_in ((p0 + x79) + (3 : Int32)) n82 ∧ vp_in (p0 + (3 : Int32)) n82 ∧ vp_in (p0 + (3 : Int32)) n82 ∧ Sp l m_Md_swaps d 0 0 [.ref a, .int p0, .int p1] sh (aw_uI (aw_uI (aw_uI (aw_uI (aw_uI S78 r80 ((p0 + x79 : Int32).toNatClampNeg) p1) r80 (((p0 + x79) + (1 : Int32) : Int32).toNatClampNeg) p2) r80 (((p0 + x79) + (2 : Int32) : Int32).toNatClampNeg) (S53.1 r59 ((p0 + (17 : Int32)) + p1 : Int32).toNatClampNeg)) r80 (((p0 + x79) + (3 : Int32) : Int32).toNatClampNeg) (S53.1 r59 ((p0 + (17 : Int32)) + p1 : Int32).toNatClampNeg)) r80 ((p0 + (3 : Int32) : Int32).toNatClampNeg) (((aw_uI (aw_uI (aw_uI (aw_uI S78 r80 ((p0 + x79 : Int32).toNatClampNeg) p1) r80 (((p0 + x79) + (1 : Int32) : Int32).toNatClampNeg) p2) r80 (((p0 + x79) + (2 : Int32) : Int32).toNatClampNeg) (S53.1 r59 ((p0 + (17 : Int32)) + p1 : Int32).toNatClampNeg)) r80 (((p0 + x79) + (3 : Int32) : Int32).toNatClampNeg) (S53.1 r59 ((p0 + (17 : Int32)) + p1 : Int32).toNatClampNeg)).1 r80 (p0 + (3 : Int32) : Int32).toNatClampNeg) + (1 : Int32))) (gV sh (fun S101 => P 1 S101))) ∧ (p2 = 1 → vp_in ((p0 + x79) + (3 : Int32)) n82 ∧ vp_in (p0 + (3 : Int32)) n82 ∧ vp_in (p0 + (3 : Int32)) n82 ∧ Sp l m_Md_swaps d 0 0 [.ref a, .int p0, .int p1] sh (aw_uI (aw_uI (aw_uI (aw_uI (aw_uI S78 r80 ((p0 + x79 : Int32).toNatClampNeg) p1) r80 (((p0 + x79) + (1 : Int32) : Int32).toNatClampNeg) p2) r80 (((p0 + x79) + (2 : Int32) : Int32).toNatClampNeg) (S53.1 r59 ((p0 + (17 : Int32)) + p1 : Int32).toNatClampNeg)) r80 (((p0 + x79) + (3 : Int32) : Int32).toNatClampNeg) v65) r80 ((p0 + (3 : Int32) : Int32).toNatClampNeg) (((aw_uI (aw_uI (aw_uI (aw_uI S78 r80 ((p0 + x79 : Int32).toNatClampNeg) p1) r80 (((p0 + x79) + (1 : Int32) : Int32).toNatClampNeg) p2) r80 (((p0 + x79) + (2 : Int32) : Int32).toNatClampNeg) (S53.1 r59 ((p0 + (17 : Int32)) + p1 : Int32).toNatClampNeg)) r80 (((p0 + x79) + (3 : Int32) : Int32).toNatClampNeg) v65).1 r80 (p0 + (3 : Int32) : Int32).toNatClampNeg) + (1 : Int32))) (gV sh (fun S105 => P 1 S105))))))))) ∧ (x72 = 0 → P 0 S71))))))))))) ∧ (¬ (S53.1 r52 ((p0 + x54) + (1 : Int32) : Int32).toNatClampNeg) = p2 → Sp l m_Md_isFreeIn d 0 0 [.ref a, .int p0, .int x2] sh S53 (gI sh (fun x108 S107 => ((x108 = 0 → ∃ r110, S107.2.2 a 0 = some r110 ∧ ∃ n112, sh[r110]? = some (3, n112) ∧ vp_in ((p0 + (17 : Int32)) + p1) n112 ∧ vp_in (p0 + (0 : Int32)) n112 ∧ ¬ (S107.1 r110 (p0 + (0 : Int32) : Int32).toNatClampNeg) = 0 ∧ vp_in ((p0 + (17 : Int32)) + ((p1 + (1 : Int32)) - (p1 + (1 : Int32)) / (S107.1 r110 (p0 + (0 : Int32) : Int32).toNatClampNeg) * (S107.1 r110 (p0 + (0 : Int32) : Int32).toNatClampNeg))) n112 ∧ ∀ v116 : Int32, v116 = S107.1 r110 ((p0 + (17 : Int32)) + ((p1 + (1 : Int32)) - (p1 + (1 : Int32)) / (S107.1 r110 (p0 + (0 : Int32) : Int32).toNatClampNeg) * (S107.1 r110 (p0 + (0 : Int32) : Int32).toNatClampNeg)) : Int32).toNatClampNeg → vp_in (p0 + (3 : Int32)) n112 ∧ (((S107.1 r110 (p0 + (3 : Int32) : Int32).toNatClampNeg) = 40 → P 0 S107) ∧ (¬ (S107.1 r110 (p0 + (3 : Int32) : Int32).toNatClampNeg) = 40 → Sp l m_Md_leftOf d 0 0 [.ref a, .int p0, .int (S107.1 r110 ((p0 + (17 : Int32)) + p1 : Int32).toNatClampNeg)] sh S107 (gI sh (fun x120 S119 => ((x120 = 0 → P 0 S119) ∧ (¬ x120 = 0 → Sp l m_Md_leftOf d 0 0 [.ref a, .int p0, .int v116] sh S119 (gI sh (fun x123 S122 => ((¬ x123 = 0 → ∃ r125, S122.2.2 a 0 = some r125 ∧ ∃ n127, sh[r125]? = some (3, n127) ∧ vp_in (p0 + (3 : Int32)) n127 ∧ Sp l m_Md_plaitRow d 0 0 [.int (S122.1 r125 (p0 + (3 : Int32) : Int32).toNatClampNeg)] sh S122 (gI sh (fun x130 S129 => ∃ r131, S129.2.2 a 0 = some r131 ∧ ∃ n133, sh[r131]? = some (3, n133) ∧ vp_in (p0 + x130) n133 ∧ vp_in ((p0 + x130) + (1 : Int32)) n133 ∧ ((¬ p2 = 1 → vp_in ((p0 + x130) + (2 : Int32)) n133 ∧ ((¬ p2 = 1 → vp_in ((p0 + x130) + (3 : Int32)) n133 ∧ vp_in (p0 + (3 : Int32)) n133 ∧ vp_in (p0 + (3 : Int32)) n133 ∧ Sp l m_Md_swaps d 0 0 [.ref a, .int p0, .int p1] sh (aw_uI (aw_uI (aw_uI (aw_uI (aw_uI S129 r131 ((p0 + x130 : Int32).toNatClampNeg) p1) r131 (((p0 + x130) + (1 : Int32) : Int32).toNatClampNeg) p2) r131 (((p0 + x130) + (2 : Int32) : Int32).toNatClampNeg) v116) r131 (((p0 + x130) + (3 : Int32) : Int32).toNatClampNeg) (S107.1 r110 ((p0 + (17 : Int32)) + p1 : Int32).toNatClampNeg)) r131 ((p0 + (3 : Int32) : Int32).toNatClampNeg) (((aw_uI (aw_uI (aw_uI (aw_uI S129 r131 ((p0 + x130 : Int32).toNatClampNeg) p1) r131 (((p0 + x130) + (1 : Int32) : Int32).toNatClampNeg) p2) r131 (((p0 + x130) + (2 : Int32) : Int32).toNatClampNeg) v116) r131 (((p0 + x130) + (3 : Int32) : Int32).toNatClampNeg) (S107.1 r110 ((p0 + (17 : Int32)) + p1 : Int32).toNatClampNeg)).1 r131 (p0 + (3 : Int32) : Int32).toNatClampNeg) + (1 : Int32))) (gV sh (fun S142 => P 1 S142))) ∧ (p2 = 1 → vp_in ((p0 + x130) + (3 : Int32)) n133 ∧ vp_in (p0 + (3 : Int32)) n133 ∧ vp_in (p0 + (3 : Int32)) n133 ∧ Sp l m_Md_swaps d 0 0 [.ref a, .int p0, .int p1] sh (aw_uI (aw_uI (aw_uI (aw_uI (aw_uI S129 r131 ((p0 + x130 : Int32).toNatClampNeg) p1) r131 (((p0 + x130) + (1 : Int32) : Int32).toNatClampNeg) p2) r131 (((p0 + x130) + (2 : Int32) : Int32).toNatClampNeg) v116) r131 (((p0 + x130) + (3 : Int32) : Int32).toNatClampNeg) v116) r131 ((p0 + (3 : Int32) : Int32).toNatClampNeg) (((aw_uI (aw_uI (aw_uI (aw_uI S129 r131 ((p0 + x130 : Int32).toNatClampNeg) p1) r131 (((p0 + x130) + (1 : Int32) : Int32).toNatClampNeg) p2) r131 (((p0 + x130) + (2 : Int32) : Int32).toNatClampNeg) v116) r131 (((p0 + x130) + (3 : Int32) : Int32).toNatClampNeg) v116).1 r131 (p0 + (3 : Int32) : Int32).toNatClampNeg) + (1 : Int32))) (gV sh (fun S146 => P 1 S146))))) ∧ (p2 = 1 → vp_in ((p0 + x130) + (2 : Int32)) n133 ∧ ((¬ p2 = 1 → vp_in ((p0 + x130) + (3 : Int32)) n133 ∧ vp_in (p0 + (3 : Int32)) n133 ∧ vp_in (p0 + (3 : Int32)) n133 ∧ Sp l m_Md_swaps d 0 0 [.ref a, .int p0, .int p1] sh (aw_uI (aw_uI (aw_uI (aw_uI (aw_uI S129 r131 ((p0 + x130 : Int32).toNatClampNeg) p1) r131 (((p0 + x130) + (1 : Int32) : Int32).toNatClampNeg) p2) r131 (((p0 + x130) + (2 : Int32) : Int32).toNatClampNeg) (S107.1 r110 ((p0 + (17 : Int32)) + p1 : Int32).toNatClampNeg)) r131 (((p0 + x130) + (3 : Int32) : Int32).toNatClampNeg) (S107.1 r110 ((p0 + (17 : Int32)) + p1 : Int32).toNatClampNeg)) r131 ((p0 + (3 : Int32) : Int32).toNatClampNeg) (((aw_uI (aw_uI (aw_uI (aw_uI S129 r131 ((p0 + x130 : Int32).toNatClampNeg) p1) r131 (((p0 + x130) + (1 : Int32) : Int32).toNatClampNeg) p2) r131 (((p0 + x130) + (2 : Int32) : Int32).toNatClampNeg) (S107.1 r110 ((p0 + (17 : Int32)) + p1 : Int32).toNatClampNeg)) r131 (((p0 + x130) + (3 : Int32) : Int32).toNatClampNeg) (S107.1 r110 ((p0 + (17 : Int32)) + p1 : Int32).toNatClampNeg)).1 r131 (p0 + (3 : Int32) : Int32).toNatClampNeg) + (1 : Int32))) (gV sh (fun S152 => P 1 S152))) ∧ (p2 = 1 → vp_in ((p0 + x130) + (3 : Int32)) n133 ∧ vp_in (p0 + (3 : Int32)) n133 ∧ vp_in (p0 + (3 : Int32)) n133 ∧ Sp l m_Md_swaps d 0 0 [.ref a, .int p0, .int p1] sh (aw_uI (aw_uI (aw_uI (aw_uI (aw_uI S129 r131 ((p0 + x130 : Int32).toNatClampNeg) p1) r131 (((p0 + x130) + (1 : Int32) : Int32).toNatClampNeg) p2) r131 (((p0 + x130) + (2 : Int32) : Int32).toNatClampNeg) (S107.1 r110 ((p0 + (17 : Int32)) + p1 : Int32).toNatClampNeg)) r131 (((p0 + x130) + (3 : Int32) : Int32).toNatClampNeg) v116) r131 ((p0 + (3 : Int32) : Int32).toNatClampNeg) (((aw_uI (aw_uI (aw_uI (aw_uI S129 r131 ((p0 + x130 : Int32).toNatClampNeg) p1) r131 (((p0 + x130) + (1 : Int32) : Int32).toNatClampNeg) p2) r131 (((p0 + x130) + (2 : Int32) : Int32).toNatClampNeg) (S107.1 r110 ((p0 + (17 : Int32)) + p1 : Int32).toNatClampNeg)) r131 (((p0 + x130) + (3 : Int32) : Int32).toNatClampNeg) v116).1 r131 (p0 + (3 : Int32) : Int32).toNatClampNeg) + (1 : Int32))) (gV sh (fun S156 => P 1 S156))))))))) ∧ (x123 = 0 → P 0 S122))))))))))) ∧ (¬ x108 = 0 → Sp l m_Md_swaps d 0 0 [.ref a, .int p0, .int p1] sh S107 (gV sh (fun S158 => Sp l m_Md_loses d 0 0 [.ref a, .int p0, .int x2] sh S158 (gV sh (fun S159 => P 2 S159))))))))))))))))) : Sp l m_Md_dances (d + 1) 0 0 [.ref a, .int p0, .int p1, .int p2] sh S (gI sh P) := by
  refine Sp.of k_Md_dances (ls := [.ref a, .int p0, .int p1, .int p2, .null, .null, .null, .null]) rfl (Nat.le_of_ble_eq_true rfl) ?_
  refine r_aload_n (pc := 0) d_Md_dances_0 (x := a) rfl ?_
  refine r_iload_n (pc := 1) d_Md_dances_1 (x := p0) rfl ?_
  refine r_iload_n (pc := 2) d_Md_dances_2 (x := p1) rfl ?_
  refine r_callV (pc := 3) (k := a) (As := [.int p0, .int p1]) (rest := []) (mc' := 0) (ms' := 0) lk_Md_221 in_Md_latestIn se_Md_latestIn sa rfl d_Md_dances_3 k_Md_latestIn rfl rfl (Nat.le_of_ble_eq_true rfl) (by decide) (by decide) (Sp.mono h ?_)
  rintro rS1 shS1 S1 ⟨qS1, x2, uS1, h⟩
  subst uS1
  rw [qS1]
  refine r_istore (pc := 6) (hd := d_Md_dances_6) (hi := by decide) (ls2 := [.ref a, .int p0, .int p1, .int p2, .int x2, .null, .null, .null]) (h2 := rfl) ?_
  refine r_iload (pc := 8) d_Md_dances_8 (x := x2) rfl ?_
  refine r_iconst (pc := 10) d_Md_dances_10 (v := (-1)) (by decide) ?_
  refine r_icmp_eq (pc := 11) d_Md_dances_11 (tgt := 57) (by decide) (fun c3 => ?_) (fun c3 => ?_)
  · replace h := h.1 c3
    refine r_aload_n (pc := 57) d_Md_dances_57 (x := a) rfl ?_
    obtain ⟨r4, er4, h⟩ := h
    refine r_getR (pc := 58) d_Md_dances_58 f_Md_7 sa (Or.inr ⟨_, rfl⟩) (r := r4) er4 ?_
    refine r_iload_n (pc := 61) d_Md_dances_61 (x := p0) rfl ?_
    refine r_bipush (pc := 62) d_Md_dances_62 (v := 17) (by decide) ?_
    refine r_iadd (pc := 64) d_Md_dances_64 ?_
    refine r_iload_n (pc := 65) d_Md_dances_65 (x := p1) rfl ?_
    refine r_iadd (pc := 66) d_Md_dances_66 ?_
    obtain ⟨n6, s5, h⟩ := h
    obtain ⟨g7, h⟩ := h
    refine r_iald (pc := 67) d_Md_dances_67 s5 g7 ?_
    refine r_istore (pc := 68) (hd := d_Md_dances_68) (hi := by decide) (ls2 := [.ref a, .int p0, .int p1, .int p2, .int x2, .int (S1.1 r4 ((p0 + (17 : Int32)) + p1 : Int32).toNatClampNeg), .null, .null]) (h2 := rfl) ?_
    refine r_aload_n (pc := 70) d_Md_dances_70 (x := a) rfl ?_
    refine r_getR (pc := 71) d_Md_dances_71 f_Md_7 sa (Or.inr ⟨_, rfl⟩) (r := r4) er4 ?_
    refine r_iload_n (pc := 74) d_Md_dances_74 (x := p0) rfl ?_
    refine r_bipush (pc := 75) d_Md_dances_75 (v := 17) (by decide) ?_
    refine r_iadd (pc := 77) d_Md_dances_77 ?_
    refine r_iload_n (pc := 78) d_Md_dances_78 (x := p1) rfl ?_
    refine r_iconst (pc := 79) d_Md_dances_79 (v := 1) (by decide) ?_
    refine r_iadd (pc := 80) d_Md_dances_80 ?_
    refine r_aload_n (pc := 81) d_Md_dances_81 (x := a) rfl ?_
    refine r_getR (pc := 82) d_Md_dances_82 f_Md_7 sa (Or.inr ⟨_, rfl⟩) (r := r4) er4 ?_
    refine r_iload_n (pc := 85) d_Md_dances_85 (x := p0) rfl ?_
    refine r_iconst (pc := 86) d_Md_dances_86 (v := 0) (by decide) ?_
    refine r_iadd (pc := 87) d_Md_dances_87 ?_
    obtain ⟨g8, h⟩ := h
    refine r_iald (pc := 88) d_Md_dances_88 s5 g8 ?_
    obtain ⟨g51, h⟩ := h
    refine r_irem (pc := 89) d_Md_dances_89 g51 ?_
    refine r_iadd (pc := 90) d_Md_dances_90 ?_
    obtain ⟨g9, h⟩ := h
    refine r_iald (pc := 91) d_Md_dances_91 s5 g9 ?_
    refine r_ni (fun v10 ev10 => ?_)
    replace h := h v10 ev10
    refine r_istore (pc := 92) (hd := d_Md_dances_92) (hi := by decide) (ls2 := [.ref a, .int p0, .int p1, .int p2, .int x2, .int (S1.1 r4 ((p0 + (17 : Int32)) + p1 : Int32).toNatClampNeg), .int v10, .null]) (h2 := rfl) ?_
    refine r_aload_n (pc := 94) d_Md_dances_94 (x := a) rfl ?_
    refine r_getR (pc := 95) d_Md_dances_95 f_Md_7 sa (Or.inr ⟨_, rfl⟩) (r := r4) er4 ?_
    refine r_iload_n (pc := 98) d_Md_dances_98 (x := p0) rfl ?_
    refine r_iconst (pc := 99) d_Md_dances_99 (v := 3) (by decide) ?_
    refine r_iadd (pc := 100) d_Md_dances_100 ?_
    obtain ⟨g11, h⟩ := h
    refine r_iald (pc := 101) d_Md_dances_101 s5 g11 ?_
    refine r_bipush (pc := 102) d_Md_dances_102 (v := 40) (by decide) ?_
    refine r_icmp_eq (pc := 104) d_Md_dances_104 (tgt := 127) (by decide) (fun c12 => ?_) (fun c12 => ?_)
    · replace h := h.1 c12
      refine r_iconst (pc := 127) d_Md_dances_127 (v := 0) (by decide) ?_
      exact r_ireturn (pc := 128) d_Md_dances_128 rfl rfl (Nat.le_refl _) ⟨rfl, _, rfl, h⟩
    · replace h := h.2 c12
      refine r_aload_n (pc := 107) d_Md_dances_107 (x := a) rfl ?_
      refine r_iload_n (pc := 108) d_Md_dances_108 (x := p0) rfl ?_
      refine r_iload (pc := 109) d_Md_dances_109 (x := (S1.1 r4 ((p0 + (17 : Int32)) + p1 : Int32).toNatClampNeg)) rfl ?_
      refine r_callV (pc := 111) (k := a) (As := [.int p0, .int (S1.1 r4 ((p0 + (17 : Int32)) + p1 : Int32).toNatClampNeg)]) (rest := []) (mc' := 0) (ms' := 0) lk_Md_235 in_Md_leftOf se_Md_leftOf sa rfl d_Md_dances_111 k_Md_leftOf rfl rfl (Nat.le_of_ble_eq_true rfl) (by decide) (by decide) (Sp.mono h ?_)
      rintro rS13 shS13 S13 ⟨qS13, x14, uS13, h⟩
      subst uS13
      rw [qS13]
      refine r_if_eq (pc := 114) d_Md_dances_114 (tgt := 127) (by decide) (fun c15 => ?_) (fun c15 => ?_)
      · replace h := h.1 c15
        refine r_iconst (pc := 127) d_Md_dances_127 (v := 0) (by decide) ?_
        exact r_ireturn (pc := 128) d_Md_dances_128 rfl rfl (Nat.le_refl _) ⟨rfl, _, rfl, h⟩
      · replace h := h.2 c15
        refine r_aload_n (pc := 117) d_Md_dances_117 (x := a) rfl ?_
        refine r_iload_n (pc := 118) d_Md_dances_118 (x := p0) rfl ?_
        refine r_iload (pc := 119) d_Md_dances_119 (x := v10) rfl ?_
        refine r_callV (pc := 121) (k := a) (As := [.int p0, .int v10]) (rest := []) (mc' := 0) (ms' := 0) lk_Md_235 in_Md_leftOf se_Md_leftOf sa rfl d_Md_dances_121 k_Md_leftOf rfl rfl (Nat.le_of_ble_eq_true rfl) (by decide) (by decide) (Sp.mono h ?_)
        rintro rS16 shS16 S16 ⟨qS16, x17, uS16, h⟩
        subst uS16
        rw [qS16]
        refine r_if_ne (pc := 124) d_Md_dances_124 (tgt := 129) (by decide) (fun c18 => ?_) (fun c18 => ?_)
        · replace h := h.1 c18
          refine r_iload_n (pc := 129) d_Md_dances_129 (x := p0) rfl ?_
          refine r_aload_n (pc := 130) d_Md_dances_130 (x := a) rfl ?_
          obtain ⟨r19, er19, h⟩ := h
          refine r_getR (pc := 131) d_Md_dances_131 f_Md_7 sa (Or.inr ⟨_, rfl⟩) (r := r19) er19 ?_
          refine r_iload_n (pc := 134) d_Md_dances_134 (x := p0) rfl ?_
          refine r_iconst (pc := 135) d_Md_dances_135 (v := 3) (by decide) ?_
          refine r_iadd (pc := 136) d_Md_dances_136 ?_
          obtain ⟨n21, s20, h⟩ := h
          obtain ⟨g22, h⟩ := h
          refine r_iald (pc := 137) d_Md_dances_137 s20 g22 ?_
          refine r_callS (pc := 138) (k := 0) (As := [.int (S16.1 r19 (p0 + (3 : Int32) : Int32).toNatClampNeg)]) (rest := [.int p0]) (mc' := 0) (ms' := 0) lk_Md_211 st_Md_plaitRow d_Md_dances_138 k_Md_plaitRow rfl rfl (Nat.le_of_ble_eq_true rfl) (by decide) (by decide) (Sp.mono h ?_)
          rintro rS23 shS23 S23 ⟨qS23, x24, uS23, h⟩
          subst uS23
          rw [qS23]
          refine r_iadd (pc := 141) d_Md_dances_141 ?_
          refine r_istore (pc := 142) (hd := d_Md_dances_142) (hi := by decide) (ls2 := [.ref a, .int p0, .int p1, .int p2, .int x2, .int (S1.1 r4 ((p0 + (17 : Int32)) + p1 : Int32).toNatClampNeg), .int v10, .int (p0 + x24)]) (h2 := rfl) ?_
          refine r_aload_n (pc := 144) d_Md_dances_144 (x := a) rfl ?_
          obtain ⟨r25, er25, h⟩ := h
          refine r_getR (pc := 145) d_Md_dances_145 f_Md_7 sa (Or.inr ⟨_, rfl⟩) (r := r25) er25 ?_
          refine r_iload (pc := 148) d_Md_dances_148 (x := (p0 + x24)) rfl ?_
          refine r_iload_n (pc := 150) d_Md_dances_150 (x := p1) rfl ?_
          obtain ⟨n27, s26, h⟩ := h
          obtain ⟨g28, h⟩ := h
          refine r_iast (pc := 151) d_Md_dances_151 s26 g28 ?_
          refine r_aload_n (pc := 152) d_Md_dances_152 (x := a) rfl ?_
          refine r_getR (pc := 153) d_Md_dances_153 f_Md_7 sa (Or.inr ⟨_, rfl⟩) (r := r25) er25 ?_
          refine r_iload (pc := 156) d_Md_dances_156 (x := (p0 + x24)) rfl ?_
          refine r_iconst (pc := 158) d_Md_dances_158 (v := 1) (by decide) ?_
          refine r_iadd (pc := 159) d_Md_dances_159 ?_
          refine r_iload_n (pc := 160) d_Md_dances_160 (x := p2) rfl ?_
          obtain ⟨g29, h⟩ := h
          refine r_iast (pc := 161) d_Md_dances_161 s26 g29 ?_
          refine r_aload_n (pc := 162) d_Md_dances_162 (x := a) rfl ?_
          refine r_getR (pc := 163) d_Md_dances_163 f_Md_7 sa (Or.inr ⟨_, rfl⟩) (r := r25) er25 ?_
          refine r_iload (pc := 166) d_Md_dances_166 (x := (p0 + x24)) rfl ?_
          refine r_iconst (pc := 168) d_Md_dances_168 (v := 2) (by decide) ?_
          refine r_iadd (pc := 169) d_Md_dances_169 ?_
          refine r_iload_n (pc := 170) d_Md_dances_170 (x := p2) rfl ?_
          refine r_iconst (pc := 171) d_Md_dances_171 (v := 1) (by decide) ?_
          refine r_icmp_ne (pc := 172) d_Md_dances_172 (tgt := 180) (by decide) (fun c30 => ?_) (fun c30 => ?_)
          · replace h := h.1 c30
            refine r_iload (pc := 180) d_Md_dances_180 (x := v10) rfl ?_
            obtain ⟨g31, h⟩ := h
            refine r_iast (pc := 182) d_Md_dances_182 s26 g31 ?_
            refine r_aload_n (pc := 183) d_Md_dances_183 (x := a) rfl ?_
            refine r_getR (pc := 184) d_Md_dances_184 f_Md_7 sa (Or.inr ⟨_, rfl⟩) (r := r25) er25 ?_
            refine r_iload (pc := 187) d_Md_dances_187 (x := (p0 + x24)) rfl ?_
            refine r_iconst (pc := 189) d_Md_dances_189 (v := 3) (by decide) ?_
            refine r_iadd (pc := 190) d_Md_dances_190 ?_
            refine r_iload_n (pc := 191) d_Md_dances_191 (x := p2) rfl ?_
            refine r_iconst (pc := 192) d_Md_dances_192 (v := 1) (by decide) ?_
            refine r_icmp_ne (pc := 193) d_Md_dances_193 (tgt := 201) (by decide) (fun c32 => ?_) (fun c32 => ?_)
            · replace h := h.1 c32
              refine r_iload (pc := 201) d_Md_dances_201 (x := (S1.1 r4 ((p0 + (17 : Int32)) + p1 : Int32).toNatClampNeg)) rfl ?_
              obtain ⟨g33, h⟩ := h
              refine r_iast (pc := 203) d_Md_dances_203 s26 g33 ?_
              refine r_aload_n (pc := 204) d_Md_dances_204 (x := a) rfl ?_
              refine r_getR (pc := 205) d_Md_dances_205 f_Md_7 sa (Or.inr ⟨_, rfl⟩) (r := r25) er25 ?_
              refine r_iload_n (pc := 208) d_Md_dances_208 (x := p0) rfl ?_
              refine r_iconst (pc := 209) d_Md_dances_209 (v := 3) (by decide) ?_
              refine r_iadd (pc := 210) d_Md_dances_210 ?_
              refine r_dup2 (pc := 211) d_Md_dances_211 rfl rfl ?_
              obtain ⟨g34, h⟩ := h
              refine r_iald (pc := 212) d_Md_dances_212 s26 g34 ?_
              refine r_iconst (pc := 213) d_Md_dances_213 (v := 1) (by decide) ?_
              refine r_iadd (pc := 214) d_Md_dances_214 ?_
              obtain ⟨g35, h⟩ := h
              refine r_iast (pc := 215) d_Md_dances_215 s26 g35 ?_
              refine r_aload_n (pc := 216) d_Md_dances_216 (x := a) rfl ?_
              refine r_iload_n (pc := 217) d_Md_dances_217 (x := p0) rfl ?_
              refine r_iload_n (pc := 218) d_Md_dances_218 (x := p1) rfl ?_
              refine r_callV (pc := 219) (k := a) (As := [.int p0, .int p1]) (rest := []) (mc' := 0) (ms' := 0) lk_Md_228 in_Md_swaps se_Md_swaps sa rfl d_Md_dances_219 k_Md_swaps rfl rfl (Nat.le_of_ble_eq_true rfl) (by decide) (by decide) (Sp.mono h ?_)
              rintro rS36 shS36 S36 ⟨qS36, uS36, h⟩
              subst uS36
              rw [qS36]
              refine r_iconst (pc := 222) d_Md_dances_222 (v := 1) (by decide) ?_
              exact r_ireturn (pc := 223) d_Md_dances_223 rfl rfl (Nat.le_refl _) ⟨rfl, _, rfl, h⟩
            · replace h := h.2 c32
              refine r_iload (pc := 196) d_Md_dances_196 (x := v10) rfl ?_
              refine r_goto (pc := 198) d_Md_dances_198 (tgt := 203) (by decide) ?_
              obtain ⟨g37, h⟩ := h
              refine r_iast (pc := 203) d_Md_dances_203 s26 g37 ?_
              refine r_aload_n (pc := 204) d_Md_dances_204 (x := a) rfl ?_
              refine r_getR (pc := 205) d_Md_dances_205 f_Md_7 sa (Or.inr ⟨_, rfl⟩) (r := r25) er25 ?_
              refine r_iload_n (pc := 208) d_Md_dances_208 (x := p0) rfl ?_
              refine r_iconst (pc := 209) d_Md_dances_209 (v := 3) (by decide) ?_
              refine r_iadd (pc := 210) d_Md_dances_210 ?_
              refine r_dup2 (pc := 211) d_Md_dances_211 rfl rfl ?_
              obtain ⟨g38, h⟩ := h
              refine r_iald (pc := 212) d_Md_dances_212 s26 g38 ?_
              refine r_iconst (pc := 213) d_Md_dances_213 (v := 1) (by decide) ?_
              refine r_iadd (pc := 214) d_Md_dances_214 ?_
              obtain ⟨g39, h⟩ := h
              refine r_iast (pc := 215) d_Md_dances_215 s26 g39 ?_
              refine r_aload_n (pc := 216) d_Md_dances_216 (x := a) rfl ?_
              refine r_iload_n (pc := 217) d_Md_dances_217 (x := p0) rfl ?_
              refine r_iload_n (pc := 218) d_Md_dances_218 (x := p1) rfl ?_
              refine r_callV (pc := 219) (k := a) (As := [.int p0, .int p1]) (rest := []) (mc' := 0) (ms' := 0) lk_Md_228 in_Md_swaps se_Md_swaps sa rfl d_Md_dances_219 k_Md_swaps rfl rfl (Nat.le_of_ble_eq_true rfl) (by decide) (by decide) (Sp.mono h ?_)
              rintro rS40 shS40 S40 ⟨qS40, uS40, h⟩
              subst uS40
              rw [qS40]
              refine r_iconst (pc := 222) d_Md_dances_222 (v := 1) (by decide) ?_
              exact r_ireturn (pc := 223) d_Md_dances_223 rfl rfl (Nat.le_refl _) ⟨rfl, _, rfl, h⟩
          · replace h := h.2 c30
            refine r_iload (pc := 175) d_Md_dances_175 (x := (S1.1 r4 ((p0 + (17 : Int32)) + p1 : Int32).toNatClampNeg)) rfl ?_
            refine r_goto (pc := 177) d_Md_dances_177 (tgt := 182) (by decide) ?_
            obtain ⟨g41, h⟩ := h
            refine r_iast (pc := 182) d_Md_dances_182 s26 g41 ?_
            refine r_aload_n (pc := 183) d_Md_dances_183 (x := a) rfl ?_
            refine r_getR (pc := 184) d_Md_dances_184 f_Md_7 sa (Or.inr ⟨_, rfl⟩) (r := r25) er25 ?_
            refine r_iload (pc := 187) d_Md_dances_187 (x := (p0 + x24)) rfl ?_
            refine r_iconst (pc := 189) d_Md_dances_189 (v := 3) (by decide) ?_
            refine r_iadd (pc := 190) d_Md_dances_190 ?_
            refine r_iload_n (pc := 191) d_Md_dances_191 (x := p2) rfl ?_
            refine r_iconst (pc := 192) d_Md_dances_192 (v := 1) (by decide) ?_
            refine r_icmp_ne (pc := 193) d_Md_dances_193 (tgt := 201) (by decide) (fun c42 => ?_) (fun c42 => ?_)
            · replace h := h.1 c42
              refine r_iload (pc := 201) d_Md_dances_201 (x := (S1.1 r4 ((p0 + (17 : Int32)) + p1 : Int32).toNatClampNeg)) rfl ?_
              obtain ⟨g43, h⟩ := h
              refine r_iast (pc := 203) d_Md_dances_203 s26 g43 ?_
              refine r_aload_n (pc := 204) d_Md_dances_204 (x := a) rfl ?_
              refine r_getR (pc := 205) d_Md_dances_205 f_Md_7 sa (Or.inr ⟨_, rfl⟩) (r := r25) er25 ?_
              refine r_iload_n (pc := 208) d_Md_dances_208 (x := p0) rfl ?_
              refine r_iconst (pc := 209) d_Md_dances_209 (v := 3) (by decide) ?_
              refine r_iadd (pc := 210) d_Md_dances_210 ?_
              refine r_dup2 (pc := 211) d_Md_dances_211 rfl rfl ?_
              obtain ⟨g44, h⟩ := h
              refine r_iald (pc := 212) d_Md_dances_212 s26 g44 ?_
              refine r_iconst (pc := 213) d_Md_dances_213 (v := 1) (by decide) ?_
              refine r_iadd (pc := 214) d_Md_dances_214 ?_
              obtain ⟨g45, h⟩ := h
              refine r_iast (pc := 215) d_Md_dances_215 s26 g45 ?_
              refine r_aload_n (pc := 216) d_Md_dances_216 (x := a) rfl ?_
              refine r_iload_n (pc := 217) d_Md_dances_217 (x := p0) rfl ?_
              refine r_iload_n (pc := 218) d_Md_dances_218 (x := p1) rfl ?_
              refine r_callV (pc := 219) (k := a) (As := [.int p0, .int p1]) (rest := []) (mc' := 0) (ms' := 0) lk_Md_228 in_Md_swaps se_Md_swaps sa rfl d_Md_dances_219 k_Md_swaps rfl rfl (Nat.le_of_ble_eq_true rfl) (by decide) (by decide) (Sp.mono h ?_)
              rintro rS46 shS46 S46 ⟨qS46, uS46, h⟩
              subst uS46
              rw [qS46]
              refine r_iconst (pc := 222) d_Md_dances_222 (v := 1) (by decide) ?_
              exact r_ireturn (pc := 223) d_Md_dances_223 rfl rfl (Nat.le_refl _) ⟨rfl, _, rfl, h⟩
            · replace h := h.2 c42
              refine r_iload (pc := 196) d_Md_dances_196 (x := v10) rfl ?_
              refine r_goto (pc := 198) d_Md_dances_198 (tgt := 203) (by decide) ?_
              obtain ⟨g47, h⟩ := h
              refine r_iast (pc := 203) d_Md_dances_203 s26 g47 ?_
              refine r_aload_n (pc := 204) d_Md_dances_204 (x := a) rfl ?_
              refine r_getR (pc := 205) d_Md_dances_205 f_Md_7 sa (Or.inr ⟨_, rfl⟩) (r := r25) er25 ?_
              refine r_iload_n (pc := 208) d_Md_dances_208 (x := p0) rfl ?_
              refine r_iconst (pc := 209) d_Md_dances_209 (v := 3) (by decide) ?_
              refine r_iadd (pc := 210) d_Md_dances_210 ?_
              refine r_dup2 (pc := 211) d_Md_dances_211 rfl rfl ?_
              obtain ⟨g48, h⟩ := h
              refine r_iald (pc := 212) d_Md_dances_212 s26 g48 ?_
              refine r_iconst (pc := 213) d_Md_dances_213 (v := 1) (by decide) ?_
              refine r_iadd (pc := 214) d_Md_dances_214 ?_
              obtain ⟨g49, h⟩ := h
              refine r_iast (pc := 215) d_Md_dances_215 s26 g49 ?_
              refine r_aload_n (pc := 216) d_Md_dances_216 (x := a) rfl ?_
              refine r_iload_n (pc := 217) d_Md_dances_217 (x := p0) rfl ?_
              refine r_iload_n (pc := 218) d_Md_dances_218 (x := p1) rfl ?_
              refine r_callV (pc := 219) (k := a) (As := [.int p0, .int p1]) (rest := []) (mc' := 0) (ms' := 0) lk_Md_228 in_Md_swaps se_Md_swaps sa rfl d_Md_dances_219 k_Md_swaps rfl rfl (Nat.le_of_ble_eq_true rfl) (by decide) (by decide) (Sp.mono h ?_)
              rintro rS50 shS50 S50 ⟨qS50, uS50, h⟩
              subst uS50
              rw [qS50]
              refine r_iconst (pc := 222) d_Md_dances_222 (v := 1) (by decide) ?_
              exact r_ireturn (pc := 223) d_Md_dances_223 rfl rfl (Nat.le_refl _) ⟨rfl, _, rfl, h⟩
        · replace h := h.2 c18
          refine r_iconst (pc := 127) d_Md_dances_127 (v := 0) (by decide) ?_
          exact r_ireturn (pc := 128) d_Md_dances_128 rfl rfl (Nat.le_refl _) ⟨rfl, _, rfl, h⟩
  · replace h := h.2 c3
    refine r_aload_n (pc := 14) d_Md_dances_14 (x := a) rfl ?_
    obtain ⟨r52, er52, h⟩ := h
    refine r_getR (pc := 15) d_Md_dances_15 f_Md_7 sa (Or.inr ⟨_, rfl⟩) (r := r52) er52 ?_
    refine r_iload_n (pc := 18) d_Md_dances_18 (x := p0) rfl ?_
    refine r_iload (pc := 19) d_Md_dances_19 (x := x2) rfl ?_
    refine r_callS (pc := 21) (k := 0) (As := [.int x2]) (rest := [.int p0, .ref r52]) (mc' := 0) (ms' := 0) lk_Md_211 st_Md_plaitRow d_Md_dances_21 k_Md_plaitRow rfl rfl (Nat.le_of_ble_eq_true rfl) (by decide) (by decide) (Sp.mono h ?_)
    rintro rS53 shS53 S53 ⟨qS53, x54, uS53, h⟩
    subst uS53
    rw [qS53]
    refine r_iadd (pc := 24) d_Md_dances_24 ?_
    refine r_iconst (pc := 25) d_Md_dances_25 (v := 1) (by decide) ?_
    refine r_iadd (pc := 26) d_Md_dances_26 ?_
    obtain ⟨n56, s55, h⟩ := h
    obtain ⟨g57, h⟩ := h
    refine r_iald (pc := 27) d_Md_dances_27 s55 g57 ?_
    refine r_iload_n (pc := 28) d_Md_dances_28 (x := p2) rfl ?_
    refine r_icmp_eq (pc := 29) d_Md_dances_29 (tgt := 57) (by decide) (fun c58 => ?_) (fun c58 => ?_)
    · replace h := h.1 c58
      refine r_aload_n (pc := 57) d_Md_dances_57 (x := a) rfl ?_
      obtain ⟨r59, er59, h⟩ := h
      refine r_getR (pc := 58) d_Md_dances_58 f_Md_7 sa (Or.inr ⟨_, rfl⟩) (r := r59) er59 ?_
      refine r_iload_n (pc := 61) d_Md_dances_61 (x := p0) rfl ?_
      refine r_bipush (pc := 62) d_Md_dances_62 (v := 17) (by decide) ?_
      refine r_iadd (pc := 64) d_Md_dances_64 ?_
      refine r_iload_n (pc := 65) d_Md_dances_65 (x := p1) rfl ?_
      refine r_iadd (pc := 66) d_Md_dances_66 ?_
      obtain ⟨n61, s60, h⟩ := h
      obtain ⟨g62, h⟩ := h
      refine r_iald (pc := 67) d_Md_dances_67 s60 g62 ?_
      refine r_istore (pc := 68) (hd := d_Md_dances_68) (hi := by decide) (ls2 := [.ref a, .int p0, .int p1, .int p2, .int x2, .int (S53.1 r59 ((p0 + (17 : Int32)) + p1 : Int32).toNatClampNeg), .null, .null]) (h2 := rfl) ?_
      refine r_aload_n (pc := 70) d_Md_dances_70 (x := a) rfl ?_
      refine r_getR (pc := 71) d_Md_dances_71 f_Md_7 sa (Or.inr ⟨_, rfl⟩) (r := r59) er59 ?_
      refine r_iload_n (pc := 74) d_Md_dances_74 (x := p0) rfl ?_
      refine r_bipush (pc := 75) d_Md_dances_75 (v := 17) (by decide) ?_
      refine r_iadd (pc := 77) d_Md_dances_77 ?_
      refine r_iload_n (pc := 78) d_Md_dances_78 (x := p1) rfl ?_
      refine r_iconst (pc := 79) d_Md_dances_79 (v := 1) (by decide) ?_
      refine r_iadd (pc := 80) d_Md_dances_80 ?_
      refine r_aload_n (pc := 81) d_Md_dances_81 (x := a) rfl ?_
      refine r_getR (pc := 82) d_Md_dances_82 f_Md_7 sa (Or.inr ⟨_, rfl⟩) (r := r59) er59 ?_
      refine r_iload_n (pc := 85) d_Md_dances_85 (x := p0) rfl ?_
      refine r_iconst (pc := 86) d_Md_dances_86 (v := 0) (by decide) ?_
      refine r_iadd (pc := 87) d_Md_dances_87 ?_
      obtain ⟨g63, h⟩ := h
      refine r_iald (pc := 88) d_Md_dances_88 s60 g63 ?_
      obtain ⟨g106, h⟩ := h
      refine r_irem (pc := 89) d_Md_dances_89 g106 ?_
      refine r_iadd (pc := 90) d_Md_dances_90 ?_
      obtain ⟨g64, h⟩ := h
      refine r_iald (pc := 91) d_Md_dances_91 s60 g64 ?_
      refine r_ni (fun v65 ev65 => ?_)
      replace h := h v65 ev65
      refine r_istore (pc := 92) (hd := d_Md_dances_92) (hi := by decide) (ls2 := [.ref a, .int p0, .int p1, .int p2, .int x2, .int (S53.1 r59 ((p0 + (17 : Int32)) + p1 : Int32).toNatClampNeg), .int v65, .null]) (h2 := rfl) ?_
      refine r_aload_n (pc := 94) d_Md_dances_94 (x := a) rfl ?_
      refine r_getR (pc := 95) d_Md_dances_95 f_Md_7 sa (Or.inr ⟨_, rfl⟩) (r := r59) er59 ?_
      refine r_iload_n (pc := 98) d_Md_dances_98 (x := p0) rfl ?_
      refine r_iconst (pc := 99) d_Md_dances_99 (v := 3) (by decide) ?_
      refine r_iadd (pc := 100) d_Md_dances_100 ?_
      obtain ⟨g66, h⟩ := h
      refine r_iald (pc := 101) d_Md_dances_101 s60 g66 ?_
      refine r_bipush (pc := 102) d_Md_dances_102 (v := 40) (by decide) ?_
      refine r_icmp_eq (pc := 104) d_Md_dances_104 (tgt := 127) (by decide) (fun c67 => ?_) (fun c67 => ?_)
      · replace h := h.1 c67
        refine r_iconst (pc := 127) d_Md_dances_127 (v := 0) (by decide) ?_
        exact r_ireturn (pc := 128) d_Md_dances_128 rfl rfl (Nat.le_refl _) ⟨rfl, _, rfl, h⟩
      · replace h := h.2 c67
        refine r_aload_n (pc := 107) d_Md_dances_107 (x := a) rfl ?_
        refine r_iload_n (pc := 108) d_Md_dances_108 (x := p0) rfl ?_
        refine r_iload (pc := 109) d_Md_dances_109 (x := (S53.1 r59 ((p0 + (17 : Int32)) + p1 : Int32).toNatClampNeg)) rfl ?_
        refine r_callV (pc := 111) (k := a) (As := [.int p0, .int (S53.1 r59 ((p0 + (17 : Int32)) + p1 : Int32).toNatClampNeg)]) (rest := []) (mc' := 0) (ms' := 0) lk_Md_235 in_Md_leftOf se_Md_leftOf sa rfl d_Md_dances_111 k_Md_leftOf rfl rfl (Nat.le_of_ble_eq_true rfl) (by decide) (by decide) (Sp.mono h ?_)
        rintro rS68 shS68 S68 ⟨qS68, x69, uS68, h⟩
        subst uS68
        rw [qS68]
        refine r_if_eq (pc := 114) d_Md_dances_114 (tgt := 127) (by decide) (fun c70 => ?_) (fun c70 => ?_)
        · replace h := h.1 c70
          refine r_iconst (pc := 127) d_Md_dances_127 (v := 0) (by decide) ?_
          exact r_ireturn (pc := 128) d_Md_dances_128 rfl rfl (Nat.le_refl _) ⟨rfl, _, rfl, h⟩
        · replace h := h.2 c70
          refine r_aload_n (pc := 117) d_Md_dances_117 (x := a) rfl ?_
          refine r_iload_n (pc := 118) d_Md_dances_118 (x := p0) rfl ?_
          refine r_iload (pc := 119) d_Md_dances_119 (x := v65) rfl ?_
          refine r_callV (pc := 121) (k := a) (As := [.int p0, .int v65]) (rest := []) (mc' := 0) (ms' := 0) lk_Md_235 in_Md_leftOf se_Md_leftOf sa rfl d_Md_dances_121 k_Md_leftOf rfl rfl (Nat.le_of_ble_eq_true rfl) (by decide) (by decide) (Sp.mono h ?_)
          rintro rS71 shS71 S71 ⟨qS71, x72, uS71, h⟩
          subst uS71
          rw [qS71]
          refine r_if_ne (pc := 124) d_Md_dances_124 (tgt := 129) (by decide) (fun c73 => ?_) (fun c73 => ?_)
          · replace h := h.1 c73
            refine r_iload_n (pc := 129) d_Md_dances_129 (x := p0) rfl ?_
            refine r_aload_n (pc := 130) d_Md_dances_130 (x := a) rfl ?_
            obtain ⟨r74, er74, h⟩ := h
            refine r_getR (pc := 131) d_Md_dances_131 f_Md_7 sa (Or.inr ⟨_, rfl⟩) (r := r74) er74 ?_
            refine r_iload_n (pc := 134) d_Md_dances_134 (x := p0) rfl ?_
            refine r_iconst (pc := 135) d_Md_dances_135 (v := 3) (by decide) ?_
            refine r_iadd (pc := 136) d_Md_dances_136 ?_
            obtain ⟨n76, s75, h⟩ := h
            obtain ⟨g77, h⟩ := h
            refine r_iald (pc := 137) d_Md_dances_137 s75 g77 ?_
            refine r_callS (pc := 138) (k := 0) (As := [.int (S71.1 r74 (p0 + (3 : Int32) : Int32).toNatClampNeg)]) (rest := [.int p0]) (mc' := 0) (ms' := 0) lk_Md_211 st_Md_plaitRow d_Md_dances_138 k_Md_plaitRow rfl rfl (Nat.le_of_ble_eq_true rfl) (by decide) (by decide) (Sp.mono h ?_)
            rintro rS78 shS78 S78 ⟨qS78, x79, uS78, h⟩
            subst uS78
            rw [qS78]
            refine r_iadd (pc := 141) d_Md_dances_141 ?_
            refine r_istore (pc := 142) (hd := d_Md_dances_142) (hi := by decide) (ls2 := [.ref a, .int p0, .int p1, .int p2, .int x2, .int (S53.1 r59 ((p0 + (17 : Int32)) + p1 : Int32).toNatClampNeg), .int v65, .int (p0 + x79)]) (h2 := rfl) ?_
            refine r_aload_n (pc := 144) d_Md_dances_144 (x := a) rfl ?_
            obtain ⟨r80, er80, h⟩ := h
            refine r_getR (pc := 145) d_Md_dances_145 f_Md_7 sa (Or.inr ⟨_, rfl⟩) (r := r80) er80 ?_
            refine r_iload (pc := 148) d_Md_dances_148 (x := (p0 + x79)) rfl ?_
            refine r_iload_n (pc := 150) d_Md_dances_150 (x := p1) rfl ?_
            obtain ⟨n82, s81, h⟩ := h
            obtain ⟨g83, h⟩ := h
            refine r_iast (pc := 151) d_Md_dances_151 s81 g83 ?_
            refine r_aload_n (pc := 152) d_Md_dances_152 (x := a) rfl ?_
            refine r_getR (pc := 153) d_Md_dances_153 f_Md_7 sa (Or.inr ⟨_, rfl⟩) (r := r80) er80 ?_
            refine r_iload (pc := 156) d_Md_dances_156 (x := (p0 + x79)) rfl ?_
            refine r_iconst (pc := 158) d_Md_dances_158 (v := 1) (by decide) ?_
            refine r_iadd (pc := 159) d_Md_dances_159 ?_
            refine r_iload_n (pc := 160) d_Md_dances_160 (x := p2) rfl ?_
            obtain ⟨g84, h⟩ := h
            refine r_iast (pc := 161) d_Md_dances_161 s81 g84 ?_
            refine r_aload_n (pc := 162) d_Md_dances_162 (x := a) rfl ?_
            refine r_getR (pc := 163) d_Md_dances_163 f_Md_7 sa (Or.inr ⟨_, rfl⟩) (r := r80) er80 ?_
            refine r_iload (pc := 166) d_Md_dances_166 (x := (p0 + x79)) rfl ?_
            refine r_iconst (pc := 168) d_Md_dances_168 (v := 2) (by decide) ?_
            refine r_iadd (pc := 169) d_Md_dances_169 ?_
            refine r_iload_n (pc := 170) d_Md_dances_170 (x := p2) rfl ?_
            refine r_iconst (pc := 171) d_Md_dances_171 (v := 1) (by decide) ?_
            refine r_icmp_ne (pc := 172) d_Md_dances_172 (tgt := 180) (by decide) (fun c85 => ?_) (fun c85 => ?_)
            · replace h := h.1 c85
              refine r_iload (pc := 180) d_Md_dances_180 (x := v65) rfl ?_
              obtain ⟨g86, h⟩ := h
              refine r_iast (pc := 182) d_Md_dances_182 s81 g86 ?_
              refine r_aload_n (pc := 183) d_Md_dances_183 (x := a) rfl ?_
              refine r_getR (pc := 184) d_Md_dances_184 f_Md_7 sa (Or.inr ⟨_, rfl⟩) (r := r80) er80 ?_
              refine r_iload (pc := 187) d_Md_dances_187 (x := (p0 + x79)) rfl ?_
              refine r_iconst (pc := 189) d_Md_dances_189 (v := 3) (by decide) ?_
              refine r_iadd (pc := 190) d_Md_dances_190 ?_
              refine r_iload_n (pc := 191) d_Md_dances_191 (x := p2) rfl ?_
              refine r_iconst (pc := 192) d_Md_dances_192 (v := 1) (by decide) ?_
              refine r_icmp_ne (pc := 193) d_Md_dances_193 (tgt := 201) (by decide) (fun c87 => ?_) (fun c87 => ?_)
              · replace h := h.1 c87
                refine r_iload (pc := 201) d_Md_dances_201 (x := (S53.1 r59 ((p0 + (17 : Int32)) + p1 : Int32).toNatClampNeg)) rfl ?_
                obtain ⟨g88, h⟩ := h
                refine r_iast (pc := 203) d_Md_dances_203 s81 g88 ?_
                refine r_aload_n (pc := 204) d_Md_dances_204 (x := a) rfl ?_
                refine r_getR (pc := 205) d_Md_dances_205 f_Md_7 sa (Or.inr ⟨_, rfl⟩) (r := r80) er80 ?_
                refine r_iload_n (pc := 208) d_Md_dances_208 (x := p0) rfl ?_
                refine r_iconst (pc := 209) d_Md_dances_209 (v := 3) (by decide) ?_
                refine r_iadd (pc := 210) d_Md_dances_210 ?_
                refine r_dup2 (pc := 211) d_Md_dances_211 rfl rfl ?_
                obtain ⟨g89, h⟩ := h
                refine r_iald (pc := 212) d_Md_dances_212 s81 g89 ?_
                refine r_iconst (pc := 213) d_Md_dances_213 (v := 1) (by decide) ?_
                refine r_iadd (pc := 214) d_Md_dances_214 ?_
                obtain ⟨g90, h⟩ := h
                refine r_iast (pc := 215) d_Md_dances_215 s81 g90 ?_
                refine r_aload_n (pc := 216) d_Md_dances_216 (x := a) rfl ?_
                refine r_iload_n (pc := 217) d_Md_dances_217 (x := p0) rfl ?_
                refine r_iload_n (pc := 218) d_Md_dances_218 (x := p1) rfl ?_
                refine r_callV (pc := 219) (k := a) (As := [.int p0, .int p1]) (rest := []) (mc' := 0) (ms' := 0) lk_Md_228 in_Md_swaps se_Md_swaps sa rfl d_Md_dances_219 k_Md_swaps rfl rfl (Nat.le_of_ble_eq_true rfl) (by decide) (by decide) (Sp.mono h ?_)
                rintro rS91 shS91 S91 ⟨qS91, uS91, h⟩
                subst uS91
                rw [qS91]
                refine r_iconst (pc := 222) d_Md_dances_222 (v := 1) (by decide) ?_
                exact r_ireturn (pc := 223) d_Md_dances_223 rfl rfl (Nat.le_refl _) ⟨rfl, _, rfl, h⟩
              · replace h := h.2 c87
                refine r_iload (pc := 196) d_Md_dances_196 (x := v65) rfl ?_
                refine r_goto (pc := 198) d_Md_dances_198 (tgt := 203) (by decide) ?_
                obtain ⟨g92, h⟩ := h
                refine r_iast (pc := 203) d_Md_dances_203 s81 g92 ?_
                refine r_aload_n (pc := 204) d_Md_dances_204 (x := a) rfl ?_
                refine r_getR (pc := 205) d_Md_dances_205 f_Md_7 sa (Or.inr ⟨_, rfl⟩) (r := r80) er80 ?_
                refine r_iload_n (pc := 208) d_Md_dances_208 (x := p0) rfl ?_
                refine r_iconst (pc := 209) d_Md_dances_209 (v := 3) (by decide) ?_
                refine r_iadd (pc := 210) d_Md_dances_210 ?_
                refine r_dup2 (pc := 211) d_Md_dances_211 rfl rfl ?_
                obtain ⟨g93, h⟩ := h
                refine r_iald (pc := 212) d_Md_dances_212 s81 g93 ?_
                refine r_iconst (pc := 213) d_Md_dances_213 (v := 1) (by decide) ?_
                refine r_iadd (pc := 214) d_Md_dances_214 ?_
                obtain ⟨g94, h⟩ := h
                refine r_iast (pc := 215) d_Md_dances_215 s81 g94 ?_
                refine r_aload_n (pc := 216) d_Md_dances_216 (x := a) rfl ?_
                refine r_iload_n (pc := 217) d_Md_dances_217 (x := p0) rfl ?_
                refine r_iload_n (pc := 218) d_Md_dances_218 (x := p1) rfl ?_
                refine r_callV (pc := 219) (k := a) (As := [.int p0, .int p1]) (rest := []) (mc' := 0) (ms' := 0) lk_Md_228 in_Md_swaps se_Md_swaps sa rfl d_Md_dances_219 k_Md_swaps rfl rfl (Nat.le_of_ble_eq_true rfl) (by decide) (by decide) (Sp.mono h ?_)
                rintro rS95 shS95 S95 ⟨qS95, uS95, h⟩
                subst uS95
                rw [qS95]
                refine r_iconst (pc := 222) d_Md_dances_222 (v := 1) (by decide) ?_
                exact r_ireturn (pc := 223) d_Md_dances_223 rfl rfl (Nat.le_refl _) ⟨rfl, _, rfl, h⟩
            · replace h := h.2 c85
              refine r_iload (pc := 175) d_Md_dances_175 (x := (S53.1 r59 ((p0 + (17 : Int32)) + p1 : Int32).toNatClampNeg)) rfl ?_
              refine r_goto (pc := 177) d_Md_dances_177 (tgt := 182) (by decide) ?_
              obtain ⟨g96, h⟩ := h
              refine r_iast (pc := 182) d_Md_dances_182 s81 g96 ?_
              refine r_aload_n (pc := 183) d_Md_dances_183 (x := a) rfl ?_
              refine r_getR (pc := 184) d_Md_dances_184 f_Md_7 sa (Or.inr ⟨_, rfl⟩) (r := r80) er80 ?_
              refine r_iload (pc := 187) d_Md_dances_187 (x := (p0 + x79)) rfl ?_
              refine r_iconst (pc := 189) d_Md_dances_189 (v := 3) (by decide) ?_
              refine r_iadd (pc := 190) d_Md_dances_190 ?_
              refine r_iload_n (pc := 191) d_Md_dances_191 (x := p2) rfl ?_
              refine r_iconst (pc := 192) d_Md_dances_192 (v := 1) (by decide) ?_
              refine r_icmp_ne (pc := 193) d_Md_dances_193 (tgt := 201) (by decide) (fun c97 => ?_) (fun c97 => ?_)
              · replace h := h.1 c97
                refine r_iload (pc := 201) d_Md_dances_201 (x := (S53.1 r59 ((p0 + (17 : Int32)) + p1 : Int32).toNatClampNeg)) rfl ?_
                obtain ⟨g98, h⟩ := h
                refine r_iast (pc := 203) d_Md_dances_203 s81 g98 ?_
                refine r_aload_n (pc := 204) d_Md_dances_204 (x := a) rfl ?_
                refine r_getR (pc := 205) d_Md_dances_205 f_Md_7 sa (Or.inr ⟨_, rfl⟩) (r := r80) er80 ?_
                refine r_iload_n (pc := 208) d_Md_dances_208 (x := p0) rfl ?_
                refine r_iconst (pc := 209) d_Md_dances_209 (v := 3) (by decide) ?_
                refine r_iadd (pc := 210) d_Md_dances_210 ?_
                refine r_dup2 (pc := 211) d_Md_dances_211 rfl rfl ?_
                obtain ⟨g99, h⟩ := h
                refine r_iald (pc := 212) d_Md_dances_212 s81 g99 ?_
                refine r_iconst (pc := 213) d_Md_dances_213 (v := 1) (by decide) ?_
                refine r_iadd (pc := 214) d_Md_dances_214 ?_
                obtain ⟨g100, h⟩ := h
                refine r_iast (pc := 215) d_Md_dances_215 s81 g100 ?_
                refine r_aload_n (pc := 216) d_Md_dances_216 (x := a) rfl ?_
                refine r_iload_n (pc := 217) d_Md_dances_217 (x := p0) rfl ?_
                refine r_iload_n (pc := 218) d_Md_dances_218 (x := p1) rfl ?_
                refine r_callV (pc := 219) (k := a) (As := [.int p0, .int p1]) (rest := []) (mc' := 0) (ms' := 0) lk_Md_228 in_Md_swaps se_Md_swaps sa rfl d_Md_dances_219 k_Md_swaps rfl rfl (Nat.le_of_ble_eq_true rfl) (by decide) (by decide) (Sp.mono h ?_)
                rintro rS101 shS101 S101 ⟨qS101, uS101, h⟩
                subst uS101
                rw [qS101]
                refine r_iconst (pc := 222) d_Md_dances_222 (v := 1) (by decide) ?_
                exact r_ireturn (pc := 223) d_Md_dances_223 rfl rfl (Nat.le_refl _) ⟨rfl, _, rfl, h⟩
              · replace h := h.2 c97
                refine r_iload (pc := 196) d_Md_dances_196 (x := v65) rfl ?_
                refine r_goto (pc := 198) d_Md_dances_198 (tgt := 203) (by decide) ?_
                obtain ⟨g102, h⟩ := h
                refine r_iast (pc := 203) d_Md_dances_203 s81 g102 ?_
                refine r_aload_n (pc := 204) d_Md_dances_204 (x := a) rfl ?_
                refine r_getR (pc := 205) d_Md_dances_205 f_Md_7 sa (Or.inr ⟨_, rfl⟩) (r := r80) er80 ?_
                refine r_iload_n (pc := 208) d_Md_dances_208 (x := p0) rfl ?_
                refine r_iconst (pc := 209) d_Md_dances_209 (v := 3) (by decide) ?_
                refine r_iadd (pc := 210) d_Md_dances_210 ?_
                refine r_dup2 (pc := 211) d_Md_dances_211 rfl rfl ?_
                obtain ⟨g103, h⟩ := h
                refine r_iald (pc := 212) d_Md_dances_212 s81 g103 ?_
                refine r_iconst (pc := 213) d_Md_dances_213 (v := 1) (by decide) ?_
                refine r_iadd (pc := 214) d_Md_dances_214 ?_
                obtain ⟨g104, h⟩ := h
                refine r_iast (pc := 215) d_Md_dances_215 s81 g104 ?_
                refine r_aload_n (pc := 216) d_Md_dances_216 (x := a) rfl ?_
                refine r_iload_n (pc := 217) d_Md_dances_217 (x := p0) rfl ?_
                refine r_iload_n (pc := 218) d_Md_dances_218 (x := p1) rfl ?_
                refine r_callV (pc := 219) (k := a) (As := [.int p0, .int p1]) (rest := []) (mc' := 0) (ms' := 0) lk_Md_228 in_Md_swaps se_Md_swaps sa rfl d_Md_dances_219 k_Md_swaps rfl rfl (Nat.le_of_ble_eq_true rfl) (by decide) (by decide) (Sp.mono h ?_)
                rintro rS105 shS105 S105 ⟨qS105, uS105, h⟩
                subst uS105
                rw [qS105]
                refine r_iconst (pc := 222) d_Md_dances_222 (v := 1) (by decide) ?_
                exact r_ireturn (pc := 223) d_Md_dances_223 rfl rfl (Nat.le_refl _) ⟨rfl, _, rfl, h⟩
          · replace h := h.2 c73
            refine r_iconst (pc := 127) d_Md_dances_127 (v := 0) (by decide) ?_
            exact r_ireturn (pc := 128) d_Md_dances_128 rfl rfl (Nat.le_refl _) ⟨rfl, _, rfl, h⟩
    · replace h := h.2 c58
      refine r_aload_n (pc := 32) d_Md_dances_32 (x := a) rfl ?_
      refine r_iload_n (pc := 33) d_Md_dances_33 (x := p0) rfl ?_
      refine r_iload (pc := 34) d_Md_dances_34 (x := x2) rfl ?_
      refine r_callV (pc := 36) (k := a) (As := [.int p0, .int x2]) (rest := []) (mc' := 0) (ms' := 0) lk_Md_224 in_Md_isFreeIn se_Md_isFreeIn sa rfl d_Md_dances_36 k_Md_isFreeIn rfl rfl (Nat.le_of_ble_eq_true rfl) (by decide) (by decide) (Sp.mono h ?_)
      rintro rS107 shS107 S107 ⟨qS107, x108, uS107, h⟩
      subst uS107
      rw [qS107]
      refine r_if_eq (pc := 39) d_Md_dances_39 (tgt := 57) (by decide) (fun c109 => ?_) (fun c109 => ?_)
      · replace h := h.1 c109
        refine r_aload_n (pc := 57) d_Md_dances_57 (x := a) rfl ?_
        obtain ⟨r110, er110, h⟩ := h
        refine r_getR (pc := 58) d_Md_dances_58 f_Md_7 sa (Or.inr ⟨_, rfl⟩) (r := r110) er110 ?_
        refine r_iload_n (pc := 61) d_Md_dances_61 (x := p0) rfl ?_
        refine r_bipush (pc := 62) d_Md_dances_62 (v := 17) (by decide) ?_
        refine r_iadd (pc := 64) d_Md_dances_64 ?_
        refine r_iload_n (pc := 65) d_Md_dances_65 (x := p1) rfl ?_
        refine r_iadd (pc := 66) d_Md_dances_66 ?_
        obtain ⟨n112, s111, h⟩ := h
        obtain ⟨g113, h⟩ := h
        refine r_iald (pc := 67) d_Md_dances_67 s111 g113 ?_
        refine r_istore (pc := 68) (hd := d_Md_dances_68) (hi := by decide) (ls2 := [.ref a, .int p0, .int p1, .int p2, .int x2, .int (S107.1 r110 ((p0 + (17 : Int32)) + p1 : Int32).toNatClampNeg), .null, .null]) (h2 := rfl) ?_
        refine r_aload_n (pc := 70) d_Md_dances_70 (x := a) rfl ?_
        refine r_getR (pc := 71) d_Md_dances_71 f_Md_7 sa (Or.inr ⟨_, rfl⟩) (r := r110) er110 ?_
        refine r_iload_n (pc := 74) d_Md_dances_74 (x := p0) rfl ?_
        refine r_bipush (pc := 75) d_Md_dances_75 (v := 17) (by decide) ?_
        refine r_iadd (pc := 77) d_Md_dances_77 ?_
        refine r_iload_n (pc := 78) d_Md_dances_78 (x := p1) rfl ?_
        refine r_iconst (pc := 79) d_Md_dances_79 (v := 1) (by decide) ?_
        refine r_iadd (pc := 80) d_Md_dances_80 ?_
        refine r_aload_n (pc := 81) d_Md_dances_81 (x := a) rfl ?_
        refine r_getR (pc := 82) d_Md_dances_82 f_Md_7 sa (Or.inr ⟨_, rfl⟩) (r := r110) er110 ?_
        refine r_iload_n (pc := 85) d_Md_dances_85 (x := p0) rfl ?_
        refine r_iconst (pc := 86) d_Md_dances_86 (v := 0) (by decide) ?_
        refine r_iadd (pc := 87) d_Md_dances_87 ?_
        obtain ⟨g114, h⟩ := h
        refine r_iald (pc := 88) d_Md_dances_88 s111 g114 ?_
        obtain ⟨g157, h⟩ := h
        refine r_irem (pc := 89) d_Md_dances_89 g157 ?_
        refine r_iadd (pc := 90) d_Md_dances_90 ?_
        obtain ⟨g115, h⟩ := h
        refine r_iald (pc := 91) d_Md_dances_91 s111 g115 ?_
        refine r_ni (fun v116 ev116 => ?_)
        replace h := h v116 ev116
        refine r_istore (pc := 92) (hd := d_Md_dances_92) (hi := by decide) (ls2 := [.ref a, .int p0, .int p1, .int p2, .int x2, .int (S107.1 r110 ((p0 + (17 : Int32)) + p1 : Int32).toNatClampNeg), .int v116, .null]) (h2 := rfl) ?_
        refine r_aload_n (pc := 94) d_Md_dances_94 (x := a) rfl ?_
        refine r_getR (pc := 95) d_Md_dances_95 f_Md_7 sa (Or.inr ⟨_, rfl⟩) (r := r110) er110 ?_
        refine r_iload_n (pc := 98) d_Md_dances_98 (x := p0) rfl ?_
        refine r_iconst (pc := 99) d_Md_dances_99 (v := 3) (by decide) ?_
        refine r_iadd (pc := 100) d_Md_dances_100 ?_
        obtain ⟨g117, h⟩ := h
        refine r_iald (pc := 101) d_Md_dances_101 s111 g117 ?_
        refine r_bipush (pc := 102) d_Md_dances_102 (v := 40) (by decide) ?_
        refine r_icmp_eq (pc := 104) d_Md_dances_104 (tgt := 127) (by decide) (fun c118 => ?_) (fun c118 => ?_)
        · replace h := h.1 c118
          refine r_iconst (pc := 127) d_Md_dances_127 (v := 0) (by decide) ?_
          exact r_ireturn (pc := 128) d_Md_dances_128 rfl rfl (Nat.le_refl _) ⟨rfl, _, rfl, h⟩
        · replace h := h.2 c118
          refine r_aload_n (pc := 107) d_Md_dances_107 (x := a) rfl ?_
          refine r_iload_n (pc := 108) d_Md_dances_108 (x := p0) rfl ?_
          refine r_iload (pc := 109) d_Md_dances_109 (x := (S107.1 r110 ((p0 + (17 : Int32)) + p1 : Int32).toNatClampNeg)) rfl ?_
          refine r_callV (pc := 111) (k := a) (As := [.int p0, .int (S107.1 r110 ((p0 + (17 : Int32)) + p1 : Int32).toNatClampNeg)]) (rest := []) (mc' := 0) (ms' := 0) lk_Md_235 in_Md_leftOf se_Md_leftOf sa rfl d_Md_dances_111 k_Md_leftOf rfl rfl (Nat.le_of_ble_eq_true rfl) (by decide) (by decide) (Sp.mono h ?_)
          rintro rS119 shS119 S119 ⟨qS119, x120, uS119, h⟩
          subst uS119
          rw [qS119]
          refine r_if_eq (pc := 114) d_Md_dances_114 (tgt := 127) (by decide) (fun c121 => ?_) (fun c121 => ?_)
          · replace h := h.1 c121
            refine r_iconst (pc := 127) d_Md_dances_127 (v := 0) (by decide) ?_
            exact r_ireturn (pc := 128) d_Md_dances_128 rfl rfl (Nat.le_refl _) ⟨rfl, _, rfl, h⟩
          · replace h := h.2 c121
            refine r_aload_n (pc := 117) d_Md_dances_117 (x := a) rfl ?_
            refine r_iload_n (pc := 118) d_Md_dances_118 (x := p0) rfl ?_
            refine r_iload (pc := 119) d_Md_dances_119 (x := v116) rfl ?_
            refine r_callV (pc := 121) (k := a) (As := [.int p0, .int v116]) (rest := []) (mc' := 0) (ms' := 0) lk_Md_235 in_Md_leftOf se_Md_leftOf sa rfl d_Md_dances_121 k_Md_leftOf rfl rfl (Nat.le_of_ble_eq_true rfl) (by decide) (by decide) (Sp.mono h ?_)
            rintro rS122 shS122 S122 ⟨qS122, x123, uS122, h⟩
            subst uS122
            rw [qS122]
            refine r_if_ne (pc := 124) d_Md_dances_124 (tgt := 129) (by decide) (fun c124 => ?_) (fun c124 => ?_)
            · replace h := h.1 c124
              refine r_iload_n (pc := 129) d_Md_dances_129 (x := p0) rfl ?_
              refine r_aload_n (pc := 130) d_Md_dances_130 (x := a) rfl ?_
              obtain ⟨r125, er125, h⟩ := h
              refine r_getR (pc := 131) d_Md_dances_131 f_Md_7 sa (Or.inr ⟨_, rfl⟩) (r := r125) er125 ?_
              refine r_iload_n (pc := 134) d_Md_dances_134 (x := p0) rfl ?_
              refine r_iconst (pc := 135) d_Md_dances_135 (v := 3) (by decide) ?_
              refine r_iadd (pc := 136) d_Md_dances_136 ?_
              obtain ⟨n127, s126, h⟩ := h
              obtain ⟨g128, h⟩ := h
              refine r_iald (pc := 137) d_Md_dances_137 s126 g128 ?_
              refine r_callS (pc := 138) (k := 0) (As := [.int (S122.1 r125 (p0 + (3 : Int32) : Int32).toNatClampNeg)]) (rest := [.int p0]) (mc' := 0) (ms' := 0) lk_Md_211 st_Md_plaitRow d_Md_dances_138 k_Md_plaitRow rfl rfl (Nat.le_of_ble_eq_true rfl) (by decide) (by decide) (Sp.mono h ?_)
              rintro rS129 shS129 S129 ⟨qS129, x130, uS129, h⟩
              subst uS129
              rw [qS129]
              refine r_iadd (pc := 141) d_Md_dances_141 ?_
              refine r_istore (pc := 142) (hd := d_Md_dances_142) (hi := by decide) (ls2 := [.ref a, .int p0, .int p1, .int p2, .int x2, .int (S107.1 r110 ((p0 + (17 : Int32)) + p1 : Int32).toNatClampNeg), .int v116, .int (p0 + x130)]) (h2 := rfl) ?_
              refine r_aload_n (pc := 144) d_Md_dances_144 (x := a) rfl ?_
              obtain ⟨r131, er131, h⟩ := h
              refine r_getR (pc := 145) d_Md_dances_145 f_Md_7 sa (Or.inr ⟨_, rfl⟩) (r := r131) er131 ?_
              refine r_iload (pc := 148) d_Md_dances_148 (x := (p0 + x130)) rfl ?_
              refine r_iload_n (pc := 150) d_Md_dances_150 (x := p1) rfl ?_
              obtain ⟨n133, s132, h⟩ := h
              obtain ⟨g134, h⟩ := h
              refine r_iast (pc := 151) d_Md_dances_151 s132 g134 ?_
              refine r_aload_n (pc := 152) d_Md_dances_152 (x := a) rfl ?_
              refine r_getR (pc := 153) d_Md_dances_153 f_Md_7 sa (Or.inr ⟨_, rfl⟩) (r := r131) er131 ?_
              refine r_iload (pc := 156) d_Md_dances_156 (x := (p0 + x130)) rfl ?_
              refine r_iconst (pc := 158) d_Md_dances_158 (v := 1) (by decide) ?_
              refine r_iadd (pc := 159) d_Md_dances_159 ?_
              refine r_iload_n (pc := 160) d_Md_dances_160 (x := p2) rfl ?_
              obtain ⟨g135, h⟩ := h
              refine r_iast (pc := 161) d_Md_dances_161 s132 g135 ?_
              refine r_aload_n (pc := 162) d_Md_dances_162 (x := a) rfl ?_
              refine r_getR (pc := 163) d_Md_dances_163 f_Md_7 sa (Or.inr ⟨_, rfl⟩) (r := r131) er131 ?_
              refine r_iload (pc := 166) d_Md_dances_166 (x := (p0 + x130)) rfl ?_
              refine r_iconst (pc := 168) d_Md_dances_168 (v := 2) (by decide) ?_
              refine r_iadd (pc := 169) d_Md_dances_169 ?_
              refine r_iload_n (pc := 170) d_Md_dances_170 (x := p2) rfl ?_
              refine r_iconst (pc := 171) d_Md_dances_171 (v := 1) (by decide) ?_
              refine r_icmp_ne (pc := 172) d_Md_dances_172 (tgt := 180) (by decide) (fun c136 => ?_) (fun c136 => ?_)
              · replace h := h.1 c136
                refine r_iload (pc := 180) d_Md_dances_180 (x := v116) rfl ?_
                obtain ⟨g137, h⟩ := h
                refine r_iast (pc := 182) d_Md_dances_182 s132 g137 ?_
                refine r_aload_n (pc := 183) d_Md_dances_183 (x := a) rfl ?_
                refine r_getR (pc := 184) d_Md_dances_184 f_Md_7 sa (Or.inr ⟨_, rfl⟩) (r := r131) er131 ?_
                refine r_iload (pc := 187) d_Md_dances_187 (x := (p0 + x130)) rfl ?_
                refine r_iconst (pc := 189) d_Md_dances_189 (v := 3) (by decide) ?_
                refine r_iadd (pc := 190) d_Md_dances_190 ?_
                refine r_iload_n (pc := 191) d_Md_dances_191 (x := p2) rfl ?_
                refine r_iconst (pc := 192) d_Md_dances_192 (v := 1) (by decide) ?_
                refine r_icmp_ne (pc := 193) d_Md_dances_193 (tgt := 201) (by decide) (fun c138 => ?_) (fun c138 => ?_)
                · replace h := h.1 c138
                  refine r_iload (pc := 201) d_Md_dances_201 (x := (S107.1 r110 ((p0 + (17 : Int32)) + p1 : Int32).toNatClampNeg)) rfl ?_
                  obtain ⟨g139, h⟩ := h
                  refine r_iast (pc := 203) d_Md_dances_203 s132 g139 ?_
                  refine r_aload_n (pc := 204) d_Md_dances_204 (x := a) rfl ?_
                  refine r_getR (pc := 205) d_Md_dances_205 f_Md_7 sa (Or.inr ⟨_, rfl⟩) (r := r131) er131 ?_
                  refine r_iload_n (pc := 208) d_Md_dances_208 (x := p0) rfl ?_
                  refine r_iconst (pc := 209) d_Md_dances_209 (v := 3) (by decide) ?_
                  refine r_iadd (pc := 210) d_Md_dances_210 ?_
                  refine r_dup2 (pc := 211) d_Md_dances_211 rfl rfl ?_
                  obtain ⟨g140, h⟩ := h
                  refine r_iald (pc := 212) d_Md_dances_212 s132 g140 ?_
                  refine r_iconst (pc := 213) d_Md_dances_213 (v := 1) (by decide) ?_
                  refine r_iadd (pc := 214) d_Md_dances_214 ?_
                  obtain ⟨g141, h⟩ := h
                  refine r_iast (pc := 215) d_Md_dances_215 s132 g141 ?_
                  refine r_aload_n (pc := 216) d_Md_dances_216 (x := a) rfl ?_
                  refine r_iload_n (pc := 217) d_Md_dances_217 (x := p0) rfl ?_
                  refine r_iload_n (pc := 218) d_Md_dances_218 (x := p1) rfl ?_
                  refine r_callV (pc := 219) (k := a) (As := [.int p0, .int p1]) (rest := []) (mc' := 0) (ms' := 0) lk_Md_228 in_Md_swaps se_Md_swaps sa rfl d_Md_dances_219 k_Md_swaps rfl rfl (Nat.le_of_ble_eq_true rfl) (by decide) (by decide) (Sp.mono h ?_)
                  rintro rS142 shS142 S142 ⟨qS142, uS142, h⟩
                  subst uS142
                  rw [qS142]
                  refine r_iconst (pc := 222) d_Md_dances_222 (v := 1) (by decide) ?_
                  exact r_ireturn (pc := 223) d_Md_dances_223 rfl rfl (Nat.le_refl _) ⟨rfl, _, rfl, h⟩
                · replace h := h.2 c138
                  refine r_iload (pc := 196) d_Md_dances_196 (x := v116) rfl ?_
                  refine r_goto (pc := 198) d_Md_dances_198 (tgt := 203) (by decide) ?_
                  obtain ⟨g143, h⟩ := h
                  refine r_iast (pc := 203) d_Md_dances_203 s132 g143 ?_
                  refine r_aload_n (pc := 204) d_Md_dances_204 (x := a) rfl ?_
                  refine r_getR (pc := 205) d_Md_dances_205 f_Md_7 sa (Or.inr ⟨_, rfl⟩) (r := r131) er131 ?_
                  refine r_iload_n (pc := 208) d_Md_dances_208 (x := p0) rfl ?_
                  refine r_iconst (pc := 209) d_Md_dances_209 (v := 3) (by decide) ?_
                  refine r_iadd (pc := 210) d_Md_dances_210 ?_
                  refine r_dup2 (pc := 211) d_Md_dances_211 rfl rfl ?_
                  obtain ⟨g144, h⟩ := h
                  refine r_iald (pc := 212) d_Md_dances_212 s132 g144 ?_
                  refine r_iconst (pc := 213) d_Md_dances_213 (v := 1) (by decide) ?_
                  refine r_iadd (pc := 214) d_Md_dances_214 ?_
                  obtain ⟨g145, h⟩ := h
                  refine r_iast (pc := 215) d_Md_dances_215 s132 g145 ?_
                  refine r_aload_n (pc := 216) d_Md_dances_216 (x := a) rfl ?_
                  refine r_iload_n (pc := 217) d_Md_dances_217 (x := p0) rfl ?_
                  refine r_iload_n (pc := 218) d_Md_dances_218 (x := p1) rfl ?_
                  refine r_callV (pc := 219) (k := a) (As := [.int p0, .int p1]) (rest := []) (mc' := 0) (ms' := 0) lk_Md_228 in_Md_swaps se_Md_swaps sa rfl d_Md_dances_219 k_Md_swaps rfl rfl (Nat.le_of_ble_eq_true rfl) (by decide) (by decide) (Sp.mono h ?_)
                  rintro rS146 shS146 S146 ⟨qS146, uS146, h⟩
                  subst uS146
                  rw [qS146]
                  refine r_iconst (pc := 222) d_Md_dances_222 (v := 1) (by decide) ?_
                  exact r_ireturn (pc := 223) d_Md_dances_223 rfl rfl (Nat.le_refl _) ⟨rfl, _, rfl, h⟩
              · replace h := h.2 c136
                refine r_iload (pc := 175) d_Md_dances_175 (x := (S107.1 r110 ((p0 + (17 : Int32)) + p1 : Int32).toNatClampNeg)) rfl ?_
                refine r_goto (pc := 177) d_Md_dances_177 (tgt := 182) (by decide) ?_
                obtain ⟨g147, h⟩ := h
                refine r_iast (pc := 182) d_Md_dances_182 s132 g147 ?_
                refine r_aload_n (pc := 183) d_Md_dances_183 (x := a) rfl ?_
                refine r_getR (pc := 184) d_Md_dances_184 f_Md_7 sa (Or.inr ⟨_, rfl⟩) (r := r131) er131 ?_
                refine r_iload (pc := 187) d_Md_dances_187 (x := (p0 + x130)) rfl ?_
                refine r_iconst (pc := 189) d_Md_dances_189 (v := 3) (by decide) ?_
                refine r_iadd (pc := 190) d_Md_dances_190 ?_
                refine r_iload_n (pc := 191) d_Md_dances_191 (x := p2) rfl ?_
                refine r_iconst (pc := 192) d_Md_dances_192 (v := 1) (by decide) ?_
                refine r_icmp_ne (pc := 193) d_Md_dances_193 (tgt := 201) (by decide) (fun c148 => ?_) (fun c148 => ?_)
                · replace h := h.1 c148
                  refine r_iload (pc := 201) d_Md_dances_201 (x := (S107.1 r110 ((p0 + (17 : Int32)) + p1 : Int32).toNatClampNeg)) rfl ?_
                  obtain ⟨g149, h⟩ := h
                  refine r_iast (pc := 203) d_Md_dances_203 s132 g149 ?_
                  refine r_aload_n (pc := 204) d_Md_dances_204 (x := a) rfl ?_
                  refine r_getR (pc := 205) d_Md_dances_205 f_Md_7 sa (Or.inr ⟨_, rfl⟩) (r := r131) er131 ?_
                  refine r_iload_n (pc := 208) d_Md_dances_208 (x := p0) rfl ?_
                  refine r_iconst (pc := 209) d_Md_dances_209 (v := 3) (by decide) ?_
                  refine r_iadd (pc := 210) d_Md_dances_210 ?_
                  refine r_dup2 (pc := 211) d_Md_dances_211 rfl rfl ?_
                  obtain ⟨g150, h⟩ := h
                  refine r_iald (pc := 212) d_Md_dances_212 s132 g150 ?_
                  refine r_iconst (pc := 213) d_Md_dances_213 (v := 1) (by decide) ?_
                  refine r_iadd (pc := 214) d_Md_dances_214 ?_
                  obtain ⟨g151, h⟩ := h
                  refine r_iast (pc := 215) d_Md_dances_215 s132 g151 ?_
                  refine r_aload_n (pc := 216) d_Md_dances_216 (x := a) rfl ?_
                  refine r_iload_n (pc := 217) d_Md_dances_217 (x := p0) rfl ?_
                  refine r_iload_n (pc := 218) d_Md_dances_218 (x := p1) rfl ?_
                  refine r_callV (pc := 219) (k := a) (As := [.int p0, .int p1]) (rest := []) (mc' := 0) (ms' := 0) lk_Md_228 in_Md_swaps se_Md_swaps sa rfl d_Md_dances_219 k_Md_swaps rfl rfl (Nat.le_of_ble_eq_true rfl) (by decide) (by decide) (Sp.mono h ?_)
                  rintro rS152 shS152 S152 ⟨qS152, uS152, h⟩
                  subst uS152
                  rw [qS152]
                  refine r_iconst (pc := 222) d_Md_dances_222 (v := 1) (by decide) ?_
                  exact r_ireturn (pc := 223) d_Md_dances_223 rfl rfl (Nat.le_refl _) ⟨rfl, _, rfl, h⟩
                · replace h := h.2 c148
                  refine r_iload (pc := 196) d_Md_dances_196 (x := v116) rfl ?_
                  refine r_goto (pc := 198) d_Md_dances_198 (tgt := 203) (by decide) ?_
                  obtain ⟨g153, h⟩ := h
                  refine r_iast (pc := 203) d_Md_dances_203 s132 g153 ?_
                  refine r_aload_n (pc := 204) d_Md_dances_204 (x := a) rfl ?_
                  refine r_getR (pc := 205) d_Md_dances_205 f_Md_7 sa (Or.inr ⟨_, rfl⟩) (r := r131) er131 ?_
                  refine r_iload_n (pc := 208) d_Md_dances_208 (x := p0) rfl ?_
                  refine r_iconst (pc := 209) d_Md_dances_209 (v := 3) (by decide) ?_
                  refine r_iadd (pc := 210) d_Md_dances_210 ?_
                  refine r_dup2 (pc := 211) d_Md_dances_211 rfl rfl ?_
                  obtain ⟨g154, h⟩ := h
                  refine r_iald (pc := 212) d_Md_dances_212 s132 g154 ?_
                  refine r_iconst (pc := 213) d_Md_dances_213 (v := 1) (by decide) ?_
                  refine r_iadd (pc := 214) d_Md_dances_214 ?_
                  obtain ⟨g155, h⟩ := h
                  refine r_iast (pc := 215) d_Md_dances_215 s132 g155 ?_
                  refine r_aload_n (pc := 216) d_Md_dances_216 (x := a) rfl ?_
                  refine r_iload_n (pc := 217) d_Md_dances_217 (x := p0) rfl ?_
                  refine r_iload_n (pc := 218) d_Md_dances_218 (x := p1) rfl ?_
                  refine r_callV (pc := 219) (k := a) (As := [.int p0, .int p1]) (rest := []) (mc' := 0) (ms' := 0) lk_Md_228 in_Md_swaps se_Md_swaps sa rfl d_Md_dances_219 k_Md_swaps rfl rfl (Nat.le_of_ble_eq_true rfl) (by decide) (by decide) (Sp.mono h ?_)
                  rintro rS156 shS156 S156 ⟨qS156, uS156, h⟩
                  subst uS156
                  rw [qS156]
                  refine r_iconst (pc := 222) d_Md_dances_222 (v := 1) (by decide) ?_
                  exact r_ireturn (pc := 223) d_Md_dances_223 rfl rfl (Nat.le_refl _) ⟨rfl, _, rfl, h⟩
            · replace h := h.2 c124
              refine r_iconst (pc := 127) d_Md_dances_127 (v := 0) (by decide) ?_
              exact r_ireturn (pc := 128) d_Md_dances_128 rfl rfl (Nat.le_refl _) ⟨rfl, _, rfl, h⟩
      · replace h := h.2 c109
        refine r_aload_n (pc := 42) d_Md_dances_42 (x := a) rfl ?_
        refine r_iload_n (pc := 43) d_Md_dances_43 (x := p0) rfl ?_
        refine r_iload_n (pc := 44) d_Md_dances_44 (x := p1) rfl ?_
        refine r_callV (pc := 45) (k := a) (As := [.int p0, .int p1]) (rest := []) (mc' := 0) (ms' := 0) lk_Md_228 in_Md_swaps se_Md_swaps sa rfl d_Md_dances_45 k_Md_swaps rfl rfl (Nat.le_of_ble_eq_true rfl) (by decide) (by decide) (Sp.mono h ?_)
        rintro rS158 shS158 S158 ⟨qS158, uS158, h⟩
        subst uS158
        rw [qS158]
        refine r_aload_n (pc := 48) d_Md_dances_48 (x := a) rfl ?_
        refine r_iload_n (pc := 49) d_Md_dances_49 (x := p0) rfl ?_
        refine r_iload (pc := 50) d_Md_dances_50 (x := x2) rfl ?_
        refine r_callV (pc := 52) (k := a) (As := [.int p0, .int x2]) (rest := []) (mc' := 0) (ms' := 0) lk_Md_232 in_Md_loses se_Md_loses sa rfl d_Md_dances_52 k_Md_loses rfl rfl (Nat.le_of_ble_eq_true rfl) (by decide) (by decide) (Sp.mono h ?_)
        rintro rS159 shS159 S159 ⟨qS159, uS159, h⟩
        subst uS159
        rw [qS159]
        refine r_iconst (pc := 55) d_Md_dances_55 (v := 2) (by decide) ?_
        exact r_ireturn (pc := 56) d_Md_dances_56 rfl rfl (Nat.le_refl _) ⟨rfl, _, rfl, h⟩
set_option maxRecDepth 4000 in
theorem e_Md_latestIn {l : Launch} {d : Nat} {sh : aw_SH} {S : aw_S} {P : Int32 → aw_S → Prop} {a : Nat} {p0 : Int32} {p1 : Int32} (sa : sh[a]? = some (0, 11)) (h : AW l m_Md_latestIn (d + 1) 0 0 (gI sh P) 0 0 5 [.ref a, .int p0, .int p1, .int (-1), .int 0] [] sh S) : Sp l m_Md_latestIn (d + 1) 0 0 [.ref a, .int p0, .int p1] sh S (gI sh P) := by
  refine Sp.of k_Md_latestIn (ls := [.ref a, .int p0, .int p1, .null, .null]) rfl (Nat.le_of_ble_eq_true rfl) ?_
  refine r_iconst (pc := 0) d_Md_latestIn_0 (v := (-1)) (by decide) ?_
  refine r_istore_n (pc := 1) (hk := rfl) (hd := d_Md_latestIn_1) (hi := by decide) (ls2 := [.ref a, .int p0, .int p1, .int (-1), .null]) (h2 := rfl) ?_
  refine r_iconst (pc := 2) d_Md_latestIn_2 (v := 0) (by decide) ?_
  refine r_istore (pc := 3) (hd := d_Md_latestIn_3) (hi := by decide) (ls2 := [.ref a, .int p0, .int p1, .int (-1), .int 0]) (h2 := rfl) ?_
  exact h
set_option maxRecDepth 4000 in
theorem s_Md_latestIn_5 {l : Launch} {d : Nat} {sh : aw_SH} {S : aw_S} {P : Int32 → aw_S → Prop} {a : Nat} {i1 : Int32} {i2 : Int32} {i3 : Int32} {i4 : Int32} (sa : sh[a]? = some (0, 11)) (h : ∃ r1, S.2.2 a 0 = some r1 ∧ ∃ n3, sh[r1]? = some (3, n3) ∧ vp_in (i1 + (3 : Int32)) n3 ∧ (((S.1 r1 (i1 + (3 : Int32) : Int32).toNatClampNeg) ≤ i4 → P i3 S) ∧ (¬ (S.1 r1 (i1 + (3 : Int32) : Int32).toNatClampNeg) ≤ i4 → Sp l m_Md_plaitRow d 0 0 [.int i4] sh S (gI sh (fun x7 S6 => vp_in (i1 + x7) n3 ∧ ((¬ (S6.1 r1 (i1 + x7 : Int32).toNatClampNeg) = i2 → AW l m_Md_latestIn (d + 1) 0 0 (gI sh P) 0 0 5 [.ref a, .int i1, .int i2, .int i3, .int (i4 + 1)] [] sh S6) ∧ ((S6.1 r1 (i1 + x7 : Int32).toNatClampNeg) = i2 → AW l m_Md_latestIn (d + 1) 0 0 (gI sh P) 0 0 5 [.ref a, .int i1, .int i2, .int i4, .int (i4 + 1)] [] sh S6))))))) : AW l m_Md_latestIn (d + 1) 0 0 (gI sh P) 0 0 5 [.ref a, .int i1, .int i2, .int i3, .int i4] [] sh S := by
  refine r_iload (pc := 5) d_Md_latestIn_5 (x := i4) rfl ?_
  refine r_aload_n (pc := 7) d_Md_latestIn_7 (x := a) rfl ?_
  obtain ⟨r1, er1, h⟩ := h
  refine r_getR (pc := 8) d_Md_latestIn_8 f_Md_7 sa (Or.inr ⟨_, rfl⟩) (r := r1) er1 ?_
  refine r_iload_n (pc := 11) d_Md_latestIn_11 (x := i1) rfl ?_
  refine r_iconst (pc := 12) d_Md_latestIn_12 (v := 3) (by decide) ?_
  refine r_iadd (pc := 13) d_Md_latestIn_13 ?_
  obtain ⟨n3, s2, h⟩ := h
  obtain ⟨g4, h⟩ := h
  refine r_iald (pc := 14) d_Md_latestIn_14 s2 g4 ?_
  refine r_icmp_ge (pc := 15) d_Md_latestIn_15 (tgt := 43) (by decide) (fun c5 => ?_) (fun c5 => ?_)
  · replace h := h.1 c5
    refine r_iload_n (pc := 43) d_Md_latestIn_43 (x := i3) rfl ?_
    exact r_ireturn (pc := 44) d_Md_latestIn_44 rfl rfl (Nat.le_refl _) ⟨rfl, _, rfl, h⟩
  · replace h := h.2 c5
    refine r_aload_n (pc := 18) d_Md_latestIn_18 (x := a) rfl ?_
    refine r_getR (pc := 19) d_Md_latestIn_19 f_Md_7 sa (Or.inr ⟨_, rfl⟩) (r := r1) er1 ?_
    refine r_iload_n (pc := 22) d_Md_latestIn_22 (x := i1) rfl ?_
    refine r_iload (pc := 23) d_Md_latestIn_23 (x := i4) rfl ?_
    refine r_callS (pc := 25) (k := 0) (As := [.int i4]) (rest := [.int i1, .ref r1]) (mc' := 0) (ms' := 0) lk_Md_211 st_Md_plaitRow d_Md_latestIn_25 k_Md_plaitRow rfl rfl (Nat.le_of_ble_eq_true rfl) (by decide) (by decide) (Sp.mono h ?_)
    rintro rS6 shS6 S6 ⟨qS6, x7, uS6, h⟩
    subst uS6
    rw [qS6]
    refine r_iadd (pc := 28) d_Md_latestIn_28 ?_
    obtain ⟨g8, h⟩ := h
    refine r_iald (pc := 29) d_Md_latestIn_29 s2 g8 ?_
    refine r_iload_n (pc := 30) d_Md_latestIn_30 (x := i2) rfl ?_
    refine r_icmp_ne (pc := 31) d_Md_latestIn_31 (tgt := 37) (by decide) (fun c9 => ?_) (fun c9 => ?_)
    · replace h := h.1 c9
      refine r_iinc (pc := 37) d_Md_latestIn_37 (hi := by decide) (x := i4) rfl (v := i4 + 1) rfl (ls2 := [.ref a, .int i1, .int i2, .int i3, .int (i4 + 1)]) rfl ?_
      refine r_goto (pc := 40) d_Md_latestIn_40 (tgt := 5) (by decide) ?_
      exact h
    · replace h := h.2 c9
      refine r_iload (pc := 34) d_Md_latestIn_34 (x := i4) rfl ?_
      refine r_istore_n (pc := 36) (hk := rfl) (hd := d_Md_latestIn_36) (hi := by decide) (ls2 := [.ref a, .int i1, .int i2, .int i4, .int i4]) (h2 := rfl) ?_
      refine r_iinc (pc := 37) d_Md_latestIn_37 (hi := by decide) (x := i4) rfl (v := i4 + 1) rfl (ls2 := [.ref a, .int i1, .int i2, .int i4, .int (i4 + 1)]) rfl ?_
      refine r_goto (pc := 40) d_Md_latestIn_40 (tgt := 5) (by decide) ?_
      exact h
set_option maxRecDepth 4000 in
theorem e_Md_plaitRow {l : Launch} {d : Nat} {sh : aw_SH} {S : aw_S} {P : Int32 → aw_S → Prop} {p0 : Int32} (h : P ((24 : Int32) + ((4 : Int32) * p0)) S) : Sp l m_Md_plaitRow (d + 1) 0 0 [.int p0] sh S (gI sh P) := by
  refine Sp.of k_Md_plaitRow (ls := [.int p0]) rfl (Nat.le_of_ble_eq_true rfl) ?_
  refine r_bipush (pc := 0) d_Md_plaitRow_0 (v := 24) (by decide) ?_
  refine r_iconst (pc := 2) d_Md_plaitRow_2 (v := 4) (by decide) ?_
  refine r_iload_n (pc := 3) d_Md_plaitRow_3 (x := p0) rfl ?_
  refine r_imul (pc := 4) d_Md_plaitRow_4 ?_
  refine r_iadd (pc := 5) d_Md_plaitRow_5 ?_
  exact r_ireturn (pc := 6) d_Md_plaitRow_6 rfl rfl (Nat.le_refl _) ⟨rfl, _, rfl, h⟩
set_option maxRecDepth 4000 in
theorem e_Md_isFreeIn {l : Launch} {d : Nat} {sh : aw_SH} {S : aw_S} {P : Int32 → aw_S → Prop} {a : Nat} {p0 : Int32} {p1 : Int32} (sa : sh[a]? = some (0, 11)) (h : AW l m_Md_isFreeIn (d + 1) 0 0 (gI sh P) 0 0 4 [.ref a, .int p0, .int p1, .int (p1 + (1 : Int32))] [] sh S) : Sp l m_Md_isFreeIn (d + 1) 0 0 [.ref a, .int p0, .int p1] sh S (gI sh P) := by
  refine Sp.of k_Md_isFreeIn (ls := [.ref a, .int p0, .int p1, .null]) rfl (Nat.le_of_ble_eq_true rfl) ?_
  refine r_iload_n (pc := 0) d_Md_isFreeIn_0 (x := p1) rfl ?_
  refine r_iconst (pc := 1) d_Md_isFreeIn_1 (v := 1) (by decide) ?_
  refine r_iadd (pc := 2) d_Md_isFreeIn_2 ?_
  refine r_istore_n (pc := 3) (hk := rfl) (hd := d_Md_isFreeIn_3) (hi := by decide) (ls2 := [.ref a, .int p0, .int p1, .int (p1 + (1 : Int32))]) (h2 := rfl) ?_
  exact h
set_option maxRecDepth 4000 in
theorem s_Md_isFreeIn_4 {l : Launch} {d : Nat} {sh : aw_SH} {S : aw_S} {P : Int32 → aw_S → Prop} {a : Nat} {i1 : Int32} {i2 : Int32} {i3 : Int32} (sa : sh[a]? = some (0, 11)) (h : ∃ r1, S.2.2 a 0 = some r1 ∧ ∃ n3, sh[r1]? = some (3, n3) ∧ vp_in (i1 + (3 : Int32)) n3 ∧ (((S.1 r1 (i1 + (3 : Int32) : Int32).toNatClampNeg) ≤ i3 → P 1 S) ∧ (¬ (S.1 r1 (i1 + (3 : Int32) : Int32).toNatClampNeg) ≤ i3 → Sp l m_Md_plaitRow d 0 0 [.int i3] sh S (gI sh (fun x7 S6 => vp_in (i1 + x7) n3 ∧ ∃ r9, S6.2.2 a 0 = some r9 ∧ Sp l m_Md_plaitRow d 0 0 [.int i2] sh S6 (gI sh (fun x11 S10 => ∃ n13, sh[r9]? = some (3, n13) ∧ vp_in (i1 + x11) n13 ∧ Sp l m_Md_isTouching d 0 0 [.ref a, .int i1, .int (S6.1 r1 (i1 + x7 : Int32).toNatClampNeg), .int (S10.1 r9 (i1 + x11 : Int32).toNatClampNeg)] sh S10 (gI sh (fun x16 S15 => ((x16 = 0 → AW l m_Md_isFreeIn (d + 1) 0 0 (gI sh P) 0 0 4 [.ref a, .int i1, .int i2, .int (i3 + 1)] [] sh S15) ∧ (¬ x16 = 0 → P 0 S15))))))))))) : AW l m_Md_isFreeIn (d + 1) 0 0 (gI sh P) 0 0 4 [.ref a, .int i1, .int i2, .int i3] [] sh S := by
  refine r_iload_n (pc := 4) d_Md_isFreeIn_4 (x := i3) rfl ?_
  refine r_aload_n (pc := 5) d_Md_isFreeIn_5 (x := a) rfl ?_
  obtain ⟨r1, er1, h⟩ := h
  refine r_getR (pc := 6) d_Md_isFreeIn_6 f_Md_7 sa (Or.inr ⟨_, rfl⟩) (r := r1) er1 ?_
  refine r_iload_n (pc := 9) d_Md_isFreeIn_9 (x := i1) rfl ?_
  refine r_iconst (pc := 10) d_Md_isFreeIn_10 (v := 3) (by decide) ?_
  refine r_iadd (pc := 11) d_Md_isFreeIn_11 ?_
  obtain ⟨n3, s2, h⟩ := h
  obtain ⟨g4, h⟩ := h
  refine r_iald (pc := 12) d_Md_isFreeIn_12 s2 g4 ?_
  refine r_icmp_ge (pc := 13) d_Md_isFreeIn_13 (tgt := 54) (by decide) (fun c5 => ?_) (fun c5 => ?_)
  · replace h := h.1 c5
    refine r_iconst (pc := 54) d_Md_isFreeIn_54 (v := 1) (by decide) ?_
    exact r_zreturn (pc := 55) d_Md_isFreeIn_55 (v := 1) rfl (by decide) rfl (Nat.le_refl _) ⟨rfl, _, rfl, h⟩
  · replace h := h.2 c5
    refine r_aload_n (pc := 16) d_Md_isFreeIn_16 (x := a) rfl ?_
    refine r_iload_n (pc := 17) d_Md_isFreeIn_17 (x := i1) rfl ?_
    refine r_aload_n (pc := 18) d_Md_isFreeIn_18 (x := a) rfl ?_
    refine r_getR (pc := 19) d_Md_isFreeIn_19 f_Md_7 sa (Or.inr ⟨_, rfl⟩) (r := r1) er1 ?_
    refine r_iload_n (pc := 22) d_Md_isFreeIn_22 (x := i1) rfl ?_
    refine r_iload_n (pc := 23) d_Md_isFreeIn_23 (x := i3) rfl ?_
    refine r_callS (pc := 24) (k := 0) (As := [.int i3]) (rest := [.int i1, .ref r1, .int i1, .ref a]) (mc' := 0) (ms' := 0) lk_Md_211 st_Md_plaitRow d_Md_isFreeIn_24 k_Md_plaitRow rfl rfl (Nat.le_of_ble_eq_true rfl) (by decide) (by decide) (Sp.mono h ?_)
    rintro rS6 shS6 S6 ⟨qS6, x7, uS6, h⟩
    subst uS6
    rw [qS6]
    refine r_iadd (pc := 27) d_Md_isFreeIn_27 ?_
    obtain ⟨g8, h⟩ := h
    refine r_iald (pc := 28) d_Md_isFreeIn_28 s2 g8 ?_
    refine r_aload_n (pc := 29) d_Md_isFreeIn_29 (x := a) rfl ?_
    obtain ⟨r9, er9, h⟩ := h
    refine r_getR (pc := 30) d_Md_isFreeIn_30 f_Md_7 sa (Or.inr ⟨_, rfl⟩) (r := r9) er9 ?_
    refine r_iload_n (pc := 33) d_Md_isFreeIn_33 (x := i1) rfl ?_
    refine r_iload_n (pc := 34) d_Md_isFreeIn_34 (x := i2) rfl ?_
    refine r_callS (pc := 35) (k := 0) (As := [.int i2]) (rest := [.int i1, .ref r9, .int (S6.1 r1 (i1 + x7 : Int32).toNatClampNeg), .int i1, .ref a]) (mc' := 0) (ms' := 0) lk_Md_211 st_Md_plaitRow d_Md_isFreeIn_35 k_Md_plaitRow rfl rfl (Nat.le_of_ble_eq_true rfl) (by decide) (by decide) (Sp.mono h ?_)
    rintro rS10 shS10 S10 ⟨qS10, x11, uS10, h⟩
    subst uS10
    rw [qS10]
    refine r_iadd (pc := 38) d_Md_isFreeIn_38 ?_
    obtain ⟨n13, s12, h⟩ := h
    obtain ⟨g14, h⟩ := h
    refine r_iald (pc := 39) d_Md_isFreeIn_39 s12 g14 ?_
    refine r_callV (pc := 40) (k := a) (As := [.int i1, .int (S6.1 r1 (i1 + x7 : Int32).toNatClampNeg), .int (S10.1 r9 (i1 + x11 : Int32).toNatClampNeg)]) (rest := []) (mc' := 0) (ms' := 0) lk_Md_217 in_Md_isTouching se_Md_isTouching sa rfl d_Md_isFreeIn_40 k_Md_isTouching rfl rfl (Nat.le_of_ble_eq_true rfl) (by decide) (by decide) (Sp.mono h ?_)
    rintro rS15 shS15 S15 ⟨qS15, x16, uS15, h⟩
    subst uS15
    rw [qS15]
    refine r_if_eq (pc := 43) d_Md_isFreeIn_43 (tgt := 48) (by decide) (fun c17 => ?_) (fun c17 => ?_)
    · replace h := h.1 c17
      refine r_iinc (pc := 48) d_Md_isFreeIn_48 (hi := by decide) (x := i3) rfl (v := i3 + 1) rfl (ls2 := [.ref a, .int i1, .int i2, .int (i3 + 1)]) rfl ?_
      refine r_goto (pc := 51) d_Md_isFreeIn_51 (tgt := 4) (by decide) ?_
      exact h
    · replace h := h.2 c17
      refine r_iconst (pc := 46) d_Md_isFreeIn_46 (v := 0) (by decide) ?_
      exact r_zreturn (pc := 47) d_Md_isFreeIn_47 (v := 0) rfl (by decide) rfl (Nat.le_refl _) ⟨rfl, _, rfl, h⟩
