set_option maxRecDepth 4000 in
theorem e_Md_ordersOf {l : Launch} {d : Nat} {sh : aw_SH} {S : aw_S} {P : Int32 → aw_S → Prop} {p0 : Int32} (h : AW l m_Md_ordersOf (d + 1) 0 0 (gI sh P) 0 0 4 [.int p0, .int 1, .int 2] [] sh S) : Sp l m_Md_ordersOf (d + 1) 0 0 [.int p0] sh S (gI sh P) := by
  refine Sp.of k_Md_ordersOf (ls := [.int p0, .null, .null]) rfl (Nat.le_of_ble_eq_true rfl) ?_
  refine r_iconst (pc := 0) d_Md_ordersOf_0 (v := 1) (by decide) ?_
  refine r_istore_n (pc := 1) (hk := rfl) (hd := d_Md_ordersOf_1) (hi := by decide) (ls2 := [.int p0, .int 1, .null]) (h2 := rfl) ?_
  refine r_iconst (pc := 2) d_Md_ordersOf_2 (v := 2) (by decide) ?_
  refine r_istore_n (pc := 3) (hk := rfl) (hd := d_Md_ordersOf_3) (hi := by decide) (ls2 := [.int p0, .int 1, .int 2]) (h2 := rfl) ?_
  exact h
set_option maxRecDepth 4000 in
theorem s_Md_ordersOf_4 {l : Launch} {d : Nat} {sh : aw_SH} {S : aw_S} {P : Int32 → aw_S → Prop} {i0 : Int32} {i1 : Int32} {i2 : Int32} (h : ((i0 < i2 → P i1 S) ∧ (¬ i0 < i2 → AW l m_Md_ordersOf (d + 1) 0 0 (gI sh P) 0 0 4 [.int i0, .int (i1 * i2), .int (i2 + 1)] [] sh S))) : AW l m_Md_ordersOf (d + 1) 0 0 (gI sh P) 0 0 4 [.int i0, .int i1, .int i2] [] sh S := by
  refine r_iload_n (pc := 4) d_Md_ordersOf_4 (x := i2) rfl ?_
  refine r_iload_n (pc := 5) d_Md_ordersOf_5 (x := i0) rfl ?_
  refine r_icmp_gt (pc := 6) d_Md_ordersOf_6 (tgt := 19) (by decide) (fun c1 => ?_) (fun c1 => ?_)
  · replace h := h.1 c1
    refine r_iload_n (pc := 19) d_Md_ordersOf_19 (x := i1) rfl ?_
    exact r_ireturn (pc := 20) d_Md_ordersOf_20 rfl rfl (Nat.le_refl _) ⟨rfl, _, rfl, h⟩
  · replace h := h.2 c1
    refine r_iload_n (pc := 9) d_Md_ordersOf_9 (x := i1) rfl ?_
    refine r_iload_n (pc := 10) d_Md_ordersOf_10 (x := i2) rfl ?_
    refine r_imul (pc := 11) d_Md_ordersOf_11 ?_
    refine r_istore_n (pc := 12) (hk := rfl) (hd := d_Md_ordersOf_12) (hi := by decide) (ls2 := [.int i0, .int (i1 * i2), .int i2]) (h2 := rfl) ?_
    refine r_iinc (pc := 13) d_Md_ordersOf_13 (hi := by decide) (x := i2) rfl (v := i2 + 1) rfl (ls2 := [.int i0, .int (i1 * i2), .int (i2 + 1)]) rfl ?_
    refine r_goto (pc := 16) d_Md_ordersOf_16 (tgt := 4) (by decide) ?_
    exact h
set_option maxRecDepth 4000 in
theorem e_Md_laysOrder {l : Launch} {d : Nat} {sh : aw_SH} {S : aw_S} {P : aw_S → Prop} {a : Nat} {p0 : Int32} (sa : sh[a]? = some (0, 11)) (h : ∃ r1, S.2.2 a 0 = some r1 ∧ ∃ n3, sh[r1]? = some (3, n3) ∧ vp_in 0 n3 ∧ AW l m_Md_laysOrder (d + 1) 0 0 (gV sh P) 0 0 15 [.ref a, .null, .int (S.1 r1 (0 : Int32).toNatClampNeg), .int p0, .int 0, .int 0, .null, .null, .null] [] sh S) : Sp l m_Md_laysOrder (d + 1) 0 0 [.ref a, .int p0] sh S (gV sh P) := by
  refine Sp.of k_Md_laysOrder (ls := [.ref a, .int p0, .null, .null, .null, .null, .null, .null, .null]) rfl (Nat.le_of_ble_eq_true rfl) ?_
  refine r_aload_n (pc := 0) d_Md_laysOrder_0 (x := a) rfl ?_
  obtain ⟨r1, er1, h⟩ := h
  refine r_getR (pc := 1) d_Md_laysOrder_1 f_Md_7 sa (Or.inr ⟨_, rfl⟩) (r := r1) er1 ?_
  refine r_iconst (pc := 4) d_Md_laysOrder_4 (v := 0) (by decide) ?_
  obtain ⟨n3, s2, h⟩ := h
  obtain ⟨g4, h⟩ := h
  refine r_iald (pc := 5) d_Md_laysOrder_5 s2 g4 ?_
  refine r_istore_n (pc := 6) (hk := rfl) (hd := d_Md_laysOrder_6) (hi := by decide) (ls2 := [.ref a, .int p0, .int (S.1 r1 (0 : Int32).toNatClampNeg), .null, .null, .null, .null, .null, .null]) (h2 := rfl) ?_
  refine r_iload_n (pc := 7) d_Md_laysOrder_7 (x := p0) rfl ?_
  refine r_istore_n (pc := 8) (hk := rfl) (hd := d_Md_laysOrder_8) (hi := by decide) (ls2 := [.ref a, .int p0, .int (S.1 r1 (0 : Int32).toNatClampNeg), .int p0, .null, .null, .null, .null, .null]) (h2 := rfl) ?_
  refine r_iconst (pc := 9) d_Md_laysOrder_9 (v := 0) (by decide) ?_
  refine r_istore (pc := 10) (hd := d_Md_laysOrder_10) (hi := by decide) (ls2 := [.ref a, .int p0, .int (S.1 r1 (0 : Int32).toNatClampNeg), .int p0, .int 0, .null, .null, .null, .null]) (h2 := rfl) ?_
  refine r_iconst (pc := 12) d_Md_laysOrder_12 (v := 0) (by decide) ?_
  refine r_istore (pc := 13) (hd := d_Md_laysOrder_13) (hi := by decide) (ls2 := [.ref a, .int p0, .int (S.1 r1 (0 : Int32).toNatClampNeg), .int p0, .int 0, .int 0, .null, .null, .null]) (h2 := rfl) ?_
  exact r_weak (ls2 := [.ref a, .null, .int (S.1 r1 (0 : Int32).toNatClampNeg), .int p0, .int 0, .int 0, .null, .null, .null]) ⟨Or.inr rfl, Or.inl rfl, Or.inr rfl, Or.inr rfl, Or.inr rfl, Or.inr rfl, Or.inl rfl, Or.inl rfl, Or.inl rfl, trivial⟩ h
set_option maxRecDepth 4000 in
theorem s_Md_laysOrder_15 {l : Launch} {d : Nat} {sh : aw_SH} {S : aw_S} {P : aw_S → Prop} {a : Nat} {i2 : Int32} {i3 : Int32} {i4 : Int32} {i5 : Int32} (sa : sh[a]? = some (0, 11)) (h : ((i2 ≤ i5 → P S) ∧ (¬ i2 ≤ i5 → Sp l m_Md_ordersOf d 0 0 [.int ((i2 - i5) - (1 : Int32))] sh S (gI sh (fun x3 S2 => ¬ x3 = 0 ∧ ¬ x3 = 0 ∧ AW l m_Md_laysOrder (d + 1) 0 0 (gV sh P) 0 0 46 [.ref a, .null, .int i2, .int (i3 - i3 / x3 * x3), .int i4, .int i5, .null, .int (i3 / x3), .int 0] [] sh S2))))) : AW l m_Md_laysOrder (d + 1) 0 0 (gV sh P) 0 0 15 [.ref a, .null, .int i2, .int i3, .int i4, .int i5, .null, .null, .null] [] sh S := by
  refine r_iload (pc := 15) d_Md_laysOrder_15 (x := i5) rfl ?_
  refine r_iload_n (pc := 17) d_Md_laysOrder_17 (x := i2) rfl ?_
  refine r_icmp_ge (pc := 18) d_Md_laysOrder_18 (tgt := 113) (by decide) (fun c1 => ?_) (fun c1 => ?_)
  · replace h := h.1 c1
    exact r_return (pc := 113) d_Md_laysOrder_113 rfl rfl (Nat.le_refl _) ⟨rfl, rfl, h⟩
  · replace h := h.2 c1
    refine r_iload_n (pc := 21) d_Md_laysOrder_21 (x := i2) rfl ?_
    refine r_iload (pc := 22) d_Md_laysOrder_22 (x := i5) rfl ?_
    refine r_isub (pc := 24) d_Md_laysOrder_24 ?_
    refine r_iconst (pc := 25) d_Md_laysOrder_25 (v := 1) (by decide) ?_
    refine r_isub (pc := 26) d_Md_laysOrder_26 ?_
    refine r_callS (pc := 27) (k := 0) (As := [.int ((i2 - i5) - (1 : Int32))]) (rest := []) (mc' := 0) (ms' := 0) lk_Md_386 st_Md_ordersOf d_Md_laysOrder_27 k_Md_ordersOf rfl rfl (Nat.le_of_ble_eq_true rfl) (by decide) (by decide) (Sp.mono h ?_)
    rintro rS2 shS2 S2 ⟨qS2, x3, uS2, h⟩
    subst uS2
    rw [qS2]
    refine r_istore (pc := 30) (hd := d_Md_laysOrder_30) (hi := by decide) (ls2 := [.ref a, .null, .int i2, .int i3, .int i4, .int i5, .int x3, .null, .null]) (h2 := rfl) ?_
    refine r_iload_n (pc := 32) d_Md_laysOrder_32 (x := i3) rfl ?_
    refine r_iload (pc := 33) d_Md_laysOrder_33 (x := x3) rfl ?_
    obtain ⟨g5, h⟩ := h
    refine r_idiv (pc := 35) d_Md_laysOrder_35 g5 ?_
    refine r_istore (pc := 36) (hd := d_Md_laysOrder_36) (hi := by decide) (ls2 := [.ref a, .null, .int i2, .int i3, .int i4, .int i5, .int x3, .int (i3 / x3), .null]) (h2 := rfl) ?_
    refine r_iload_n (pc := 38) d_Md_laysOrder_38 (x := i3) rfl ?_
    refine r_iload (pc := 39) d_Md_laysOrder_39 (x := x3) rfl ?_
    obtain ⟨g4, h⟩ := h
    refine r_irem (pc := 41) d_Md_laysOrder_41 g4 ?_
    refine r_istore_n (pc := 42) (hk := rfl) (hd := d_Md_laysOrder_42) (hi := by decide) (ls2 := [.ref a, .null, .int i2, .int (i3 - i3 / x3 * x3), .int i4, .int i5, .int x3, .int (i3 / x3), .null]) (h2 := rfl) ?_
    refine r_iconst (pc := 43) d_Md_laysOrder_43 (v := 0) (by decide) ?_
    refine r_istore (pc := 44) (hd := d_Md_laysOrder_44) (hi := by decide) (ls2 := [.ref a, .null, .int i2, .int (i3 - i3 / x3 * x3), .int i4, .int i5, .int x3, .int (i3 / x3), .int 0]) (h2 := rfl) ?_
    exact r_weak (ls2 := [.ref a, .null, .int i2, .int (i3 - i3 / x3 * x3), .int i4, .int i5, .null, .int (i3 / x3), .int 0]) ⟨Or.inr rfl, Or.inl rfl, Or.inr rfl, Or.inr rfl, Or.inr rfl, Or.inr rfl, Or.inl rfl, Or.inr rfl, Or.inr rfl, trivial⟩ h
set_option maxRecDepth 4000 in
theorem s_Md_laysOrder_46 {l : Launch} {d : Nat} {sh : aw_SH} {S : aw_S} {P : aw_S → Prop} {a : Nat} {i2 : Int32} {i3 : Int32} {i4 : Int32} {i5 : Int32} {i7 : Int32} {i8 : Int32} (sa : sh[a]? = some (0, 11)) (h : Sp l m_Md_isIn d 0 0 [.ref a, .int i4, .int i8] sh S (gI sh (fun x2 S1 => ((¬ x2 = 0 → Sp l m_Md_isIn d 0 0 [.ref a, .int i4, .int i8] sh S1 (gI sh (fun x5 S4 => ((x5 = 0 → AW l m_Md_laysOrder (d + 1) 0 0 (gV sh P) 0 0 46 [.ref a, .null, .int i2, .int i3, .int i4, .int i5, .null, .int (i7 - (1 : Int32)), .int (i8 + 1)] [] sh S4) ∧ (¬ x5 = 0 → AW l m_Md_laysOrder (d + 1) 0 0 (gV sh P) 0 0 46 [.ref a, .null, .int i2, .int i3, .int i4, .int i5, .null, .int (i7 - (0 : Int32)), .int (i8 + 1)] [] sh S4))))) ∧ (x2 = 0 → ((i7 ≤ 0 → ∃ r8, S1.2.2 a 30 = some r8 ∧ ∃ n10, sh[r8]? = some (3, n10) ∧ vp_in i5 n10 ∧ AW l m_Md_laysOrder (d + 1) 0 0 (gV sh P) 0 0 15 [.ref a, .null, .int i2, .int i3, .int (i4 ||| ((1 : Int32) <<< (i8 &&& 31))), .int (i5 + 1), .null, .null, .null] [] sh (aw_uI S1 r8 i5.toNatClampNeg i8)) ∧ (¬ i7 ≤ 0 → Sp l m_Md_isIn d 0 0 [.ref a, .int i4, .int i8] sh S1 (gI sh (fun x13 S12 => ((x13 = 0 → AW l m_Md_laysOrder (d + 1) 0 0 (gV sh P) 0 0 46 [.ref a, .null, .int i2, .int i3, .int i4, .int i5, .null, .int (i7 - (1 : Int32)), .int (i8 + 1)] [] sh S12) ∧ (¬ x13 = 0 → AW l m_Md_laysOrder (d + 1) 0 0 (gV sh P) 0 0 46 [.ref a, .null, .int i2, .int i3, .int i4, .int i5, .null, .int (i7 - (0 : Int32)), .int (i8 + 1)] [] sh S12))))))))))) : AW l m_Md_laysOrder (d + 1) 0 0 (gV sh P) 0 0 46 [.ref a, .null, .int i2, .int i3, .int i4, .int i5, .null, .int i7, .int i8] [] sh S := by
  refine r_aload_n (pc := 46) d_Md_laysOrder_46 (x := a) rfl ?_
  refine r_iload (pc := 47) d_Md_laysOrder_47 (x := i4) rfl ?_
  refine r_iload (pc := 49) d_Md_laysOrder_49 (x := i8) rfl ?_
  refine r_callV (pc := 51) (k := a) (As := [.int i4, .int i8]) (rest := []) (mc' := 0) (ms' := 0) lk_Md_241 in_Md_isIn se_Md_isIn sa rfl d_Md_laysOrder_51 k_Md_isIn rfl rfl (Nat.le_of_ble_eq_true rfl) (by decide) (by decide) (Sp.mono h ?_)
  rintro rS1 shS1 S1 ⟨qS1, x2, uS1, h⟩
  subst uS1
  rw [qS1]
  refine r_if_ne (pc := 54) d_Md_laysOrder_54 (tgt := 62) (by decide) (fun c3 => ?_) (fun c3 => ?_)
  · replace h := h.1 c3
    refine r_iload (pc := 62) d_Md_laysOrder_62 (x := i7) rfl ?_
    refine r_aload_n (pc := 64) d_Md_laysOrder_64 (x := a) rfl ?_
    refine r_iload (pc := 65) d_Md_laysOrder_65 (x := i4) rfl ?_
    refine r_iload (pc := 67) d_Md_laysOrder_67 (x := i8) rfl ?_
    refine r_callV (pc := 69) (k := a) (As := [.int i4, .int i8]) (rest := [.int i7]) (mc' := 0) (ms' := 0) lk_Md_241 in_Md_isIn se_Md_isIn sa rfl d_Md_laysOrder_69 k_Md_isIn rfl rfl (Nat.le_of_ble_eq_true rfl) (by decide) (by decide) (Sp.mono h ?_)
    rintro rS4 shS4 S4 ⟨qS4, x5, uS4, h⟩
    subst uS4
    rw [qS4]
    refine r_if_eq (pc := 72) d_Md_laysOrder_72 (tgt := 79) (by decide) (fun c6 => ?_) (fun c6 => ?_)
    · replace h := h.1 c6
      refine r_iconst (pc := 79) d_Md_laysOrder_79 (v := 1) (by decide) ?_
      refine r_isub (pc := 80) d_Md_laysOrder_80 ?_
      refine r_istore (pc := 81) (hd := d_Md_laysOrder_81) (hi := by decide) (ls2 := [.ref a, .null, .int i2, .int i3, .int i4, .int i5, .null, .int (i7 - (1 : Int32)), .int i8]) (h2 := rfl) ?_
      refine r_iinc (pc := 83) d_Md_laysOrder_83 (hi := by decide) (x := i8) rfl (v := i8 + 1) rfl (ls2 := [.ref a, .null, .int i2, .int i3, .int i4, .int i5, .null, .int (i7 - (1 : Int32)), .int (i8 + 1)]) rfl ?_
      refine r_goto (pc := 86) d_Md_laysOrder_86 (tgt := 46) (by decide) ?_
      exact h
    · replace h := h.2 c6
      refine r_iconst (pc := 75) d_Md_laysOrder_75 (v := 0) (by decide) ?_
      refine r_goto (pc := 76) d_Md_laysOrder_76 (tgt := 80) (by decide) ?_
      refine r_isub (pc := 80) d_Md_laysOrder_80 ?_
      refine r_istore (pc := 81) (hd := d_Md_laysOrder_81) (hi := by decide) (ls2 := [.ref a, .null, .int i2, .int i3, .int i4, .int i5, .null, .int (i7 - (0 : Int32)), .int i8]) (h2 := rfl) ?_
      refine r_iinc (pc := 83) d_Md_laysOrder_83 (hi := by decide) (x := i8) rfl (v := i8 + 1) rfl (ls2 := [.ref a, .null, .int i2, .int i3, .int i4, .int i5, .null, .int (i7 - (0 : Int32)), .int (i8 + 1)]) rfl ?_
      refine r_goto (pc := 86) d_Md_laysOrder_86 (tgt := 46) (by decide) ?_
      exact h
  · replace h := h.2 c3
    refine r_iload (pc := 57) d_Md_laysOrder_57 (x := i7) rfl ?_
    refine r_if_le (pc := 59) d_Md_laysOrder_59 (tgt := 89) (by decide) (fun c7 => ?_) (fun c7 => ?_)
    · replace h := h.1 c7
      refine r_iload (pc := 89) d_Md_laysOrder_89 (x := i4) rfl ?_
      refine r_iconst (pc := 91) d_Md_laysOrder_91 (v := 1) (by decide) ?_
      refine r_iload (pc := 92) d_Md_laysOrder_92 (x := i8) rfl ?_
      refine r_ishl (pc := 94) d_Md_laysOrder_94 ?_
      refine r_ior (pc := 95) d_Md_laysOrder_95 ?_
      refine r_istore (pc := 96) (hd := d_Md_laysOrder_96) (hi := by decide) (ls2 := [.ref a, .null, .int i2, .int i3, .int (i4 ||| ((1 : Int32) <<< (i8 &&& 31))), .int i5, .null, .int i7, .int i8]) (h2 := rfl) ?_
      refine r_aload_n (pc := 98) d_Md_laysOrder_98 (x := a) rfl ?_
      obtain ⟨r8, er8, h⟩ := h
      refine r_getR (pc := 99) d_Md_laysOrder_99 f_Md_60 sa (Or.inr ⟨_, rfl⟩) (r := r8) er8 ?_
      refine r_iload (pc := 102) d_Md_laysOrder_102 (x := i5) rfl ?_
      refine r_iload (pc := 104) d_Md_laysOrder_104 (x := i8) rfl ?_
      obtain ⟨n10, s9, h⟩ := h
      obtain ⟨g11, h⟩ := h
      refine r_iast (pc := 106) d_Md_laysOrder_106 s9 g11 ?_
      refine r_iinc (pc := 107) d_Md_laysOrder_107 (hi := by decide) (x := i5) rfl (v := i5 + 1) rfl (ls2 := [.ref a, .null, .int i2, .int i3, .int (i4 ||| ((1 : Int32) <<< (i8 &&& 31))), .int (i5 + 1), .null, .int i7, .int i8]) rfl ?_
      refine r_goto (pc := 110) d_Md_laysOrder_110 (tgt := 15) (by decide) ?_
      exact r_weak (ls2 := [.ref a, .null, .int i2, .int i3, .int (i4 ||| ((1 : Int32) <<< (i8 &&& 31))), .int (i5 + 1), .null, .null, .null]) ⟨Or.inr rfl, Or.inl rfl, Or.inr rfl, Or.inr rfl, Or.inr rfl, Or.inr rfl, Or.inl rfl, Or.inl rfl, Or.inl rfl, trivial⟩ h
    · replace h := h.2 c7
      refine r_iload (pc := 62) d_Md_laysOrder_62 (x := i7) rfl ?_
      refine r_aload_n (pc := 64) d_Md_laysOrder_64 (x := a) rfl ?_
      refine r_iload (pc := 65) d_Md_laysOrder_65 (x := i4) rfl ?_
      refine r_iload (pc := 67) d_Md_laysOrder_67 (x := i8) rfl ?_
      refine r_callV (pc := 69) (k := a) (As := [.int i4, .int i8]) (rest := [.int i7]) (mc' := 0) (ms' := 0) lk_Md_241 in_Md_isIn se_Md_isIn sa rfl d_Md_laysOrder_69 k_Md_isIn rfl rfl (Nat.le_of_ble_eq_true rfl) (by decide) (by decide) (Sp.mono h ?_)
      rintro rS12 shS12 S12 ⟨qS12, x13, uS12, h⟩
      subst uS12
      rw [qS12]
      refine r_if_eq (pc := 72) d_Md_laysOrder_72 (tgt := 79) (by decide) (fun c14 => ?_) (fun c14 => ?_)
      · replace h := h.1 c14
        refine r_iconst (pc := 79) d_Md_laysOrder_79 (v := 1) (by decide) ?_
        refine r_isub (pc := 80) d_Md_laysOrder_80 ?_
        refine r_istore (pc := 81) (hd := d_Md_laysOrder_81) (hi := by decide) (ls2 := [.ref a, .null, .int i2, .int i3, .int i4, .int i5, .null, .int (i7 - (1 : Int32)), .int i8]) (h2 := rfl) ?_
        refine r_iinc (pc := 83) d_Md_laysOrder_83 (hi := by decide) (x := i8) rfl (v := i8 + 1) rfl (ls2 := [.ref a, .null, .int i2, .int i3, .int i4, .int i5, .null, .int (i7 - (1 : Int32)), .int (i8 + 1)]) rfl ?_
        refine r_goto (pc := 86) d_Md_laysOrder_86 (tgt := 46) (by decide) ?_
        exact h
      · replace h := h.2 c14
        refine r_iconst (pc := 75) d_Md_laysOrder_75 (v := 0) (by decide) ?_
        refine r_goto (pc := 76) d_Md_laysOrder_76 (tgt := 80) (by decide) ?_
        refine r_isub (pc := 80) d_Md_laysOrder_80 ?_
        refine r_istore (pc := 81) (hd := d_Md_laysOrder_81) (hi := by decide) (ls2 := [.ref a, .null, .int i2, .int i3, .int i4, .int i5, .null, .int (i7 - (0 : Int32)), .int i8]) (h2 := rfl) ?_
        refine r_iinc (pc := 83) d_Md_laysOrder_83 (hi := by decide) (x := i8) rfl (v := i8 + 1) rfl (ls2 := [.ref a, .null, .int i2, .int i3, .int i4, .int i5, .null, .int (i7 - (0 : Int32)), .int (i8 + 1)]) rfl ?_
        refine r_goto (pc := 86) d_Md_laysOrder_86 (tgt := 46) (by decide) ?_
        exact h
set_option maxRecDepth 4000 in
theorem e_Md_turnsOrder {l : Launch} {d : Nat} {sh : aw_SH} {S : aw_S} {P : aw_S → Prop} {a : Nat} {p0 : Int32} (sa : sh[a]? = some (0, 11)) (h : ∃ r1, S.2.2 a 0 = some r1 ∧ ∃ n3, sh[r1]? = some (3, n3) ∧ vp_in 0 n3 ∧ ¬ (S.1 r1 (0 : Int32).toNatClampNeg) = 0 ∧ ∀ v5 : Int32, v5 = (p0 + (1 : Int32)) - (p0 + (1 : Int32)) / (S.1 r1 (0 : Int32).toNatClampNeg) * (S.1 r1 (0 : Int32).toNatClampNeg) → ∃ r6, S.2.2 a 30 = some r6 ∧ ∃ n8, sh[r6]? = some (3, n8) ∧ vp_in p0 n8 ∧ vp_in v5 n8 ∧ vp_in p0 n8 ∧ vp_in v5 n8 ∧ P (aw_uI (aw_uI S r6 p0.toNatClampNeg (S.1 r6 v5.toNatClampNeg)) r6 v5.toNatClampNeg (S.1 r6 p0.toNatClampNeg))) : Sp l m_Md_turnsOrder (d + 1) 0 0 [.ref a, .int p0] sh S (gV sh P) := by
  refine Sp.of k_Md_turnsOrder (ls := [.ref a, .int p0, .null, .null]) rfl (Nat.le_of_ble_eq_true rfl) ?_
  refine r_iload_n (pc := 0) d_Md_turnsOrder_0 (x := p0) rfl ?_
  refine r_iconst (pc := 1) d_Md_turnsOrder_1 (v := 1) (by decide) ?_
  refine r_iadd (pc := 2) d_Md_turnsOrder_2 ?_
  refine r_aload_n (pc := 3) d_Md_turnsOrder_3 (x := a) rfl ?_
  obtain ⟨r1, er1, h⟩ := h
  refine r_getR (pc := 4) d_Md_turnsOrder_4 f_Md_7 sa (Or.inr ⟨_, rfl⟩) (r := r1) er1 ?_
  refine r_iconst (pc := 7) d_Md_turnsOrder_7 (v := 0) (by decide) ?_
  obtain ⟨n3, s2, h⟩ := h
  obtain ⟨g4, h⟩ := h
  refine r_iald (pc := 8) d_Md_turnsOrder_8 s2 g4 ?_
  obtain ⟨g13, h⟩ := h
  refine r_irem (pc := 9) d_Md_turnsOrder_9 g13 ?_
  refine r_ni (fun v5 ev5 => ?_)
  replace h := h v5 ev5
  refine r_istore_n (pc := 10) (hk := rfl) (hd := d_Md_turnsOrder_10) (hi := by decide) (ls2 := [.ref a, .int p0, .int v5, .null]) (h2 := rfl) ?_
  refine r_aload_n (pc := 11) d_Md_turnsOrder_11 (x := a) rfl ?_
  obtain ⟨r6, er6, h⟩ := h
  refine r_getR (pc := 12) d_Md_turnsOrder_12 f_Md_60 sa (Or.inr ⟨_, rfl⟩) (r := r6) er6 ?_
  refine r_iload_n (pc := 15) d_Md_turnsOrder_15 (x := p0) rfl ?_
  obtain ⟨n8, s7, h⟩ := h
  obtain ⟨g9, h⟩ := h
  refine r_iald (pc := 16) d_Md_turnsOrder_16 s7 g9 ?_
  refine r_istore_n (pc := 17) (hk := rfl) (hd := d_Md_turnsOrder_17) (hi := by decide) (ls2 := [.ref a, .int p0, .int v5, .int (S.1 r6 p0.toNatClampNeg)]) (h2 := rfl) ?_
  refine r_aload_n (pc := 18) d_Md_turnsOrder_18 (x := a) rfl ?_
  refine r_getR (pc := 19) d_Md_turnsOrder_19 f_Md_60 sa (Or.inr ⟨_, rfl⟩) (r := r6) er6 ?_
  refine r_iload_n (pc := 22) d_Md_turnsOrder_22 (x := p0) rfl ?_
  refine r_aload_n (pc := 23) d_Md_turnsOrder_23 (x := a) rfl ?_
  refine r_getR (pc := 24) d_Md_turnsOrder_24 f_Md_60 sa (Or.inr ⟨_, rfl⟩) (r := r6) er6 ?_
  refine r_iload_n (pc := 27) d_Md_turnsOrder_27 (x := v5) rfl ?_
  obtain ⟨g10, h⟩ := h
  refine r_iald (pc := 28) d_Md_turnsOrder_28 s7 g10 ?_
  obtain ⟨g11, h⟩ := h
  refine r_iast (pc := 29) d_Md_turnsOrder_29 s7 g11 ?_
  refine r_aload_n (pc := 30) d_Md_turnsOrder_30 (x := a) rfl ?_
  refine r_getR (pc := 31) d_Md_turnsOrder_31 f_Md_60 sa (Or.inr ⟨_, rfl⟩) (r := r6) er6 ?_
  refine r_iload_n (pc := 34) d_Md_turnsOrder_34 (x := v5) rfl ?_
  refine r_iload_n (pc := 35) d_Md_turnsOrder_35 (x := (S.1 r6 p0.toNatClampNeg)) rfl ?_
  obtain ⟨g12, h⟩ := h
  refine r_iast (pc := 36) d_Md_turnsOrder_36 s7 g12 ?_
  exact r_return (pc := 37) d_Md_turnsOrder_37 rfl rfl (Nat.le_refl _) ⟨rfl, rfl, h⟩
set_option maxRecDepth 4000 in
theorem e_Md_orderNumber {l : Launch} {d : Nat} {sh : aw_SH} {S : aw_S} {P : Int32 → aw_S → Prop} {a : Nat} (sa : sh[a]? = some (0, 11)) (h : ∃ r1, S.2.2 a 0 = some r1 ∧ ∃ n3, sh[r1]? = some (3, n3) ∧ vp_in 0 n3 ∧ AW l m_Md_orderNumber (d + 1) 0 0 (gI sh P) 0 0 11 [.ref a, .int (S.1 r1 (0 : Int32).toNatClampNeg), .int 0, .int 0, .null, .null] [] sh S) : Sp l m_Md_orderNumber (d + 1) 0 0 [.ref a] sh S (gI sh P) := by
  refine Sp.of k_Md_orderNumber (ls := [.ref a, .null, .null, .null, .null, .null]) rfl (Nat.le_of_ble_eq_true rfl) ?_
  refine r_aload_n (pc := 0) d_Md_orderNumber_0 (x := a) rfl ?_
  obtain ⟨r1, er1, h⟩ := h
  refine r_getR (pc := 1) d_Md_orderNumber_1 f_Md_7 sa (Or.inr ⟨_, rfl⟩) (r := r1) er1 ?_
  refine r_iconst (pc := 4) d_Md_orderNumber_4 (v := 0) (by decide) ?_
  obtain ⟨n3, s2, h⟩ := h
  obtain ⟨g4, h⟩ := h
  refine r_iald (pc := 5) d_Md_orderNumber_5 s2 g4 ?_
  refine r_istore_n (pc := 6) (hk := rfl) (hd := d_Md_orderNumber_6) (hi := by decide) (ls2 := [.ref a, .int (S.1 r1 (0 : Int32).toNatClampNeg), .null, .null, .null, .null]) (h2 := rfl) ?_
  refine r_iconst (pc := 7) d_Md_orderNumber_7 (v := 0) (by decide) ?_
  refine r_istore_n (pc := 8) (hk := rfl) (hd := d_Md_orderNumber_8) (hi := by decide) (ls2 := [.ref a, .int (S.1 r1 (0 : Int32).toNatClampNeg), .int 0, .null, .null, .null]) (h2 := rfl) ?_
  refine r_iconst (pc := 9) d_Md_orderNumber_9 (v := 0) (by decide) ?_
  refine r_istore_n (pc := 10) (hk := rfl) (hd := d_Md_orderNumber_10) (hi := by decide) (ls2 := [.ref a, .int (S.1 r1 (0 : Int32).toNatClampNeg), .int 0, .int 0, .null, .null]) (h2 := rfl) ?_
  exact h
set_option maxRecDepth 4000 in
theorem s_Md_orderNumber_11 {l : Launch} {d : Nat} {sh : aw_SH} {S : aw_S} {P : Int32 → aw_S → Prop} {a : Nat} {i1 : Int32} {i2 : Int32} {i3 : Int32} (sa : sh[a]? = some (0, 11)) (h : ((i1 ≤ i3 → P i2 S) ∧ (¬ i1 ≤ i3 → AW l m_Md_orderNumber (d + 1) 0 0 (gI sh P) 0 0 24 [.ref a, .int i1, .int i2, .int i3, .int 0, .int (i3 + (1 : Int32))] [] sh S))) : AW l m_Md_orderNumber (d + 1) 0 0 (gI sh P) 0 0 11 [.ref a, .int i1, .int i2, .int i3, .null, .null] [] sh S := by
  refine r_iload_n (pc := 11) d_Md_orderNumber_11 (x := i3) rfl ?_
  refine r_iload_n (pc := 12) d_Md_orderNumber_12 (x := i1) rfl ?_
  refine r_icmp_ge (pc := 13) d_Md_orderNumber_13 (tgt := 77) (by decide) (fun c1 => ?_) (fun c1 => ?_)
  · replace h := h.1 c1
    refine r_iload_n (pc := 77) d_Md_orderNumber_77 (x := i2) rfl ?_
    exact r_ireturn (pc := 78) d_Md_orderNumber_78 rfl rfl (Nat.le_refl _) ⟨rfl, _, rfl, h⟩
  · replace h := h.2 c1
    refine r_iconst (pc := 16) d_Md_orderNumber_16 (v := 0) (by decide) ?_
    refine r_istore (pc := 17) (hd := d_Md_orderNumber_17) (hi := by decide) (ls2 := [.ref a, .int i1, .int i2, .int i3, .int 0, .null]) (h2 := rfl) ?_
    refine r_iload_n (pc := 19) d_Md_orderNumber_19 (x := i3) rfl ?_
    refine r_iconst (pc := 20) d_Md_orderNumber_20 (v := 1) (by decide) ?_
    refine r_iadd (pc := 21) d_Md_orderNumber_21 ?_
    refine r_istore (pc := 22) (hd := d_Md_orderNumber_22) (hi := by decide) (ls2 := [.ref a, .int i1, .int i2, .int i3, .int 0, .int (i3 + (1 : Int32))]) (h2 := rfl) ?_
    exact h
set_option maxRecDepth 4000 in
theorem s_Md_orderNumber_24 {l : Launch} {d : Nat} {sh : aw_SH} {S : aw_S} {P : Int32 → aw_S → Prop} {a : Nat} {i1 : Int32} {i2 : Int32} {i3 : Int32} {i4 : Int32} {i5 : Int32} (sa : sh[a]? = some (0, 11)) (h : ((i1 ≤ i5 → AW l m_Md_orderNumber (d + 1) 0 0 (gI sh P) 0 0 11 [.ref a, .int i1, .int ((i2 * (i1 - i3)) + i4), .int (i3 + 1), .null, .null] [] sh S) ∧ (¬ i1 ≤ i5 → ∃ r2, S.2.2 a 30 = some r2 ∧ ∃ n4, sh[r2]? = some (3, n4) ∧ vp_in i5 n4 ∧ vp_in i3 n4 ∧ (((S.1 r2 i3.toNatClampNeg) ≤ (S.1 r2 i5.toNatClampNeg) → AW l m_Md_orderNumber (d + 1) 0 0 (gI sh P) 0 0 24 [.ref a, .int i1, .int i2, .int i3, .int (i4 + (0 : Int32)), .int (i5 + 1)] [] sh S) ∧ (¬ (S.1 r2 i3.toNatClampNeg) ≤ (S.1 r2 i5.toNatClampNeg) → AW l m_Md_orderNumber (d + 1) 0 0 (gI sh P) 0 0 24 [.ref a, .int i1, .int i2, .int i3, .int (i4 + (1 : Int32)), .int (i5 + 1)] [] sh S))))) : AW l m_Md_orderNumber (d + 1) 0 0 (gI sh P) 0 0 24 [.ref a, .int i1, .int i2, .int i3, .int i4, .int i5] [] sh S := by
  refine r_iload (pc := 24) d_Md_orderNumber_24 (x := i5) rfl ?_
  refine r_iload_n (pc := 26) d_Md_orderNumber_26 (x := i1) rfl ?_
  refine r_icmp_ge (pc := 27) d_Md_orderNumber_27 (tgt := 62) (by decide) (fun c1 => ?_) (fun c1 => ?_)
  · replace h := h.1 c1
    refine r_iload_n (pc := 62) d_Md_orderNumber_62 (x := i2) rfl ?_
    refine r_iload_n (pc := 63) d_Md_orderNumber_63 (x := i1) rfl ?_
    refine r_iload_n (pc := 64) d_Md_orderNumber_64 (x := i3) rfl ?_
    refine r_isub (pc := 65) d_Md_orderNumber_65 ?_
    refine r_imul (pc := 66) d_Md_orderNumber_66 ?_
    refine r_iload (pc := 67) d_Md_orderNumber_67 (x := i4) rfl ?_
    refine r_iadd (pc := 69) d_Md_orderNumber_69 ?_
    refine r_istore_n (pc := 70) (hk := rfl) (hd := d_Md_orderNumber_70) (hi := by decide) (ls2 := [.ref a, .int i1, .int ((i2 * (i1 - i3)) + i4), .int i3, .int i4, .int i5]) (h2 := rfl) ?_
    refine r_iinc (pc := 71) d_Md_orderNumber_71 (hi := by decide) (x := i3) rfl (v := i3 + 1) rfl (ls2 := [.ref a, .int i1, .int ((i2 * (i1 - i3)) + i4), .int (i3 + 1), .int i4, .int i5]) rfl ?_
    refine r_goto (pc := 74) d_Md_orderNumber_74 (tgt := 11) (by decide) ?_
    exact r_weak (ls2 := [.ref a, .int i1, .int ((i2 * (i1 - i3)) + i4), .int (i3 + 1), .null, .null]) ⟨Or.inr rfl, Or.inr rfl, Or.inr rfl, Or.inr rfl, Or.inl rfl, Or.inl rfl, trivial⟩ h
  · replace h := h.2 c1
    refine r_iload (pc := 30) d_Md_orderNumber_30 (x := i4) rfl ?_
    refine r_aload_n (pc := 32) d_Md_orderNumber_32 (x := a) rfl ?_
    obtain ⟨r2, er2, h⟩ := h
    refine r_getR (pc := 33) d_Md_orderNumber_33 f_Md_60 sa (Or.inr ⟨_, rfl⟩) (r := r2) er2 ?_
    refine r_iload (pc := 36) d_Md_orderNumber_36 (x := i5) rfl ?_
    obtain ⟨n4, s3, h⟩ := h
    obtain ⟨g5, h⟩ := h
    refine r_iald (pc := 38) d_Md_orderNumber_38 s3 g5 ?_
    refine r_aload_n (pc := 39) d_Md_orderNumber_39 (x := a) rfl ?_
    refine r_getR (pc := 40) d_Md_orderNumber_40 f_Md_60 sa (Or.inr ⟨_, rfl⟩) (r := r2) er2 ?_
    refine r_iload_n (pc := 43) d_Md_orderNumber_43 (x := i3) rfl ?_
    obtain ⟨g6, h⟩ := h
    refine r_iald (pc := 44) d_Md_orderNumber_44 s3 g6 ?_
    refine r_icmp_ge (pc := 45) d_Md_orderNumber_45 (tgt := 52) (by decide) (fun c7 => ?_) (fun c7 => ?_)
    · replace h := h.1 c7
      refine r_iconst (pc := 52) d_Md_orderNumber_52 (v := 0) (by decide) ?_
      refine r_iadd (pc := 53) d_Md_orderNumber_53 ?_
      refine r_istore (pc := 54) (hd := d_Md_orderNumber_54) (hi := by decide) (ls2 := [.ref a, .int i1, .int i2, .int i3, .int (i4 + (0 : Int32)), .int i5]) (h2 := rfl) ?_
      refine r_iinc (pc := 56) d_Md_orderNumber_56 (hi := by decide) (x := i5) rfl (v := i5 + 1) rfl (ls2 := [.ref a, .int i1, .int i2, .int i3, .int (i4 + (0 : Int32)), .int (i5 + 1)]) rfl ?_
      refine r_goto (pc := 59) d_Md_orderNumber_59 (tgt := 24) (by decide) ?_
      exact h
    · replace h := h.2 c7
      refine r_iconst (pc := 48) d_Md_orderNumber_48 (v := 1) (by decide) ?_
      refine r_goto (pc := 49) d_Md_orderNumber_49 (tgt := 53) (by decide) ?_
      refine r_iadd (pc := 53) d_Md_orderNumber_53 ?_
      refine r_istore (pc := 54) (hd := d_Md_orderNumber_54) (hi := by decide) (ls2 := [.ref a, .int i1, .int i2, .int i3, .int (i4 + (1 : Int32)), .int i5]) (h2 := rfl) ?_
      refine r_iinc (pc := 56) d_Md_orderNumber_56 (hi := by decide) (x := i5) rfl (v := i5 + 1) rfl (ls2 := [.ref a, .int i1, .int i2, .int i3, .int (i4 + (1 : Int32)), .int (i5 + 1)]) rfl ?_
      refine r_goto (pc := 59) d_Md_orderNumber_59 (tgt := 24) (by decide) ?_
      exact h
set_option maxRecDepth 4000 in
theorem e_Md_orderNow {l : Launch} {d : Nat} {sh : aw_SH} {S : aw_S} {P : Int32 → aw_S → Prop} {a : Nat} (sa : sh[a]? = some (0, 11)) (h : AW l m_Md_orderNow (d + 1) 0 0 (gI sh P) 0 0 2 [.ref a, .int 0] [] sh S) : Sp l m_Md_orderNow (d + 1) 0 0 [.ref a] sh S (gI sh P) := by
  refine Sp.of k_Md_orderNow (ls := [.ref a, .null]) rfl (Nat.le_of_ble_eq_true rfl) ?_
  refine r_iconst (pc := 0) d_Md_orderNow_0 (v := 0) (by decide) ?_
  refine r_istore_n (pc := 1) (hk := rfl) (hd := d_Md_orderNow_1) (hi := by decide) (ls2 := [.ref a, .int 0]) (h2 := rfl) ?_
  exact h
set_option maxRecDepth 4000 in
theorem s_Md_orderNow_2 {l : Launch} {d : Nat} {sh : aw_SH} {S : aw_S} {P : Int32 → aw_S → Prop} {a : Nat} {i1 : Int32} (sa : sh[a]? = some (0, 11)) (h : ∃ r1, S.2.2 a 0 = some r1 ∧ ∃ n3, sh[r1]? = some (3, n3) ∧ vp_in 0 n3 ∧ (((S.1 r1 (0 : Int32).toNatClampNeg) ≤ i1 → Sp l m_Md_orderNumber d 0 0 [.ref a] sh S (gI sh (fun x7 S6 => P x7 S6))) ∧ (¬ (S.1 r1 (0 : Int32).toNatClampNeg) ≤ i1 → ∃ r8, S.2.2 a 30 = some r8 ∧ vp_in ((17 : Int32) + i1) n3 ∧ ∃ n11, sh[r8]? = some (3, n11) ∧ vp_in i1 n11 ∧ AW l m_Md_orderNow (d + 1) 0 0 (gI sh P) 0 0 2 [.ref a, .int (i1 + 1)] [] sh (aw_uI S r8 i1.toNatClampNeg (S.1 r1 ((17 : Int32) + i1 : Int32).toNatClampNeg))))) : AW l m_Md_orderNow (d + 1) 0 0 (gI sh P) 0 0 2 [.ref a, .int i1] [] sh S := by
  refine r_iload_n (pc := 2) d_Md_orderNow_2 (x := i1) rfl ?_
  refine r_aload_n (pc := 3) d_Md_orderNow_3 (x := a) rfl ?_
  obtain ⟨r1, er1, h⟩ := h
  refine r_getR (pc := 4) d_Md_orderNow_4 f_Md_7 sa (Or.inr ⟨_, rfl⟩) (r := r1) er1 ?_
  refine r_iconst (pc := 7) d_Md_orderNow_7 (v := 0) (by decide) ?_
  obtain ⟨n3, s2, h⟩ := h
  obtain ⟨g4, h⟩ := h
  refine r_iald (pc := 8) d_Md_orderNow_8 s2 g4 ?_
  refine r_icmp_ge (pc := 9) d_Md_orderNow_9 (tgt := 33) (by decide) (fun c5 => ?_) (fun c5 => ?_)
  · replace h := h.1 c5
    refine r_aload_n (pc := 33) d_Md_orderNow_33 (x := a) rfl ?_
    refine r_callV (pc := 34) (k := a) (As := []) (rest := []) (mc' := 0) (ms' := 0) lk_Md_396 in_Md_orderNumber se_Md_orderNumber sa rfl d_Md_orderNow_34 k_Md_orderNumber rfl rfl (Nat.le_of_ble_eq_true rfl) (by decide) (by decide) (Sp.mono h ?_)
    rintro rS6 shS6 S6 ⟨qS6, x7, uS6, h⟩
    subst uS6
    rw [qS6]
    exact r_ireturn (pc := 37) d_Md_orderNow_37 rfl rfl (Nat.le_refl _) ⟨rfl, _, rfl, h⟩
  · replace h := h.2 c5
    refine r_aload_n (pc := 12) d_Md_orderNow_12 (x := a) rfl ?_
    obtain ⟨r8, er8, h⟩ := h
    refine r_getR (pc := 13) d_Md_orderNow_13 f_Md_60 sa (Or.inr ⟨_, rfl⟩) (r := r8) er8 ?_
    refine r_iload_n (pc := 16) d_Md_orderNow_16 (x := i1) rfl ?_
    refine r_aload_n (pc := 17) d_Md_orderNow_17 (x := a) rfl ?_
    refine r_getR (pc := 18) d_Md_orderNow_18 f_Md_7 sa (Or.inr ⟨_, rfl⟩) (r := r1) er1 ?_
    refine r_bipush (pc := 21) d_Md_orderNow_21 (v := 17) (by decide) ?_
    refine r_iload_n (pc := 23) d_Md_orderNow_23 (x := i1) rfl ?_
    refine r_iadd (pc := 24) d_Md_orderNow_24 ?_
    obtain ⟨g9, h⟩ := h
    refine r_iald (pc := 25) d_Md_orderNow_25 s2 g9 ?_
    obtain ⟨n11, s10, h⟩ := h
    obtain ⟨g12, h⟩ := h
    refine r_iast (pc := 26) d_Md_orderNow_26 s10 g12 ?_
    refine r_iinc (pc := 27) d_Md_orderNow_27 (hi := by decide) (x := i1) rfl (v := i1 + 1) rfl (ls2 := [.ref a, .int (i1 + 1)]) rfl ?_
    refine r_goto (pc := 30) d_Md_orderNow_30 (tgt := 2) (by decide) ?_
    exact h
set_option maxRecDepth 4000 in
theorem e_Md_homewardAt {l : Launch} {d : Nat} {sh : aw_SH} {S : aw_S} {P : Int32 → aw_S → Prop} {a : Nat} {p0 : Int32} (sa : sh[a]? = some (0, 11)) (h : ((0 ≤ p0 → Sp l m_Md_laysHome d 0 0 [.ref a] sh S (gV sh (fun S2 => Sp l m_Md_orderNow d 0 0 [.ref a] sh S2 (gI sh (fun x4 S3 => ∃ r5, S3.2.2 a 28 = some r5 ∧ ∃ n7, sh[r5]? = some (3, n7) ∧ vp_in x4 n7 ∧ ((p0 < (S3.1 r5 x4.toNatClampNeg) → AW l m_Md_homewardAt (d + 1) 0 0 (gI sh P) 0 0 41 [.ref a, .int p0, .int x4, .int 0, .int 0, .null] [] sh S3) ∧ (¬ p0 < (S3.1 r5 x4.toNatClampNeg) → Sp l m_Md_refuse d 0 0 [.ref a, .int 6] sh S3 (gI sh (fun x11 S10 => P x11 S10))))))))) ∧ (¬ 0 ≤ p0 → Sp l m_Md_refuse d 0 0 [.ref a, .int 1] sh S (gI sh (fun x13 S12 => P x13 S12))))) : Sp l m_Md_homewardAt (d + 1) 0 0 [.ref a, .int p0] sh S (gI sh P) := by
  refine Sp.of k_Md_homewardAt (ls := [.ref a, .int p0, .null, .null, .null, .null]) rfl (Nat.le_of_ble_eq_true rfl) ?_
  refine r_iload_n (pc := 0) d_Md_homewardAt_0 (x := p0) rfl ?_
  refine r_if_ge (pc := 1) d_Md_homewardAt_1 (tgt := 10) (by decide) (fun c1 => ?_) (fun c1 => ?_)
  · replace h := h.1 c1
    refine r_aload_n (pc := 10) d_Md_homewardAt_10 (x := a) rfl ?_
    refine r_callV (pc := 11) (k := a) (As := []) (rest := []) (mc' := 0) (ms' := 0) lk_Md_399 in_Md_laysHome se_Md_laysHome sa rfl d_Md_homewardAt_11 k_Md_laysHome rfl rfl (Nat.le_of_ble_eq_true rfl) (by decide) (by decide) (Sp.mono h ?_)
    rintro rS2 shS2 S2 ⟨qS2, uS2, h⟩
    subst uS2
    rw [qS2]
    refine r_aload_n (pc := 14) d_Md_homewardAt_14 (x := a) rfl ?_
    refine r_callV (pc := 15) (k := a) (As := []) (rest := []) (mc' := 0) (ms' := 0) lk_Md_402 in_Md_orderNow se_Md_orderNow sa rfl d_Md_homewardAt_15 k_Md_orderNow rfl rfl (Nat.le_of_ble_eq_true rfl) (by decide) (by decide) (Sp.mono h ?_)
    rintro rS3 shS3 S3 ⟨qS3, x4, uS3, h⟩
    subst uS3
    rw [qS3]
    refine r_istore_n (pc := 18) (hk := rfl) (hd := d_Md_homewardAt_18) (hi := by decide) (ls2 := [.ref a, .int p0, .int x4, .null, .null, .null]) (h2 := rfl) ?_
    refine r_iload_n (pc := 19) d_Md_homewardAt_19 (x := p0) rfl ?_
    refine r_aload_n (pc := 20) d_Md_homewardAt_20 (x := a) rfl ?_
    obtain ⟨r5, er5, h⟩ := h
    refine r_getR (pc := 21) d_Md_homewardAt_21 f_Md_54 sa (Or.inr ⟨_, rfl⟩) (r := r5) er5 ?_
    refine r_iload_n (pc := 24) d_Md_homewardAt_24 (x := x4) rfl ?_
    obtain ⟨n7, s6, h⟩ := h
    obtain ⟨g8, h⟩ := h
    refine r_iald (pc := 25) d_Md_homewardAt_25 s6 g8 ?_
    refine r_icmp_lt (pc := 26) d_Md_homewardAt_26 (tgt := 36) (by decide) (fun c9 => ?_) (fun c9 => ?_)
    · replace h := h.1 c9
      refine r_iconst (pc := 36) d_Md_homewardAt_36 (v := 0) (by decide) ?_
      refine r_istore_n (pc := 37) (hk := rfl) (hd := d_Md_homewardAt_37) (hi := by decide) (ls2 := [.ref a, .int p0, .int x4, .int 0, .null, .null]) (h2 := rfl) ?_
      refine r_iconst (pc := 38) d_Md_homewardAt_38 (v := 0) (by decide) ?_
      refine r_istore (pc := 39) (hd := d_Md_homewardAt_39) (hi := by decide) (ls2 := [.ref a, .int p0, .int x4, .int 0, .int 0, .null]) (h2 := rfl) ?_
      exact h
    · replace h := h.2 c9
      refine r_aload_n (pc := 29) d_Md_homewardAt_29 (x := a) rfl ?_
      refine r_bipush (pc := 30) d_Md_homewardAt_30 (v := 6) (by decide) ?_
      refine r_callV (pc := 32) (k := a) (As := [.int 6]) (rest := []) (mc' := 0) (ms' := 0) lk_Md_118 in_Md_refuse se_Md_refuse sa rfl d_Md_homewardAt_32 k_Md_refuse rfl rfl (Nat.le_of_ble_eq_true rfl) (by decide) (by decide) (Sp.mono h ?_)
      rintro rS10 shS10 S10 ⟨qS10, x11, uS10, h⟩
      subst uS10
      rw [qS10]
      exact r_ireturn (pc := 35) d_Md_homewardAt_35 rfl rfl (Nat.le_refl _) ⟨rfl, _, rfl, h⟩
  · replace h := h.2 c1
    refine r_aload_n (pc := 4) d_Md_homewardAt_4 (x := a) rfl ?_
    refine r_iconst (pc := 5) d_Md_homewardAt_5 (v := 1) (by decide) ?_
    refine r_callV (pc := 6) (k := a) (As := [.int 1]) (rest := []) (mc' := 0) (ms' := 0) lk_Md_118 in_Md_refuse se_Md_refuse sa rfl d_Md_homewardAt_6 k_Md_refuse rfl rfl (Nat.le_of_ble_eq_true rfl) (by decide) (by decide) (Sp.mono h ?_)
    rintro rS12 shS12 S12 ⟨qS12, x13, uS12, h⟩
    subst uS12
    rw [qS12]
    exact r_ireturn (pc := 9) d_Md_homewardAt_9 rfl rfl (Nat.le_refl _) ⟨rfl, _, rfl, h⟩
set_option maxRecDepth 4000 in
theorem s_Md_homewardAt_41 {l : Launch} {d : Nat} {sh : aw_SH} {S : aw_S} {P : Int32 → aw_S → Prop} {a : Nat} {i1 : Int32} {i2 : Int32} {i3 : Int32} {i4 : Int32} (sa : sh[a]? = some (0, 11)) (h : ((i1 < i4 → Sp l m_Md_gives d 0 0 [.ref a, .int i3] sh S (gI sh (fun x3 S2 => P x3 S2))) ∧ (¬ i1 < i4 → AW l m_Md_homewardAt (d + 1) 0 0 (gI sh P) 0 0 52 [.ref a, .int i1, .int i2, .int 0, .int i4, .int 0] [] sh S))) : AW l m_Md_homewardAt (d + 1) 0 0 (gI sh P) 0 0 41 [.ref a, .int i1, .int i2, .int i3, .int i4, .null] [] sh S := by
  refine r_iload (pc := 41) d_Md_homewardAt_41 (x := i4) rfl ?_
  refine r_iload_n (pc := 43) d_Md_homewardAt_43 (x := i1) rfl ?_
  refine r_icmp_gt (pc := 44) d_Md_homewardAt_44 (tgt := 126) (by decide) (fun c1 => ?_) (fun c1 => ?_)
  · replace h := h.1 c1
    refine r_aload_n (pc := 126) d_Md_homewardAt_126 (x := a) rfl ?_
    refine r_iload_n (pc := 127) d_Md_homewardAt_127 (x := i3) rfl ?_
    refine r_callV (pc := 128) (k := a) (As := [.int i3]) (rest := []) (mc' := 0) (ms' := 0) lk_Md_122 in_Md_gives se_Md_gives sa rfl d_Md_homewardAt_128 k_Md_gives rfl rfl (Nat.le_of_ble_eq_true rfl) (by decide) (by decide) (Sp.mono h ?_)
    rintro rS2 shS2 S2 ⟨qS2, x3, uS2, h⟩
    subst uS2
    rw [qS2]
    exact r_ireturn (pc := 131) d_Md_homewardAt_131 rfl rfl (Nat.le_refl _) ⟨rfl, _, rfl, h⟩
  · replace h := h.2 c1
    refine r_iconst (pc := 47) d_Md_homewardAt_47 (v := 0) (by decide) ?_
    refine r_istore (pc := 48) (hd := d_Md_homewardAt_48) (hi := by decide) (ls2 := [.ref a, .int i1, .int i2, .int i3, .int i4, .int 0]) (h2 := rfl) ?_
    refine r_iconst (pc := 50) d_Md_homewardAt_50 (v := 0) (by decide) ?_
    refine r_istore_n (pc := 51) (hk := rfl) (hd := d_Md_homewardAt_51) (hi := by decide) (ls2 := [.ref a, .int i1, .int i2, .int 0, .int i4, .int 0]) (h2 := rfl) ?_
    exact h
set_option maxRecDepth 4000 in
theorem s_Md_homewardAt_52 {l : Launch} {d : Nat} {sh : aw_SH} {S : aw_S} {P : Int32 → aw_S → Prop} {a : Nat} {i1 : Int32} {i2 : Int32} {i3 : Int32} {i4 : Int32} {i5 : Int32} (sa : sh[a]? = some (0, 11)) (h : ((¬ i5 = 0 → Sp l m_Md_orderNumber d 0 0 [.ref a] sh S (gI sh (fun x3 S2 => AW l m_Md_homewardAt (d + 1) 0 0 (gI sh P) 0 0 41 [.ref a, .int i1, .int x3, .int i3, .int (i4 + 1), .null] [] sh S2))) ∧ (i5 = 0 → Sp l m_Md_turnsOrder d 0 0 [.ref a, .int i3] sh S (gV sh (fun S4 => ∃ r5, S4.2.2 a 28 = some r5 ∧ Sp l m_Md_orderNumber d 0 0 [.ref a] sh S4 (gI sh (fun x7 S6 => ∃ n9, sh[r5]? = some (3, n9) ∧ vp_in x7 n9 ∧ ∃ r11, S6.2.2 a 28 = some r11 ∧ ∃ n13, sh[r11]? = some (3, n13) ∧ vp_in i2 n13 ∧ ((¬ (S6.1 r5 x7.toNatClampNeg) = ((S6.1 r11 i2.toNatClampNeg) - (1 : Int32)) → Sp l m_Md_turnsOrder d 0 0 [.ref a, .int i3] sh S6 (gV sh (fun S17 => AW l m_Md_homewardAt (d + 1) 0 0 (gI sh P) 0 0 52 [.ref a, .int i1, .int i2, .int (i3 + (1 : Int32)), .int i4, .int 0] [] sh S17))) ∧ ((S6.1 r5 x7.toNatClampNeg) = ((S6.1 r11 i2.toNatClampNeg) - (1 : Int32)) → AW l m_Md_homewardAt (d + 1) 0 0 (gI sh P) 0 0 52 [.ref a, .int i1, .int i2, .int (i3 + (0 : Int32)), .int i4, .int 1] [] sh S6))))))))) : AW l m_Md_homewardAt (d + 1) 0 0 (gI sh P) 0 0 52 [.ref a, .int i1, .int i2, .int i3, .int i4, .int i5] [] sh S := by
  refine r_iload (pc := 52) d_Md_homewardAt_52 (x := i5) rfl ?_
  refine r_if_ne (pc := 54) d_Md_homewardAt_54 (tgt := 115) (by decide) (fun c1 => ?_) (fun c1 => ?_)
  · replace h := h.1 c1
    refine r_aload_n (pc := 115) d_Md_homewardAt_115 (x := a) rfl ?_
    refine r_callV (pc := 116) (k := a) (As := []) (rest := []) (mc' := 0) (ms' := 0) lk_Md_396 in_Md_orderNumber se_Md_orderNumber sa rfl d_Md_homewardAt_116 k_Md_orderNumber rfl rfl (Nat.le_of_ble_eq_true rfl) (by decide) (by decide) (Sp.mono h ?_)
    rintro rS2 shS2 S2 ⟨qS2, x3, uS2, h⟩
    subst uS2
    rw [qS2]
    refine r_istore_n (pc := 119) (hk := rfl) (hd := d_Md_homewardAt_119) (hi := by decide) (ls2 := [.ref a, .int i1, .int x3, .int i3, .int i4, .int i5]) (h2 := rfl) ?_
    refine r_iinc (pc := 120) d_Md_homewardAt_120 (hi := by decide) (x := i4) rfl (v := i4 + 1) rfl (ls2 := [.ref a, .int i1, .int x3, .int i3, .int (i4 + 1), .int i5]) rfl ?_
    refine r_goto (pc := 123) d_Md_homewardAt_123 (tgt := 41) (by decide) ?_
    exact r_weak (ls2 := [.ref a, .int i1, .int x3, .int i3, .int (i4 + 1), .null]) ⟨Or.inr rfl, Or.inr rfl, Or.inr rfl, Or.inr rfl, Or.inr rfl, Or.inl rfl, trivial⟩ h
  · replace h := h.2 c1
    refine r_aload_n (pc := 57) d_Md_homewardAt_57 (x := a) rfl ?_
    refine r_iload_n (pc := 58) d_Md_homewardAt_58 (x := i3) rfl ?_
    refine r_callV (pc := 59) (k := a) (As := [.int i3]) (rest := []) (mc' := 0) (ms' := 0) lk_Md_393 in_Md_turnsOrder se_Md_turnsOrder sa rfl d_Md_homewardAt_59 k_Md_turnsOrder rfl rfl (Nat.le_of_ble_eq_true rfl) (by decide) (by decide) (Sp.mono h ?_)
    rintro rS4 shS4 S4 ⟨qS4, uS4, h⟩
    subst uS4
    rw [qS4]
    refine r_aload_n (pc := 62) d_Md_homewardAt_62 (x := a) rfl ?_
    obtain ⟨r5, er5, h⟩ := h
    refine r_getR (pc := 63) d_Md_homewardAt_63 f_Md_54 sa (Or.inr ⟨_, rfl⟩) (r := r5) er5 ?_
    refine r_aload_n (pc := 66) d_Md_homewardAt_66 (x := a) rfl ?_
    refine r_callV (pc := 67) (k := a) (As := []) (rest := [.ref r5]) (mc' := 0) (ms' := 0) lk_Md_396 in_Md_orderNumber se_Md_orderNumber sa rfl d_Md_homewardAt_67 k_Md_orderNumber rfl rfl (Nat.le_of_ble_eq_true rfl) (by decide) (by decide) (Sp.mono h ?_)
    rintro rS6 shS6 S6 ⟨qS6, x7, uS6, h⟩
    subst uS6
    rw [qS6]
    obtain ⟨n9, s8, h⟩ := h
    obtain ⟨g10, h⟩ := h
    refine r_iald (pc := 70) d_Md_homewardAt_70 s8 g10 ?_
    refine r_aload_n (pc := 71) d_Md_homewardAt_71 (x := a) rfl ?_
    obtain ⟨r11, er11, h⟩ := h
    refine r_getR (pc := 72) d_Md_homewardAt_72 f_Md_54 sa (Or.inr ⟨_, rfl⟩) (r := r11) er11 ?_
    refine r_iload_n (pc := 75) d_Md_homewardAt_75 (x := i2) rfl ?_
    obtain ⟨n13, s12, h⟩ := h
    obtain ⟨g14, h⟩ := h
    refine r_iald (pc := 76) d_Md_homewardAt_76 s12 g14 ?_
    refine r_iconst (pc := 77) d_Md_homewardAt_77 (v := 1) (by decide) ?_
    refine r_isub (pc := 78) d_Md_homewardAt_78 ?_
    refine r_icmp_ne (pc := 79) d_Md_homewardAt_79 (tgt := 86) (by decide) (fun c15 => ?_) (fun c15 => ?_)
    · replace h := h.1 c15
      refine r_iconst (pc := 86) d_Md_homewardAt_86 (v := 0) (by decide) ?_
      refine r_istore (pc := 87) (hd := d_Md_homewardAt_87) (hi := by decide) (ls2 := [.ref a, .int i1, .int i2, .int i3, .int i4, .int 0]) (h2 := rfl) ?_
      refine r_iload (pc := 89) d_Md_homewardAt_89 (x := 0) rfl ?_
      refine r_if_ne (pc := 91) d_Md_homewardAt_91 (tgt := 99) (by decide) (fun q => absurd q (by decide)) (fun _ => ?_)
      refine r_aload_n (pc := 94) d_Md_homewardAt_94 (x := a) rfl ?_
      refine r_iload_n (pc := 95) d_Md_homewardAt_95 (x := i3) rfl ?_
      refine r_callV (pc := 96) (k := a) (As := [.int i3]) (rest := []) (mc' := 0) (ms' := 0) lk_Md_393 in_Md_turnsOrder se_Md_turnsOrder sa rfl d_Md_homewardAt_96 k_Md_turnsOrder rfl rfl (Nat.le_of_ble_eq_true rfl) (by decide) (by decide) (Sp.mono h ?_)
      rintro rS17 shS17 S17 ⟨qS17, uS17, h⟩
      subst uS17
      rw [qS17]
      refine r_iload_n (pc := 99) d_Md_homewardAt_99 (x := i3) rfl ?_
      refine r_iload (pc := 100) d_Md_homewardAt_100 (x := 0) rfl ?_
      refine r_if_eq (pc := 102) d_Md_homewardAt_102 (tgt := 109) (by decide) (fun _ => ?_) (fun q => absurd q (by decide))
      refine r_iconst (pc := 109) d_Md_homewardAt_109 (v := 1) (by decide) ?_
      refine r_iadd (pc := 110) d_Md_homewardAt_110 ?_
      refine r_istore_n (pc := 111) (hk := rfl) (hd := d_Md_homewardAt_111) (hi := by decide) (ls2 := [.ref a, .int i1, .int i2, .int (i3 + (1 : Int32)), .int i4, .int 0]) (h2 := rfl) ?_
      refine r_goto (pc := 112) d_Md_homewardAt_112 (tgt := 52) (by decide) ?_
      exact h
    · replace h := h.2 c15
      refine r_iconst (pc := 82) d_Md_homewardAt_82 (v := 1) (by decide) ?_
      refine r_goto (pc := 83) d_Md_homewardAt_83 (tgt := 87) (by decide) ?_
      refine r_istore (pc := 87) (hd := d_Md_homewardAt_87) (hi := by decide) (ls2 := [.ref a, .int i1, .int i2, .int i3, .int i4, .int 1]) (h2 := rfl) ?_
      refine r_iload (pc := 89) d_Md_homewardAt_89 (x := 1) rfl ?_
      refine r_if_ne (pc := 91) d_Md_homewardAt_91 (tgt := 99) (by decide) (fun _ => ?_) (fun q => absurd q (by decide))
      refine r_iload_n (pc := 99) d_Md_homewardAt_99 (x := i3) rfl ?_
      refine r_iload (pc := 100) d_Md_homewardAt_100 (x := 1) rfl ?_
      refine r_if_eq (pc := 102) d_Md_homewardAt_102 (tgt := 109) (by decide) (fun q => absurd q (by decide)) (fun _ => ?_)
      refine r_iconst (pc := 105) d_Md_homewardAt_105 (v := 0) (by decide) ?_
      refine r_goto (pc := 106) d_Md_homewardAt_106 (tgt := 110) (by decide) ?_
      refine r_iadd (pc := 110) d_Md_homewardAt_110 ?_
      refine r_istore_n (pc := 111) (hk := rfl) (hd := d_Md_homewardAt_111) (hi := by decide) (ls2 := [.ref a, .int i1, .int i2, .int (i3 + (0 : Int32)), .int i4, .int 1]) (h2 := rfl) ?_
      refine r_goto (pc := 112) d_Md_homewardAt_112 (tgt := 52) (by decide) ?_
      exact h
set_option maxRecDepth 4000 in
theorem e_Md_meet {l : Launch} {d : Nat} {sh : aw_SH} {S : aw_S} {P : Int32 → aw_S → Prop} {a : Nat} {p0 : Int32} {p1 : Int32} (sa : sh[a]? = some (0, 11)) (h : Sp l m_Md_areTwo d 0 0 [.ref a, .int p0, .int p1] sh S (gI sh (fun x2 S1 => ((¬ x2 = 0 → ∃ r4, S1.2.2 a 0 = some r4 ∧ ∃ n6, sh[r4]? = some (3, n6) ∧ vp_in 0 n6 ∧ Sp l m_Md_placeOf d 0 0 [.ref a, .int p0] sh S1 (gI sh (fun x9 S8 => Sp l m_Md_placeOf d 0 0 [.ref a, .int p1] sh S8 (gI sh (fun x11 S10 => ¬ (S1.1 r4 (0 : Int32).toNatClampNeg) = 0 ∧ ∀ v12 : Int32, v12 = ((x9 - x11) + (S1.1 r4 (0 : Int32).toNatClampNeg)) - ((x9 - x11) + (S1.1 r4 (0 : Int32).toNatClampNeg)) / (S1.1 r4 (0 : Int32).toNatClampNeg) * (S1.1 r4 (0 : Int32).toNatClampNeg) → Sp l m_Ma_min d 0 0 [.int v12, .int ((S1.1 r4 (0 : Int32).toNatClampNeg) - v12)] sh S10 (gI sh (fun x14 S13 => Sp l m_Md_gives d 0 0 [.ref a, .int (x14 - (1 : Int32))] sh S13 (gI sh (fun x16 S15 => P x16 S15))))))))) ∧ (x2 = 0 → Sp l m_Md_refuse d 0 0 [.ref a, .int 1] sh S1 (gI sh (fun x19 S18 => P x19 S18))))))) : Sp l m_Md_meet (d + 1) 0 0 [.ref a, .int p0, .int p1] sh S (gI sh P) := by
  refine Sp.of k_Md_meet (ls := [.ref a, .int p0, .int p1, .null, .null]) rfl (Nat.le_of_ble_eq_true rfl) ?_
  refine r_aload_n (pc := 0) d_Md_meet_0 (x := a) rfl ?_
  refine r_iload_n (pc := 1) d_Md_meet_1 (x := p0) rfl ?_
  refine r_iload_n (pc := 2) d_Md_meet_2 (x := p1) rfl ?_
  refine r_callV (pc := 3) (k := a) (As := [.int p0, .int p1]) (rest := []) (mc' := 0) (ms' := 0) lk_Md_379 in_Md_areTwo se_Md_areTwo sa rfl d_Md_meet_3 k_Md_areTwo rfl rfl (Nat.le_of_ble_eq_true rfl) (by decide) (by decide) (Sp.mono h ?_)
  rintro rS1 shS1 S1 ⟨qS1, x2, uS1, h⟩
  subst uS1
  rw [qS1]
  refine r_if_ne (pc := 6) d_Md_meet_6 (tgt := 15) (by decide) (fun c3 => ?_) (fun c3 => ?_)
  · replace h := h.1 c3
    refine r_aload_n (pc := 15) d_Md_meet_15 (x := a) rfl ?_
    obtain ⟨r4, er4, h⟩ := h
    refine r_getR (pc := 16) d_Md_meet_16 f_Md_7 sa (Or.inr ⟨_, rfl⟩) (r := r4) er4 ?_
    refine r_iconst (pc := 19) d_Md_meet_19 (v := 0) (by decide) ?_
    obtain ⟨n6, s5, h⟩ := h
    obtain ⟨g7, h⟩ := h
    refine r_iald (pc := 20) d_Md_meet_20 s5 g7 ?_
    refine r_istore_n (pc := 21) (hk := rfl) (hd := d_Md_meet_21) (hi := by decide) (ls2 := [.ref a, .int p0, .int p1, .int (S1.1 r4 (0 : Int32).toNatClampNeg), .null]) (h2 := rfl) ?_
    refine r_aload_n (pc := 22) d_Md_meet_22 (x := a) rfl ?_
    refine r_iload_n (pc := 23) d_Md_meet_23 (x := p0) rfl ?_
    refine r_callV (pc := 24) (k := a) (As := [.int p0]) (rest := []) (mc' := 0) (ms' := 0) lk_Md_337 in_Md_placeOf se_Md_placeOf sa rfl d_Md_meet_24 k_Md_placeOf rfl rfl (Nat.le_of_ble_eq_true rfl) (by decide) (by decide) (Sp.mono h ?_)
    rintro rS8 shS8 S8 ⟨qS8, x9, uS8, h⟩
    subst uS8
    rw [qS8]
    refine r_aload_n (pc := 27) d_Md_meet_27 (x := a) rfl ?_
    refine r_iload_n (pc := 28) d_Md_meet_28 (x := p1) rfl ?_
    refine r_callV (pc := 29) (k := a) (As := [.int p1]) (rest := [.int x9]) (mc' := 0) (ms' := 0) lk_Md_337 in_Md_placeOf se_Md_placeOf sa rfl d_Md_meet_29 k_Md_placeOf rfl rfl (Nat.le_of_ble_eq_true rfl) (by decide) (by decide) (Sp.mono h ?_)
    rintro rS10 shS10 S10 ⟨qS10, x11, uS10, h⟩
    subst uS10
    rw [qS10]
    refine r_isub (pc := 32) d_Md_meet_32 ?_
    refine r_iload_n (pc := 33) d_Md_meet_33 (x := (S1.1 r4 (0 : Int32).toNatClampNeg)) rfl ?_
    refine r_iadd (pc := 34) d_Md_meet_34 ?_
    refine r_iload_n (pc := 35) d_Md_meet_35 (x := (S1.1 r4 (0 : Int32).toNatClampNeg)) rfl ?_
    obtain ⟨g17, h⟩ := h
    refine r_irem (pc := 36) d_Md_meet_36 g17 ?_
    refine r_ni (fun v12 ev12 => ?_)
    replace h := h v12 ev12
    refine r_istore (pc := 37) (hd := d_Md_meet_37) (hi := by decide) (ls2 := [.ref a, .int p0, .int p1, .int (S1.1 r4 (0 : Int32).toNatClampNeg), .int v12]) (h2 := rfl) ?_
    refine r_aload_n (pc := 39) d_Md_meet_39 (x := a) rfl ?_
    refine r_iload (pc := 40) d_Md_meet_40 (x := v12) rfl ?_
    refine r_iload_n (pc := 42) d_Md_meet_42 (x := (S1.1 r4 (0 : Int32).toNatClampNeg)) rfl ?_
    refine r_iload (pc := 43) d_Md_meet_43 (x := v12) rfl ?_
    refine r_isub (pc := 45) d_Md_meet_45 ?_
    refine r_callS (pc := 46) (k := 0) (As := [.int v12, .int ((S1.1 r4 (0 : Int32).toNatClampNeg) - v12)]) (rest := [.ref a]) (mc' := 0) (ms' := 0) lk_Md_173 st_Ma_min d_Md_meet_46 k_Ma_min rfl rfl (Nat.le_of_ble_eq_true rfl) (by decide) (by decide) (Sp.mono h ?_)
    rintro rS13 shS13 S13 ⟨qS13, x14, uS13, h⟩
    subst uS13
    rw [qS13]
    refine r_iconst (pc := 49) d_Md_meet_49 (v := 1) (by decide) ?_
    refine r_isub (pc := 50) d_Md_meet_50 ?_
    refine r_callV (pc := 51) (k := a) (As := [.int (x14 - (1 : Int32))]) (rest := []) (mc' := 0) (ms' := 0) lk_Md_122 in_Md_gives se_Md_gives sa rfl d_Md_meet_51 k_Md_gives rfl rfl (Nat.le_of_ble_eq_true rfl) (by decide) (by decide) (Sp.mono h ?_)
    rintro rS15 shS15 S15 ⟨qS15, x16, uS15, h⟩
    subst uS15
    rw [qS15]
    exact r_ireturn (pc := 54) d_Md_meet_54 rfl rfl (Nat.le_refl _) ⟨rfl, _, rfl, h⟩
  · replace h := h.2 c3
    refine r_aload_n (pc := 9) d_Md_meet_9 (x := a) rfl ?_
    refine r_iconst (pc := 10) d_Md_meet_10 (v := 1) (by decide) ?_
    refine r_callV (pc := 11) (k := a) (As := [.int 1]) (rest := []) (mc' := 0) (ms' := 0) lk_Md_118 in_Md_refuse se_Md_refuse sa rfl d_Md_meet_11 k_Md_refuse rfl rfl (Nat.le_of_ble_eq_true rfl) (by decide) (by decide) (Sp.mono h ?_)
    rintro rS18 shS18 S18 ⟨qS18, x19, uS18, h⟩
    subst uS18
    rw [qS18]
    exact r_ireturn (pc := 14) d_Md_meet_14 rfl rfl (Nat.le_refl _) ⟨rfl, _, rfl, h⟩
set_option maxRecDepth 4000 in
theorem e_Md_same {l : Launch} {d : Nat} {sh : aw_SH} {S : aw_S} {P : Int32 → aw_S → Prop} {a : Nat} {p0 : Int32} {p1 : Int32} (sa : sh[a]? = some (0, 11)) (h : Sp l m_Md_wrongDance d 0 0 [.ref a, .int p0, .int p1] sh S (gI sh (fun x2 S1 => ((x2 ≤ 0 → Sp l m_Md_laysDance d 0 0 [.ref a, .int p0, .int p1, .int (-1)] sh S1 (gV sh (fun S4 => Sp l m_Md_apartNow d 0 0 [.ref a] sh S4 (gI sh (fun x6 S5 => ((¬ x6 = 0 → Sp l m_Md_gives d 0 0 [.ref a, .int 0] sh S5 (gI sh (fun x9 S8 => P x9 S8))) ∧ (x6 = 0 → Sp l m_Md_gives d 0 0 [.ref a, .int 1] sh S5 (gI sh (fun x11 S10 => P x11 S10))))))))) ∧ (¬ x2 ≤ 0 → Sp l m_Md_refuse d 0 0 [.ref a, .int x2] sh S1 (gI sh (fun x13 S12 => P x13 S12))))))) : Sp l m_Md_same (d + 1) 0 0 [.ref a, .int p0, .int p1] sh S (gI sh P) := by
  refine Sp.of k_Md_same (ls := [.ref a, .int p0, .int p1, .null]) rfl (Nat.le_of_ble_eq_true rfl) ?_
  refine r_aload_n (pc := 0) d_Md_same_0 (x := a) rfl ?_
  refine r_iload_n (pc := 1) d_Md_same_1 (x := p0) rfl ?_
  refine r_iload_n (pc := 2) d_Md_same_2 (x := p1) rfl ?_
  refine r_callV (pc := 3) (k := a) (As := [.int p0, .int p1]) (rest := []) (mc' := 0) (ms' := 0) lk_Md_420 in_Md_wrongDance se_Md_wrongDance sa rfl d_Md_same_3 k_Md_wrongDance rfl rfl (Nat.le_of_ble_eq_true rfl) (by decide) (by decide) (Sp.mono h ?_)
  rintro rS1 shS1 S1 ⟨qS1, x2, uS1, h⟩
  subst uS1
  rw [qS1]
  refine r_istore_n (pc := 6) (hk := rfl) (hd := d_Md_same_6) (hi := by decide) (ls2 := [.ref a, .int p0, .int p1, .int x2]) (h2 := rfl) ?_
  refine r_iload_n (pc := 7) d_Md_same_7 (x := x2) rfl ?_
  refine r_if_le (pc := 8) d_Md_same_8 (tgt := 17) (by decide) (fun c3 => ?_) (fun c3 => ?_)
  · replace h := h.1 c3
    refine r_aload_n (pc := 17) d_Md_same_17 (x := a) rfl ?_
    refine r_iload_n (pc := 18) d_Md_same_18 (x := p0) rfl ?_
    refine r_iload_n (pc := 19) d_Md_same_19 (x := p1) rfl ?_
    refine r_iconst (pc := 20) d_Md_same_20 (v := (-1)) (by decide) ?_
    refine r_callV (pc := 21) (k := a) (As := [.int p0, .int p1, .int (-1)]) (rest := []) (mc' := 0) (ms' := 0) lk_Md_423 in_Md_laysDance se_Md_laysDance sa rfl d_Md_same_21 k_Md_laysDance rfl rfl (Nat.le_of_ble_eq_true rfl) (by decide) (by decide) (Sp.mono h ?_)
    rintro rS4 shS4 S4 ⟨qS4, uS4, h⟩
    subst uS4
    rw [qS4]
    refine r_aload_n (pc := 24) d_Md_same_24 (x := a) rfl ?_
    refine r_aload_n (pc := 25) d_Md_same_25 (x := a) rfl ?_
    refine r_callV (pc := 26) (k := a) (As := []) (rest := [.ref a]) (mc' := 0) (ms' := 0) lk_Md_427 in_Md_apartNow se_Md_apartNow sa rfl d_Md_same_26 k_Md_apartNow rfl rfl (Nat.le_of_ble_eq_true rfl) (by decide) (by decide) (Sp.mono h ?_)
    rintro rS5 shS5 S5 ⟨qS5, x6, uS5, h⟩
    subst uS5
    rw [qS5]
    refine r_if_ne (pc := 29) d_Md_same_29 (tgt := 36) (by decide) (fun c7 => ?_) (fun c7 => ?_)
    · replace h := h.1 c7
      refine r_iconst (pc := 36) d_Md_same_36 (v := 0) (by decide) ?_
      refine r_callV (pc := 37) (k := a) (As := [.int 0]) (rest := []) (mc' := 0) (ms' := 0) lk_Md_122 in_Md_gives se_Md_gives sa rfl d_Md_same_37 k_Md_gives rfl rfl (Nat.le_of_ble_eq_true rfl) (by decide) (by decide) (Sp.mono h ?_)
      rintro rS8 shS8 S8 ⟨qS8, x9, uS8, h⟩
      subst uS8
      rw [qS8]
      exact r_ireturn (pc := 40) d_Md_same_40 rfl rfl (Nat.le_refl _) ⟨rfl, _, rfl, h⟩
    · replace h := h.2 c7
      refine r_iconst (pc := 32) d_Md_same_32 (v := 1) (by decide) ?_
      refine r_goto (pc := 33) d_Md_same_33 (tgt := 37) (by decide) ?_
      refine r_callV (pc := 37) (k := a) (As := [.int 1]) (rest := []) (mc' := 0) (ms' := 0) lk_Md_122 in_Md_gives se_Md_gives sa rfl d_Md_same_37 k_Md_gives rfl rfl (Nat.le_of_ble_eq_true rfl) (by decide) (by decide) (Sp.mono h ?_)
      rintro rS10 shS10 S10 ⟨qS10, x11, uS10, h⟩
      subst uS10
      rw [qS10]
      exact r_ireturn (pc := 40) d_Md_same_40 rfl rfl (Nat.le_refl _) ⟨rfl, _, rfl, h⟩
  · replace h := h.2 c3
    refine r_aload_n (pc := 11) d_Md_same_11 (x := a) rfl ?_
    refine r_iload_n (pc := 12) d_Md_same_12 (x := x2) rfl ?_
    refine r_callV (pc := 13) (k := a) (As := [.int x2]) (rest := []) (mc' := 0) (ms' := 0) lk_Md_118 in_Md_refuse se_Md_refuse sa rfl d_Md_same_13 k_Md_refuse rfl rfl (Nat.le_of_ble_eq_true rfl) (by decide) (by decide) (Sp.mono h ?_)
    rintro rS12 shS12 S12 ⟨qS12, x13, uS12, h⟩
    subst uS12
    rw [qS12]
    exact r_ireturn (pc := 16) d_Md_same_16 rfl rfl (Nat.le_refl _) ⟨rfl, _, rfl, h⟩
set_option maxRecDepth 4000 in
theorem e_Md_wrongDance {l : Launch} {d : Nat} {sh : aw_SH} {S : aw_S} {P : Int32 → aw_S → Prop} {a : Nat} {p0 : Int32} {p1 : Int32} (sa : sh[a]? = some (0, 11)) (h : Sp l m_Md_isTray d 0 0 [.int p0] sh S (gI sh (fun x2 S1 => ((x2 = 0 → P 1 S1) ∧ (¬ x2 = 0 → Sp l m_Md_isFrom d 0 0 [.long p1.toInt64, .long 0, .long 40] sh S1 (gI sh (fun x5 S4 => ((¬ x5 = 0 → ∃ r7, S4.2.2 a 6 = some r7 ∧ ∃ n9, sh[r7]? = some (3, n9) ∧ vp_in p0 n9 ∧ ((¬ (S4.1 r7 p0.toNatClampNeg) = (-1) → vp_in p0 n9 ∧ ((p1 ≤ (S4.1 r7 p0.toNatClampNeg) → AW l m_Md_wrongDance (d + 1) 0 0 (gI sh P) 0 0 47 [.ref a, .int p0, .int p1, .int 0] [] sh S4) ∧ (¬ p1 ≤ (S4.1 r7 p0.toNatClampNeg) → P 3 S4))) ∧ ((S4.1 r7 p0.toNatClampNeg) = (-1) → P 2 S4))) ∧ (x5 = 0 → P 1 S4))))))))) : Sp l m_Md_wrongDance (d + 1) 0 0 [.ref a, .int p0, .int p1] sh S (gI sh P) := by
  refine Sp.of k_Md_wrongDance (ls := [.ref a, .int p0, .int p1, .null]) rfl (Nat.le_of_ble_eq_true rfl) ?_
  refine r_iload_n (pc := 0) d_Md_wrongDance_0 (x := p0) rfl ?_
  refine r_callS (pc := 1) (k := 0) (As := [.int p0]) (rest := []) (mc' := 0) (ms' := 0) lk_Md_129 st_Md_isTray d_Md_wrongDance_1 k_Md_isTray rfl rfl (Nat.le_of_ble_eq_true rfl) (by decide) (by decide) (Sp.mono h ?_)
  rintro rS1 shS1 S1 ⟨qS1, x2, uS1, h⟩
  subst uS1
  rw [qS1]
  refine r_if_eq (pc := 4) d_Md_wrongDance_4 (tgt := 19) (by decide) (fun c3 => ?_) (fun c3 => ?_)
  · replace h := h.1 c3
    refine r_iconst (pc := 19) d_Md_wrongDance_19 (v := 1) (by decide) ?_
    exact r_ireturn (pc := 20) d_Md_wrongDance_20 rfl rfl (Nat.le_refl _) ⟨rfl, _, rfl, h⟩
  · replace h := h.2 c3
    refine r_iload_n (pc := 7) d_Md_wrongDance_7 (x := p1) rfl ?_
    refine r_i2l (pc := 8) d_Md_wrongDance_8 ?_
    refine r_lconst (pc := 9) d_Md_wrongDance_9 (v := 0) (by decide) ?_
    refine r_ldc2 (pc := 10) d_Md_wrongDance_10 cl_Md_384 ?_
    refine r_callS (pc := 13) (k := 0) (As := [.long p1.toInt64, .long 0, .long 40]) (rest := []) (mc' := 0) (ms' := 0) lk_Md_372 st_Md_isFrom d_Md_wrongDance_13 k_Md_isFrom rfl rfl (Nat.le_of_ble_eq_true rfl) (by decide) (by decide) (Sp.mono h ?_)
    rintro rS4 shS4 S4 ⟨qS4, x5, uS4, h⟩
    subst uS4
    rw [qS4]
    refine r_if_ne (pc := 16) d_Md_wrongDance_16 (tgt := 21) (by decide) (fun c6 => ?_) (fun c6 => ?_)
    · replace h := h.1 c6
      refine r_aload_n (pc := 21) d_Md_wrongDance_21 (x := a) rfl ?_
      obtain ⟨r7, er7, h⟩ := h
      refine r_getR (pc := 22) d_Md_wrongDance_22 f_Md_24 sa (Or.inr ⟨_, rfl⟩) (r := r7) er7 ?_
      refine r_iload_n (pc := 25) d_Md_wrongDance_25 (x := p0) rfl ?_
      obtain ⟨n9, s8, h⟩ := h
      obtain ⟨g10, h⟩ := h
      refine r_iald (pc := 26) d_Md_wrongDance_26 s8 g10 ?_
      refine r_iconst (pc := 27) d_Md_wrongDance_27 (v := (-1)) (by decide) ?_
      refine r_icmp_ne (pc := 28) d_Md_wrongDance_28 (tgt := 33) (by decide) (fun c11 => ?_) (fun c11 => ?_)
      · replace h := h.1 c11
        refine r_aload_n (pc := 33) d_Md_wrongDance_33 (x := a) rfl ?_
        refine r_getR (pc := 34) d_Md_wrongDance_34 f_Md_24 sa (Or.inr ⟨_, rfl⟩) (r := r7) er7 ?_
        refine r_iload_n (pc := 37) d_Md_wrongDance_37 (x := p0) rfl ?_
        obtain ⟨g12, h⟩ := h
        refine r_iald (pc := 38) d_Md_wrongDance_38 s8 g12 ?_
        refine r_iload_n (pc := 39) d_Md_wrongDance_39 (x := p1) rfl ?_
        refine r_icmp_ge (pc := 40) d_Md_wrongDance_40 (tgt := 45) (by decide) (fun c13 => ?_) (fun c13 => ?_)
        · replace h := h.1 c13
          refine r_iconst (pc := 45) d_Md_wrongDance_45 (v := 0) (by decide) ?_
          refine r_istore_n (pc := 46) (hk := rfl) (hd := d_Md_wrongDance_46) (hi := by decide) (ls2 := [.ref a, .int p0, .int p1, .int 0]) (h2 := rfl) ?_
          exact h
        · replace h := h.2 c13
          refine r_iconst (pc := 43) d_Md_wrongDance_43 (v := 3) (by decide) ?_
          exact r_ireturn (pc := 44) d_Md_wrongDance_44 rfl rfl (Nat.le_refl _) ⟨rfl, _, rfl, h⟩
      · replace h := h.2 c11
        refine r_iconst (pc := 31) d_Md_wrongDance_31 (v := 2) (by decide) ?_
        exact r_ireturn (pc := 32) d_Md_wrongDance_32 rfl rfl (Nat.le_refl _) ⟨rfl, _, rfl, h⟩
    · replace h := h.2 c6
      refine r_iconst (pc := 19) d_Md_wrongDance_19 (v := 1) (by decide) ?_
      exact r_ireturn (pc := 20) d_Md_wrongDance_20 rfl rfl (Nat.le_refl _) ⟨rfl, _, rfl, h⟩
set_option maxRecDepth 4000 in
theorem s_Md_wrongDance_47 {l : Launch} {d : Nat} {sh : aw_SH} {S : aw_S} {P : Int32 → aw_S → Prop} {a : Nat} {i1 : Int32} {i2 : Int32} {i3 : Int32} (sa : sh[a]? = some (0, 11)) (h : ((i2 ≤ i3 → P 0 S) ∧ (¬ i2 ≤ i3 → ∃ r2, S.2.2 a 7 = some r2 ∧ ∃ n4, sh[r2]? = some (4, n4) ∧ vp_in (((60 : Int32) * i1) + i3) n4 ∧ Sp l m_Md_gapsOf d 0 0 [.ref a, .int 0] sh S (gI sh (fun x7 S6 => Sp l m_Md_isFrom d 0 0 [.long (S.2.1 r2 (((60 : Int32) * i1) + i3 : Int32).toNatClampNeg), .long 0, .long (((2 : Int64) * x7.toInt64) - (1 : Int64))] sh S6 (gI sh (fun x9 S8 => ((¬ x9 = 0 → AW l m_Md_wrongDance (d + 1) 0 0 (gI sh P) 0 0 47 [.ref a, .int i1, .int i2, .int (i3 + 1)] [] sh S8) ∧ (x9 = 0 → P 5 S8))))))))) : AW l m_Md_wrongDance (d + 1) 0 0 (gI sh P) 0 0 47 [.ref a, .int i1, .int i2, .int i3] [] sh S := by
  refine r_iload_n (pc := 47) d_Md_wrongDance_47 (x := i3) rfl ?_
  refine r_iload_n (pc := 48) d_Md_wrongDance_48 (x := i2) rfl ?_
  refine r_icmp_ge (pc := 49) d_Md_wrongDance_49 (tgt := 90) (by decide) (fun c1 => ?_) (fun c1 => ?_)
  · replace h := h.1 c1
    refine r_iconst (pc := 90) d_Md_wrongDance_90 (v := 0) (by decide) ?_
    exact r_ireturn (pc := 91) d_Md_wrongDance_91 rfl rfl (Nat.le_refl _) ⟨rfl, _, rfl, h⟩
  · replace h := h.2 c1
    refine r_aload_n (pc := 52) d_Md_wrongDance_52 (x := a) rfl ?_
    obtain ⟨r2, er2, h⟩ := h
    refine r_getR (pc := 53) d_Md_wrongDance_53 f_Md_27 sa (Or.inr ⟨_, rfl⟩) (r := r2) er2 ?_
    refine r_bipush (pc := 56) d_Md_wrongDance_56 (v := 60) (by decide) ?_
    refine r_iload_n (pc := 58) d_Md_wrongDance_58 (x := i1) rfl ?_
    refine r_imul (pc := 59) d_Md_wrongDance_59 ?_
    refine r_iload_n (pc := 60) d_Md_wrongDance_60 (x := i3) rfl ?_
    refine r_iadd (pc := 61) d_Md_wrongDance_61 ?_
    obtain ⟨n4, s3, h⟩ := h
    obtain ⟨g5, h⟩ := h
    refine r_lald (pc := 62) d_Md_wrongDance_62 s3 g5 ?_
    refine r_lconst (pc := 63) d_Md_wrongDance_63 (v := 0) (by decide) ?_
    refine r_ldc2 (pc := 64) d_Md_wrongDance_64 cl_Md_405 ?_
    refine r_aload_n (pc := 67) d_Md_wrongDance_67 (x := a) rfl ?_
    refine r_iconst (pc := 68) d_Md_wrongDance_68 (v := 0) (by decide) ?_
    refine r_callV (pc := 69) (k := a) (As := [.int 0]) (rest := [.long 2, .long 0, .long (S.2.1 r2 (((60 : Int32) * i1) + i3 : Int32).toNatClampNeg)]) (mc' := 0) (ms' := 0) lk_Md_260 in_Md_gapsOf se_Md_gapsOf sa rfl d_Md_wrongDance_69 k_Md_gapsOf rfl rfl (Nat.le_of_ble_eq_true rfl) (by decide) (by decide) (Sp.mono h ?_)
    rintro rS6 shS6 S6 ⟨qS6, x7, uS6, h⟩
    subst uS6
    rw [qS6]
    refine r_i2l (pc := 72) d_Md_wrongDance_72 ?_
    refine r_lmul (pc := 73) d_Md_wrongDance_73 ?_
    refine r_lconst (pc := 74) d_Md_wrongDance_74 (v := 1) (by decide) ?_
    refine r_lsub (pc := 75) d_Md_wrongDance_75 ?_
    refine r_callS (pc := 76) (k := 0) (As := [.long (S.2.1 r2 (((60 : Int32) * i1) + i3 : Int32).toNatClampNeg), .long 0, .long (((2 : Int64) * x7.toInt64) - (1 : Int64))]) (rest := []) (mc' := 0) (ms' := 0) lk_Md_372 st_Md_isFrom d_Md_wrongDance_76 k_Md_isFrom rfl rfl (Nat.le_of_ble_eq_true rfl) (by decide) (by decide) (Sp.mono h ?_)
    rintro rS8 shS8 S8 ⟨qS8, x9, uS8, h⟩
    subst uS8
    rw [qS8]
    refine r_if_ne (pc := 79) d_Md_wrongDance_79 (tgt := 84) (by decide) (fun c10 => ?_) (fun c10 => ?_)
    · replace h := h.1 c10
      refine r_iinc (pc := 84) d_Md_wrongDance_84 (hi := by decide) (x := i3) rfl (v := i3 + 1) rfl (ls2 := [.ref a, .int i1, .int i2, .int (i3 + 1)]) rfl ?_
      refine r_goto (pc := 87) d_Md_wrongDance_87 (tgt := 47) (by decide) ?_
      exact h
    · replace h := h.2 c10
      refine r_iconst (pc := 82) d_Md_wrongDance_82 (v := 5) (by decide) ?_
      exact r_ireturn (pc := 83) d_Md_wrongDance_83 rfl rfl (Nat.le_refl _) ⟨rfl, _, rfl, h⟩
set_option maxRecDepth 4000 in
theorem e_Md_laysDance {l : Launch} {d : Nat} {sh : aw_SH} {S : aw_S} {P : aw_S → Prop} {a : Nat} {p0 : Int32} {p1 : Int32} {p2 : Int32} (sa : sh[a]? = some (0, 11)) (h : AW l m_Md_laysDance (d + 1) 0 0 (gV sh P) 0 0 8 [.ref a, .int p0, .int p1, .int p2, .int 0, .null] [] sh (aw_uI S a 33 0)) : Sp l m_Md_laysDance (d + 1) 0 0 [.ref a, .int p0, .int p1, .int p2] sh S (gV sh P) := by
  refine Sp.of k_Md_laysDance (ls := [.ref a, .int p0, .int p1, .int p2, .null, .null]) rfl (Nat.le_of_ble_eq_true rfl) ?_
  refine r_aload_n (pc := 0) d_Md_laysDance_0 (x := a) rfl ?_
  refine r_iconst (pc := 1) d_Md_laysDance_1 (v := 0) (by decide) ?_
  refine r_putI (pc := 2) d_Md_laysDance_2 f_Md_407 sa rfl ?_
  refine r_iconst (pc := 5) d_Md_laysDance_5 (v := 0) (by decide) ?_
  refine r_istore (pc := 6) (hd := d_Md_laysDance_6) (hi := by decide) (ls2 := [.ref a, .int p0, .int p1, .int p2, .int 0, .null]) (h2 := rfl) ?_
  exact h
set_option maxRecDepth 4000 in
theorem s_Md_laysDance_8 {l : Launch} {d : Nat} {sh : aw_SH} {S : aw_S} {P : aw_S → Prop} {a : Nat} {i1 : Int32} {i2 : Int32} {i3 : Int32} {i4 : Int32} (sa : sh[a]? = some (0, 11)) (h : ((i2 ≤ i4 → P S) ∧ (¬ i2 ≤ i4 → ∃ r2, S.2.2 a 7 = some r2 ∧ ∃ n4, sh[r2]? = some (4, n4) ∧ vp_in (((60 : Int32) * i1) + i4) n4 ∧ ∀ v6 : Int32, v6 = (S.2.1 r2 (((60 : Int32) * i1) + i4 : Int32).toNatClampNeg).toInt32 → ((¬ i4 = i3 → Sp l m_Md_addsDance d 0 0 [.ref a, .int (v6 / (2 : Int32)), .int (v6 - v6 / (2 : Int32) * (2 : Int32))] sh S (gV sh (fun S8 => AW l m_Md_laysDance (d + 1) 0 0 (gV sh P) 0 0 8 [.ref a, .int i1, .int i2, .int i3, .int (i4 + 1), .null] [] sh S8))) ∧ (i4 = i3 → Sp l m_Md_addsDance d 0 0 [.ref a, .int (v6 / (2 : Int32)), .int ((1 : Int32) - (v6 - v6 / (2 : Int32) * (2 : Int32)))] sh S (gV sh (fun S9 => AW l m_Md_laysDance (d + 1) 0 0 (gV sh P) 0 0 8 [.ref a, .int i1, .int i2, .int i3, .int (i4 + 1), .null] [] sh S9))))))) : AW l m_Md_laysDance (d + 1) 0 0 (gV sh P) 0 0 8 [.ref a, .int i1, .int i2, .int i3, .int i4, .null] [] sh S := by
  refine r_iload (pc := 8) d_Md_laysDance_8 (x := i4) rfl ?_
  refine r_iload_n (pc := 10) d_Md_laysDance_10 (x := i2) rfl ?_
  refine r_icmp_ge (pc := 11) d_Md_laysDance_11 (tgt := 62) (by decide) (fun c1 => ?_) (fun c1 => ?_)
  · replace h := h.1 c1
    exact r_return (pc := 62) d_Md_laysDance_62 rfl rfl (Nat.le_refl _) ⟨rfl, rfl, h⟩
  · replace h := h.2 c1
    refine r_aload_n (pc := 14) d_Md_laysDance_14 (x := a) rfl ?_
    obtain ⟨r2, er2, h⟩ := h
    refine r_getR (pc := 15) d_Md_laysDance_15 f_Md_27 sa (Or.inr ⟨_, rfl⟩) (r := r2) er2 ?_
    refine r_bipush (pc := 18) d_Md_laysDance_18 (v := 60) (by decide) ?_
    refine r_iload_n (pc := 20) d_Md_laysDance_20 (x := i1) rfl ?_
    refine r_imul (pc := 21) d_Md_laysDance_21 ?_
    refine r_iload (pc := 22) d_Md_laysDance_22 (x := i4) rfl ?_
    refine r_iadd (pc := 24) d_Md_laysDance_24 ?_
    obtain ⟨n4, s3, h⟩ := h
    obtain ⟨g5, h⟩ := h
    refine r_lald (pc := 25) d_Md_laysDance_25 s3 g5 ?_
    refine r_l2i (pc := 26) d_Md_laysDance_26 ?_
    refine r_ni (fun v6 ev6 => ?_)
    replace h := h v6 ev6
    refine r_istore (pc := 27) (hd := d_Md_laysDance_27) (hi := by decide) (ls2 := [.ref a, .int i1, .int i2, .int i3, .int i4, .int v6]) (h2 := rfl) ?_
    refine r_aload_n (pc := 29) d_Md_laysDance_29 (x := a) rfl ?_
    refine r_iload (pc := 30) d_Md_laysDance_30 (x := v6) rfl ?_
    refine r_iconst (pc := 32) d_Md_laysDance_32 (v := 2) (by decide) ?_
    refine r_idiv (pc := 33) d_Md_laysDance_33 (by decide) ?_
    refine r_iload (pc := 34) d_Md_laysDance_34 (x := i4) rfl ?_
    refine r_iload_n (pc := 36) d_Md_laysDance_36 (x := i3) rfl ?_
    refine r_icmp_ne (pc := 37) d_Md_laysDance_37 (tgt := 49) (by decide) (fun c7 => ?_) (fun c7 => ?_)
    · replace h := h.1 c7
      refine r_iload (pc := 49) d_Md_laysDance_49 (x := v6) rfl ?_
      refine r_iconst (pc := 51) d_Md_laysDance_51 (v := 2) (by decide) ?_
      refine r_irem (pc := 52) d_Md_laysDance_52 (by decide) ?_
      refine r_callV (pc := 53) (k := a) (As := [.int (v6 / (2 : Int32)), .int (v6 - v6 / (2 : Int32) * (2 : Int32))]) (rest := []) (mc' := 0) (ms' := 0) lk_Md_410 in_Md_addsDance se_Md_addsDance sa rfl d_Md_laysDance_53 k_Md_addsDance rfl rfl (Nat.le_of_ble_eq_true rfl) (by decide) (by decide) (Sp.mono h ?_)
      rintro rS8 shS8 S8 ⟨qS8, uS8, h⟩
      subst uS8
      rw [qS8]
      refine r_iinc (pc := 56) d_Md_laysDance_56 (hi := by decide) (x := i4) rfl (v := i4 + 1) rfl (ls2 := [.ref a, .int i1, .int i2, .int i3, .int (i4 + 1), .int v6]) rfl ?_
      refine r_goto (pc := 59) d_Md_laysDance_59 (tgt := 8) (by decide) ?_
      exact r_weak (ls2 := [.ref a, .int i1, .int i2, .int i3, .int (i4 + 1), .null]) ⟨Or.inr rfl, Or.inr rfl, Or.inr rfl, Or.inr rfl, Or.inr rfl, Or.inl rfl, trivial⟩ h
    · replace h := h.2 c7
      refine r_iconst (pc := 40) d_Md_laysDance_40 (v := 1) (by decide) ?_
      refine r_iload (pc := 41) d_Md_laysDance_41 (x := v6) rfl ?_
      refine r_iconst (pc := 43) d_Md_laysDance_43 (v := 2) (by decide) ?_
      refine r_irem (pc := 44) d_Md_laysDance_44 (by decide) ?_
      refine r_isub (pc := 45) d_Md_laysDance_45 ?_
      refine r_goto (pc := 46) d_Md_laysDance_46 (tgt := 53) (by decide) ?_
      refine r_callV (pc := 53) (k := a) (As := [.int (v6 / (2 : Int32)), .int ((1 : Int32) - (v6 - v6 / (2 : Int32) * (2 : Int32)))]) (rest := []) (mc' := 0) (ms' := 0) lk_Md_410 in_Md_addsDance se_Md_addsDance sa rfl d_Md_laysDance_53 k_Md_addsDance rfl rfl (Nat.le_of_ble_eq_true rfl) (by decide) (by decide) (Sp.mono h ?_)
      rintro rS9 shS9 S9 ⟨qS9, uS9, h⟩
      subst uS9
      rw [qS9]
      refine r_iinc (pc := 56) d_Md_laysDance_56 (hi := by decide) (x := i4) rfl (v := i4 + 1) rfl (ls2 := [.ref a, .int i1, .int i2, .int i3, .int (i4 + 1), .int v6]) rfl ?_
      refine r_goto (pc := 59) d_Md_laysDance_59 (tgt := 8) (by decide) ?_
      exact r_weak (ls2 := [.ref a, .int i1, .int i2, .int i3, .int (i4 + 1), .null]) ⟨Or.inr rfl, Or.inr rfl, Or.inr rfl, Or.inr rfl, Or.inr rfl, Or.inl rfl, trivial⟩ h
set_option maxRecDepth 4000 in
theorem e_Md_addsDance {l : Launch} {d : Nat} {sh : aw_SH} {S : aw_S} {P : aw_S → Prop} {a : Nat} {p0 : Int32} {p1 : Int32} (sa : sh[a]? = some (0, 11)) (h : AW l m_Md_addsDance (d + 1) 0 0 (gV sh P) 0 0 5 [.ref a, .int p0, .int p1, .int (-1), .int 0, .null] [] sh S) : Sp l m_Md_addsDance (d + 1) 0 0 [.ref a, .int p0, .int p1] sh S (gV sh P) := by
  refine Sp.of k_Md_addsDance (ls := [.ref a, .int p0, .int p1, .null, .null, .null]) rfl (Nat.le_of_ble_eq_true rfl) ?_
  refine r_iconst (pc := 0) d_Md_addsDance_0 (v := (-1)) (by decide) ?_
  refine r_istore_n (pc := 1) (hk := rfl) (hd := d_Md_addsDance_1) (hi := by decide) (ls2 := [.ref a, .int p0, .int p1, .int (-1), .null, .null]) (h2 := rfl) ?_
  refine r_iconst (pc := 2) d_Md_addsDance_2 (v := 0) (by decide) ?_
  refine r_istore (pc := 3) (hd := d_Md_addsDance_3) (hi := by decide) (ls2 := [.ref a, .int p0, .int p1, .int (-1), .int 0, .null]) (h2 := rfl) ?_
  exact h
set_option maxRecDepth 4000 in
theorem s_Md_addsDance_5 {l : Launch} {d : Nat} {sh : aw_SH} {S : aw_S} {P : aw_S → Prop} {a : Nat} {i1 : Int32} {i2 : Int32} {i3 : Int32} {i4 : Int32} (sa : sh[a]? = some (0, 11)) (h : (((S.1 a 33) ≤ i4 → ((i3 = (-1) → AW l m_Md_addsDance (d + 1) 0 0 (gV sh P) 0 0 61 [.ref a, .int i1, .int i2, .int i3, .int 0, .int (i3 + (1 : Int32))] [] sh S) ∧ (¬ i3 = (-1) → ∃ r3, S.2.2 a 32 = some r3 ∧ ∃ n5, sh[r3]? = some (3, n5) ∧ vp_in i3 n5 ∧ (((S.1 r3 i3.toNatClampNeg) = i2 → AW l m_Md_addsDance (d + 1) 0 0 (gV sh P) 0 0 61 [.ref a, .int i1, .int i2, .int i3, .int 0, .int (i3 + (1 : Int32))] [] sh S) ∧ (¬ (S.1 r3 i3.toNatClampNeg) = i2 → AW l m_Md_addsDance (d + 1) 0 0 (gV sh P) 0 0 61 [.ref a, .int i1, .int i2, .int i3, .int 1, .int (i3 + (1 : Int32))] [] sh S))))) ∧ (¬ (S.1 a 33) ≤ i4 → ∃ r8, S.2.2 a 31 = some r8 ∧ ∃ n10, sh[r8]? = some (3, n10) ∧ vp_in i4 n10 ∧ ((¬ (S.1 r8 i4.toNatClampNeg) = i1 → AW l m_Md_addsDance (d + 1) 0 0 (gV sh P) 0 0 5 [.ref a, .int i1, .int i2, .int i3, .int (i4 + 1), .null] [] sh S) ∧ ((S.1 r8 i4.toNatClampNeg) = i1 → AW l m_Md_addsDance (d + 1) 0 0 (gV sh P) 0 0 5 [.ref a, .int i1, .int i2, .int i4, .int (i4 + 1), .null] [] sh S))))) : AW l m_Md_addsDance (d + 1) 0 0 (gV sh P) 0 0 5 [.ref a, .int i1, .int i2, .int i3, .int i4, .null] [] sh S := by
  refine r_iload (pc := 5) d_Md_addsDance_5 (x := i4) rfl ?_
  refine r_aload_n (pc := 7) d_Md_addsDance_7 (x := a) rfl ?_
  refine r_getI (pc := 8) d_Md_addsDance_8 f_Md_407 sa rfl ?_
  refine r_icmp_ge (pc := 11) d_Md_addsDance_11 (tgt := 34) (by decide) (fun c1 => ?_) (fun c1 => ?_)
  · replace h := h.1 c1
    refine r_iload_n (pc := 34) d_Md_addsDance_34 (x := i3) rfl ?_
    refine r_iconst (pc := 35) d_Md_addsDance_35 (v := (-1)) (by decide) ?_
    refine r_icmp_eq (pc := 36) d_Md_addsDance_36 (tgt := 53) (by decide) (fun c2 => ?_) (fun c2 => ?_)
    · replace h := h.1 c2
      refine r_iconst (pc := 53) d_Md_addsDance_53 (v := 0) (by decide) ?_
      refine r_istore (pc := 54) (hd := d_Md_addsDance_54) (hi := by decide) (ls2 := [.ref a, .int i1, .int i2, .int i3, .int 0, .null]) (h2 := rfl) ?_
      refine r_iload_n (pc := 56) d_Md_addsDance_56 (x := i3) rfl ?_
      refine r_iconst (pc := 57) d_Md_addsDance_57 (v := 1) (by decide) ?_
      refine r_iadd (pc := 58) d_Md_addsDance_58 ?_
      refine r_istore (pc := 59) (hd := d_Md_addsDance_59) (hi := by decide) (ls2 := [.ref a, .int i1, .int i2, .int i3, .int 0, .int (i3 + (1 : Int32))]) (h2 := rfl) ?_
      exact h
    · replace h := h.2 c2
      refine r_aload_n (pc := 39) d_Md_addsDance_39 (x := a) rfl ?_
      obtain ⟨r3, er3, h⟩ := h
      refine r_getR (pc := 40) d_Md_addsDance_40 f_Md_66 sa (Or.inr ⟨_, rfl⟩) (r := r3) er3 ?_
      refine r_iload_n (pc := 43) d_Md_addsDance_43 (x := i3) rfl ?_
      obtain ⟨n5, s4, h⟩ := h
      obtain ⟨g6, h⟩ := h
      refine r_iald (pc := 44) d_Md_addsDance_44 s4 g6 ?_
      refine r_iload_n (pc := 45) d_Md_addsDance_45 (x := i2) rfl ?_
      refine r_icmp_eq (pc := 46) d_Md_addsDance_46 (tgt := 53) (by decide) (fun c7 => ?_) (fun c7 => ?_)
      · replace h := h.1 c7
        refine r_iconst (pc := 53) d_Md_addsDance_53 (v := 0) (by decide) ?_
        refine r_istore (pc := 54) (hd := d_Md_addsDance_54) (hi := by decide) (ls2 := [.ref a, .int i1, .int i2, .int i3, .int 0, .null]) (h2 := rfl) ?_
        refine r_iload_n (pc := 56) d_Md_addsDance_56 (x := i3) rfl ?_
        refine r_iconst (pc := 57) d_Md_addsDance_57 (v := 1) (by decide) ?_
        refine r_iadd (pc := 58) d_Md_addsDance_58 ?_
        refine r_istore (pc := 59) (hd := d_Md_addsDance_59) (hi := by decide) (ls2 := [.ref a, .int i1, .int i2, .int i3, .int 0, .int (i3 + (1 : Int32))]) (h2 := rfl) ?_
        exact h
      · replace h := h.2 c7
        refine r_iconst (pc := 49) d_Md_addsDance_49 (v := 1) (by decide) ?_
        refine r_goto (pc := 50) d_Md_addsDance_50 (tgt := 54) (by decide) ?_
        refine r_istore (pc := 54) (hd := d_Md_addsDance_54) (hi := by decide) (ls2 := [.ref a, .int i1, .int i2, .int i3, .int 1, .null]) (h2 := rfl) ?_
        refine r_iload_n (pc := 56) d_Md_addsDance_56 (x := i3) rfl ?_
        refine r_iconst (pc := 57) d_Md_addsDance_57 (v := 1) (by decide) ?_
        refine r_iadd (pc := 58) d_Md_addsDance_58 ?_
        refine r_istore (pc := 59) (hd := d_Md_addsDance_59) (hi := by decide) (ls2 := [.ref a, .int i1, .int i2, .int i3, .int 1, .int (i3 + (1 : Int32))]) (h2 := rfl) ?_
        exact h
  · replace h := h.2 c1
    refine r_aload_n (pc := 14) d_Md_addsDance_14 (x := a) rfl ?_
    obtain ⟨r8, er8, h⟩ := h
    refine r_getR (pc := 15) d_Md_addsDance_15 f_Md_63 sa (Or.inr ⟨_, rfl⟩) (r := r8) er8 ?_
    refine r_iload (pc := 18) d_Md_addsDance_18 (x := i4) rfl ?_
    obtain ⟨n10, s9, h⟩ := h
    obtain ⟨g11, h⟩ := h
    refine r_iald (pc := 20) d_Md_addsDance_20 s9 g11 ?_
    refine r_iload_n (pc := 21) d_Md_addsDance_21 (x := i1) rfl ?_
    refine r_icmp_ne (pc := 22) d_Md_addsDance_22 (tgt := 28) (by decide) (fun c12 => ?_) (fun c12 => ?_)
    · replace h := h.1 c12
      refine r_iinc (pc := 28) d_Md_addsDance_28 (hi := by decide) (x := i4) rfl (v := i4 + 1) rfl (ls2 := [.ref a, .int i1, .int i2, .int i3, .int (i4 + 1), .null]) rfl ?_
      refine r_goto (pc := 31) d_Md_addsDance_31 (tgt := 5) (by decide) ?_
      exact h
    · replace h := h.2 c12
      refine r_iload (pc := 25) d_Md_addsDance_25 (x := i4) rfl ?_
      refine r_istore_n (pc := 27) (hk := rfl) (hd := d_Md_addsDance_27) (hi := by decide) (ls2 := [.ref a, .int i1, .int i2, .int i4, .int i4, .null]) (h2 := rfl) ?_
      refine r_iinc (pc := 28) d_Md_addsDance_28 (hi := by decide) (x := i4) rfl (v := i4 + 1) rfl (ls2 := [.ref a, .int i1, .int i2, .int i4, .int (i4 + 1), .null]) rfl ?_
      refine r_goto (pc := 31) d_Md_addsDance_31 (tgt := 5) (by decide) ?_
      exact h
set_option maxRecDepth 4000 in
theorem s_Md_addsDance_61 {l : Launch} {d : Nat} {sh : aw_SH} {S : aw_S} {P : aw_S → Prop} {a : Nat} {i1 : Int32} {i2 : Int32} {i3 : Int32} {i4 : Int32} {i5 : Int32} (sa : sh[a]? = some (0, 11)) (h : (((S.1 a 33) ≤ i5 → ((¬ i4 = 0 → AW l m_Md_addsDance (d + 1) 0 0 (gV sh P) 0 0 153 [.ref a, .null, .null, .null, .null, .int i3] [] sh (aw_uI S a 33 ((S.1 a 33) - (1 : Int32)))) ∧ (i4 = 0 → ∃ r3, S.2.2 a 31 = some r3 ∧ ∃ n5, sh[r3]? = some (3, n5) ∧ vp_in (S.1 a 33) n5 ∧ ∃ r7, (aw_uI S r3 ((S.1 a 33 : Int32).toNatClampNeg) i1).2.2 a 32 = some r7 ∧ ∃ n9, sh[r7]? = some (3, n9) ∧ vp_in ((aw_uI S r3 ((S.1 a 33 : Int32).toNatClampNeg) i1).1 a 33) n9 ∧ P (aw_uI (aw_uI (aw_uI S r3 ((S.1 a 33 : Int32).toNatClampNeg) i1) r7 (((aw_uI S r3 ((S.1 a 33 : Int32).toNatClampNeg) i1).1 a 33 : Int32).toNatClampNeg) i2) a 33 (((aw_uI (aw_uI S r3 ((S.1 a 33 : Int32).toNatClampNeg) i1) r7 (((aw_uI S r3 ((S.1 a 33 : Int32).toNatClampNeg) i1).1 a 33 : Int32).toNatClampNeg) i2).1 a 33) + (1 : Int32)))))) ∧ (¬ (S.1 a 33) ≤ i5 → ((i4 = 0 → ((¬ i4 = 0 → AW l m_Md_addsDance (d + 1) 0 0 (gV sh P) 0 0 153 [.ref a, .null, .null, .null, .null, .int i3] [] sh (aw_uI S a 33 ((S.1 a 33) - (1 : Int32)))) ∧ (i4 = 0 → ∃ r13, S.2.2 a 31 = some r13 ∧ ∃ n15, sh[r13]? = some (3, n15) ∧ vp_in (S.1 a 33) n15 ∧ ∃ r17, (aw_uI S r13 ((S.1 a 33 : Int32).toNatClampNeg) i1).2.2 a 32 = some r17 ∧ ∃ n19, sh[r17]? = some (3, n19) ∧ vp_in ((aw_uI S r13 ((S.1 a 33 : Int32).toNatClampNeg) i1).1 a 33) n19 ∧ P (aw_uI (aw_uI (aw_uI S r13 ((S.1 a 33 : Int32).toNatClampNeg) i1) r17 (((aw_uI S r13 ((S.1 a 33 : Int32).toNatClampNeg) i1).1 a 33 : Int32).toNatClampNeg) i2) a 33 (((aw_uI (aw_uI S r13 ((S.1 a 33 : Int32).toNatClampNeg) i1) r17 (((aw_uI S r13 ((S.1 a 33 : Int32).toNatClampNeg) i1).1 a 33 : Int32).toNatClampNeg) i2).1 a 33) + (1 : Int32)))))) ∧ (¬ i4 = 0 → ∃ r21, S.2.2 a 31 = some r21 ∧ ∃ n23, sh[r21]? = some (3, n23) ∧ vp_in i5 n23 ∧ Sp l m_Md_isTouching d 0 0 [.ref a, .int 0, .int (S.1 r21 i5.toNatClampNeg), .int i1] sh S (gI sh (fun x26 S25 => ((¬ x26 = 0 → AW l m_Md_addsDance (d + 1) 0 0 (gV sh P) 0 0 61 [.ref a, .int i1, .int i2, .int i3, .int 0, .int (i5 + 1)] [] sh S25) ∧ (x26 = 0 → AW l m_Md_addsDance (d + 1) 0 0 (gV sh P) 0 0 61 [.ref a, .int i1, .int i2, .int i3, .int 1, .int (i5 + 1)] [] sh S25))))))))) : AW l m_Md_addsDance (d + 1) 0 0 (gV sh P) 0 0 61 [.ref a, .int i1, .int i2, .int i3, .int i4, .int i5] [] sh S := by
  refine r_iload (pc := 61) d_Md_addsDance_61 (x := i5) rfl ?_
  refine r_aload_n (pc := 63) d_Md_addsDance_63 (x := a) rfl ?_
  refine r_getI (pc := 64) d_Md_addsDance_64 f_Md_407 sa rfl ?_
  refine r_icmp_ge (pc := 67) d_Md_addsDance_67 (tgt := 104) (by decide) (fun c1 => ?_) (fun c1 => ?_)
  · replace h := h.1 c1
    refine r_iload (pc := 104) d_Md_addsDance_104 (x := i4) rfl ?_
    refine r_if_ne (pc := 106) d_Md_addsDance_106 (tgt := 140) (by decide) (fun c2 => ?_) (fun c2 => ?_)
    · replace h := h.1 c2
      refine r_aload_n (pc := 140) d_Md_addsDance_140 (x := a) rfl ?_
      refine r_dup (pc := 141) d_Md_addsDance_141 rfl ?_
      refine r_getI (pc := 142) d_Md_addsDance_142 f_Md_407 sa rfl ?_
      refine r_iconst (pc := 145) d_Md_addsDance_145 (v := 1) (by decide) ?_
      refine r_isub (pc := 146) d_Md_addsDance_146 ?_
      refine r_putI (pc := 147) d_Md_addsDance_147 f_Md_407 sa rfl ?_
      refine r_iload_n (pc := 150) d_Md_addsDance_150 (x := i3) rfl ?_
      refine r_istore (pc := 151) (hd := d_Md_addsDance_151) (hi := by decide) (ls2 := [.ref a, .int i1, .int i2, .int i3, .int i4, .int i3]) (h2 := rfl) ?_
      exact r_weak (ls2 := [.ref a, .null, .null, .null, .null, .int i3]) ⟨Or.inr rfl, Or.inl rfl, Or.inl rfl, Or.inl rfl, Or.inl rfl, Or.inr rfl, trivial⟩ h
    · replace h := h.2 c2
      refine r_aload_n (pc := 109) d_Md_addsDance_109 (x := a) rfl ?_
      obtain ⟨r3, er3, h⟩ := h
      refine r_getR (pc := 110) d_Md_addsDance_110 f_Md_63 sa (Or.inr ⟨_, rfl⟩) (r := r3) er3 ?_
      refine r_aload_n (pc := 113) d_Md_addsDance_113 (x := a) rfl ?_
      refine r_getI (pc := 114) d_Md_addsDance_114 f_Md_407 sa rfl ?_
      refine r_iload_n (pc := 117) d_Md_addsDance_117 (x := i1) rfl ?_
      obtain ⟨n5, s4, h⟩ := h
      obtain ⟨g6, h⟩ := h
      refine r_iast (pc := 118) d_Md_addsDance_118 s4 g6 ?_
      refine r_aload_n (pc := 119) d_Md_addsDance_119 (x := a) rfl ?_
      obtain ⟨r7, er7, h⟩ := h
      refine r_getR (pc := 120) d_Md_addsDance_120 f_Md_66 sa (Or.inr ⟨_, rfl⟩) (r := r7) er7 ?_
      refine r_aload_n (pc := 123) d_Md_addsDance_123 (x := a) rfl ?_
      refine r_getI (pc := 124) d_Md_addsDance_124 f_Md_407 sa rfl ?_
      refine r_iload_n (pc := 127) d_Md_addsDance_127 (x := i2) rfl ?_
      obtain ⟨n9, s8, h⟩ := h
      obtain ⟨g10, h⟩ := h
      refine r_iast (pc := 128) d_Md_addsDance_128 s8 g10 ?_
      refine r_aload_n (pc := 129) d_Md_addsDance_129 (x := a) rfl ?_
      refine r_dup (pc := 130) d_Md_addsDance_130 rfl ?_
      refine r_getI (pc := 131) d_Md_addsDance_131 f_Md_407 sa rfl ?_
      refine r_iconst (pc := 134) d_Md_addsDance_134 (v := 1) (by decide) ?_
      refine r_iadd (pc := 135) d_Md_addsDance_135 ?_
      refine r_putI (pc := 136) d_Md_addsDance_136 f_Md_407 sa rfl ?_
      exact r_return (pc := 139) d_Md_addsDance_139 rfl rfl (Nat.le_refl _) ⟨rfl, rfl, h⟩
  · replace h := h.2 c1
    refine r_iload (pc := 70) d_Md_addsDance_70 (x := i4) rfl ?_
    refine r_if_eq (pc := 72) d_Md_addsDance_72 (tgt := 104) (by decide) (fun c11 => ?_) (fun c11 => ?_)
    · replace h := h.1 c11
      refine r_iload (pc := 104) d_Md_addsDance_104 (x := i4) rfl ?_
      refine r_if_ne (pc := 106) d_Md_addsDance_106 (tgt := 140) (by decide) (fun c12 => ?_) (fun c12 => ?_)
      · replace h := h.1 c12
        refine r_aload_n (pc := 140) d_Md_addsDance_140 (x := a) rfl ?_
        refine r_dup (pc := 141) d_Md_addsDance_141 rfl ?_
        refine r_getI (pc := 142) d_Md_addsDance_142 f_Md_407 sa rfl ?_
        refine r_iconst (pc := 145) d_Md_addsDance_145 (v := 1) (by decide) ?_
        refine r_isub (pc := 146) d_Md_addsDance_146 ?_
        refine r_putI (pc := 147) d_Md_addsDance_147 f_Md_407 sa rfl ?_
        refine r_iload_n (pc := 150) d_Md_addsDance_150 (x := i3) rfl ?_
        refine r_istore (pc := 151) (hd := d_Md_addsDance_151) (hi := by decide) (ls2 := [.ref a, .int i1, .int i2, .int i3, .int i4, .int i3]) (h2 := rfl) ?_
        exact r_weak (ls2 := [.ref a, .null, .null, .null, .null, .int i3]) ⟨Or.inr rfl, Or.inl rfl, Or.inl rfl, Or.inl rfl, Or.inl rfl, Or.inr rfl, trivial⟩ h
      · replace h := h.2 c12
        refine r_aload_n (pc := 109) d_Md_addsDance_109 (x := a) rfl ?_
        obtain ⟨r13, er13, h⟩ := h
        refine r_getR (pc := 110) d_Md_addsDance_110 f_Md_63 sa (Or.inr ⟨_, rfl⟩) (r := r13) er13 ?_
        refine r_aload_n (pc := 113) d_Md_addsDance_113 (x := a) rfl ?_
        refine r_getI (pc := 114) d_Md_addsDance_114 f_Md_407 sa rfl ?_
        refine r_iload_n (pc := 117) d_Md_addsDance_117 (x := i1) rfl ?_
        obtain ⟨n15, s14, h⟩ := h
        obtain ⟨g16, h⟩ := h
        refine r_iast (pc := 118) d_Md_addsDance_118 s14 g16 ?_
        refine r_aload_n (pc := 119) d_Md_addsDance_119 (x := a) rfl ?_
        obtain ⟨r17, er17, h⟩ := h
        refine r_getR (pc := 120) d_Md_addsDance_120 f_Md_66 sa (Or.inr ⟨_, rfl⟩) (r := r17) er17 ?_
        refine r_aload_n (pc := 123) d_Md_addsDance_123 (x := a) rfl ?_
        refine r_getI (pc := 124) d_Md_addsDance_124 f_Md_407 sa rfl ?_
        refine r_iload_n (pc := 127) d_Md_addsDance_127 (x := i2) rfl ?_
        obtain ⟨n19, s18, h⟩ := h
        obtain ⟨g20, h⟩ := h
        refine r_iast (pc := 128) d_Md_addsDance_128 s18 g20 ?_
        refine r_aload_n (pc := 129) d_Md_addsDance_129 (x := a) rfl ?_
        refine r_dup (pc := 130) d_Md_addsDance_130 rfl ?_
        refine r_getI (pc := 131) d_Md_addsDance_131 f_Md_407 sa rfl ?_
        refine r_iconst (pc := 134) d_Md_addsDance_134 (v := 1) (by decide) ?_
        refine r_iadd (pc := 135) d_Md_addsDance_135 ?_
        refine r_putI (pc := 136) d_Md_addsDance_136 f_Md_407 sa rfl ?_
        exact r_return (pc := 139) d_Md_addsDance_139 rfl rfl (Nat.le_refl _) ⟨rfl, rfl, h⟩
    · replace h := h.2 c11
      refine r_aload_n (pc := 75) d_Md_addsDance_75 (x := a) rfl ?_
      refine r_iconst (pc := 76) d_Md_addsDance_76 (v := 0) (by decide) ?_
      refine r_aload_n (pc := 77) d_Md_addsDance_77 (x := a) rfl ?_
      obtain ⟨r21, er21, h⟩ := h
      refine r_getR (pc := 78) d_Md_addsDance_78 f_Md_63 sa (Or.inr ⟨_, rfl⟩) (r := r21) er21 ?_
      refine r_iload (pc := 81) d_Md_addsDance_81 (x := i5) rfl ?_
      obtain ⟨n23, s22, h⟩ := h
      obtain ⟨g24, h⟩ := h
      refine r_iald (pc := 83) d_Md_addsDance_83 s22 g24 ?_
      refine r_iload_n (pc := 84) d_Md_addsDance_84 (x := i1) rfl ?_
      refine r_callV (pc := 85) (k := a) (As := [.int 0, .int (S.1 r21 i5.toNatClampNeg), .int i1]) (rest := []) (mc' := 0) (ms' := 0) lk_Md_217 in_Md_isTouching se_Md_isTouching sa rfl d_Md_addsDance_85 k_Md_isTouching rfl rfl (Nat.le_of_ble_eq_true rfl) (by decide) (by decide) (Sp.mono h ?_)
      rintro rS25 shS25 S25 ⟨qS25, x26, uS25, h⟩
      subst uS25
      rw [qS25]
      refine r_if_ne (pc := 88) d_Md_addsDance_88 (tgt := 95) (by decide) (fun c27 => ?_) (fun c27 => ?_)
      · replace h := h.1 c27
        refine r_iconst (pc := 95) d_Md_addsDance_95 (v := 0) (by decide) ?_
        refine r_istore (pc := 96) (hd := d_Md_addsDance_96) (hi := by decide) (ls2 := [.ref a, .int i1, .int i2, .int i3, .int 0, .int i5]) (h2 := rfl) ?_
        refine r_iinc (pc := 98) d_Md_addsDance_98 (hi := by decide) (x := i5) rfl (v := i5 + 1) rfl (ls2 := [.ref a, .int i1, .int i2, .int i3, .int 0, .int (i5 + 1)]) rfl ?_
        refine r_goto (pc := 101) d_Md_addsDance_101 (tgt := 61) (by decide) ?_
        exact h
      · replace h := h.2 c27
        refine r_iconst (pc := 91) d_Md_addsDance_91 (v := 1) (by decide) ?_
        refine r_goto (pc := 92) d_Md_addsDance_92 (tgt := 96) (by decide) ?_
        refine r_istore (pc := 96) (hd := d_Md_addsDance_96) (hi := by decide) (ls2 := [.ref a, .int i1, .int i2, .int i3, .int 1, .int i5]) (h2 := rfl) ?_
        refine r_iinc (pc := 98) d_Md_addsDance_98 (hi := by decide) (x := i5) rfl (v := i5 + 1) rfl (ls2 := [.ref a, .int i1, .int i2, .int i3, .int 1, .int (i5 + 1)]) rfl ?_
        refine r_goto (pc := 101) d_Md_addsDance_101 (tgt := 61) (by decide) ?_
        exact h
set_option maxRecDepth 4000 in
theorem s_Md_addsDance_153 {l : Launch} {d : Nat} {sh : aw_SH} {S : aw_S} {P : aw_S → Prop} {a : Nat} {i5 : Int32} (sa : sh[a]? = some (0, 11)) (h : (((S.1 a 33) ≤ i5 → P S) ∧ (¬ (S.1 a 33) ≤ i5 → ∃ r2, S.2.2 a 31 = some r2 ∧ ∃ n4, sh[r2]? = some (3, n4) ∧ vp_in (i5 + (1 : Int32)) n4 ∧ vp_in i5 n4 ∧ ∃ r7, (aw_uI S r2 i5.toNatClampNeg (S.1 r2 (i5 + (1 : Int32) : Int32).toNatClampNeg)).2.2 a 32 = some r7 ∧ ∃ n9, sh[r7]? = some (3, n9) ∧ vp_in (i5 + (1 : Int32)) n9 ∧ vp_in i5 n9 ∧ AW l m_Md_addsDance (d + 1) 0 0 (gV sh P) 0 0 153 [.ref a, .null, .null, .null, .null, .int (i5 + 1)] [] sh (aw_uI (aw_uI S r2 i5.toNatClampNeg (S.1 r2 (i5 + (1 : Int32) : Int32).toNatClampNeg)) r7 i5.toNatClampNeg ((aw_uI S r2 i5.toNatClampNeg (S.1 r2 (i5 + (1 : Int32) : Int32).toNatClampNeg)).1 r7 (i5 + (1 : Int32) : Int32).toNatClampNeg))))) : AW l m_Md_addsDance (d + 1) 0 0 (gV sh P) 0 0 153 [.ref a, .null, .null, .null, .null, .int i5] [] sh S := by
  refine r_iload (pc := 153) d_Md_addsDance_153 (x := i5) rfl ?_
  refine r_aload_n (pc := 155) d_Md_addsDance_155 (x := a) rfl ?_
  refine r_getI (pc := 156) d_Md_addsDance_156 f_Md_407 sa rfl ?_
  refine r_icmp_ge (pc := 159) d_Md_addsDance_159 (tgt := 200) (by decide) (fun c1 => ?_) (fun c1 => ?_)
  · replace h := h.1 c1
    exact r_return (pc := 200) d_Md_addsDance_200 rfl rfl (Nat.le_refl _) ⟨rfl, rfl, h⟩
  · replace h := h.2 c1
    refine r_aload_n (pc := 162) d_Md_addsDance_162 (x := a) rfl ?_
    obtain ⟨r2, er2, h⟩ := h
    refine r_getR (pc := 163) d_Md_addsDance_163 f_Md_63 sa (Or.inr ⟨_, rfl⟩) (r := r2) er2 ?_
    refine r_iload (pc := 166) d_Md_addsDance_166 (x := i5) rfl ?_
    refine r_aload_n (pc := 168) d_Md_addsDance_168 (x := a) rfl ?_
    refine r_getR (pc := 169) d_Md_addsDance_169 f_Md_63 sa (Or.inr ⟨_, rfl⟩) (r := r2) er2 ?_
    refine r_iload (pc := 172) d_Md_addsDance_172 (x := i5) rfl ?_
    refine r_iconst (pc := 174) d_Md_addsDance_174 (v := 1) (by decide) ?_
    refine r_iadd (pc := 175) d_Md_addsDance_175 ?_
    obtain ⟨n4, s3, h⟩ := h
    obtain ⟨g5, h⟩ := h
    refine r_iald (pc := 176) d_Md_addsDance_176 s3 g5 ?_
    obtain ⟨g6, h⟩ := h
    refine r_iast (pc := 177) d_Md_addsDance_177 s3 g6 ?_
    refine r_aload_n (pc := 178) d_Md_addsDance_178 (x := a) rfl ?_
    obtain ⟨r7, er7, h⟩ := h
    refine r_getR (pc := 179) d_Md_addsDance_179 f_Md_66 sa (Or.inr ⟨_, rfl⟩) (r := r7) er7 ?_
    refine r_iload (pc := 182) d_Md_addsDance_182 (x := i5) rfl ?_
    refine r_aload_n (pc := 184) d_Md_addsDance_184 (x := a) rfl ?_
    refine r_getR (pc := 185) d_Md_addsDance_185 f_Md_66 sa (Or.inr ⟨_, rfl⟩) (r := r7) er7 ?_
    refine r_iload (pc := 188) d_Md_addsDance_188 (x := i5) rfl ?_
    refine r_iconst (pc := 190) d_Md_addsDance_190 (v := 1) (by decide) ?_
    refine r_iadd (pc := 191) d_Md_addsDance_191 ?_
    obtain ⟨n9, s8, h⟩ := h
    obtain ⟨g10, h⟩ := h
    refine r_iald (pc := 192) d_Md_addsDance_192 s8 g10 ?_
    obtain ⟨g11, h⟩ := h
    refine r_iast (pc := 193) d_Md_addsDance_193 s8 g11 ?_
    refine r_iinc (pc := 194) d_Md_addsDance_194 (hi := by decide) (x := i5) rfl (v := i5 + 1) rfl (ls2 := [.ref a, .null, .null, .null, .null, .int (i5 + 1)]) rfl ?_
    refine r_goto (pc := 197) d_Md_addsDance_197 (tgt := 153) (by decide) ?_
    exact h
set_option maxRecDepth 4000 in
theorem e_Md_apartNow {l : Launch} {d : Nat} {sh : aw_SH} {S : aw_S} {P : Int32 → aw_S → Prop} {a : Nat} (sa : sh[a]? = some (0, 11)) (h : ∃ r1, S.2.2 a 0 = some r1 ∧ ∃ n3, sh[r1]? = some (3, n3) ∧ vp_in 3 n3 ∧ Sp l m_Md_alike d 0 0 [.ref a] sh S (gI sh (fun x6 S5 => P (((S.1 r1 (3 : Int32).toNatClampNeg) + (S.1 a 33)) - ((2 : Int32) * x6)) S5))) : Sp l m_Md_apartNow (d + 1) 0 0 [.ref a] sh S (gI sh P) := by
  refine Sp.of k_Md_apartNow (ls := [.ref a]) rfl (Nat.le_of_ble_eq_true rfl) ?_
  refine r_aload_n (pc := 0) d_Md_apartNow_0 (x := a) rfl ?_
  obtain ⟨r1, er1, h⟩ := h
  refine r_getR (pc := 1) d_Md_apartNow_1 f_Md_7 sa (Or.inr ⟨_, rfl⟩) (r := r1) er1 ?_
  refine r_iconst (pc := 4) d_Md_apartNow_4 (v := 3) (by decide) ?_
  obtain ⟨n3, s2, h⟩ := h
  obtain ⟨g4, h⟩ := h
  refine r_iald (pc := 5) d_Md_apartNow_5 s2 g4 ?_
  refine r_aload_n (pc := 6) d_Md_apartNow_6 (x := a) rfl ?_
  refine r_getI (pc := 7) d_Md_apartNow_7 f_Md_407 sa rfl ?_
  refine r_iadd (pc := 10) d_Md_apartNow_10 ?_
  refine r_iconst (pc := 11) d_Md_apartNow_11 (v := 2) (by decide) ?_
  refine r_aload_n (pc := 12) d_Md_apartNow_12 (x := a) rfl ?_
  refine r_callV (pc := 13) (k := a) (As := []) (rest := [.int 2, .int ((S.1 r1 (3 : Int32).toNatClampNeg) + (S.1 a 33))]) (mc' := 0) (ms' := 0) lk_Md_417 in_Md_alike se_Md_alike sa rfl d_Md_apartNow_13 k_Md_alike rfl rfl (Nat.le_of_ble_eq_true rfl) (by decide) (by decide) (Sp.mono h ?_)
  rintro rS5 shS5 S5 ⟨qS5, x6, uS5, h⟩
  subst uS5
  rw [qS5]
  refine r_imul (pc := 16) d_Md_apartNow_16 ?_
  refine r_isub (pc := 17) d_Md_apartNow_17 ?_
  exact r_ireturn (pc := 18) d_Md_apartNow_18 rfl rfl (Nat.le_refl _) ⟨rfl, _, rfl, h⟩
set_option maxRecDepth 4000 in
theorem e_Md_alike {l : Launch} {d : Nat} {sh : aw_SH} {S : aw_S} {P : Int32 → aw_S → Prop} {a : Nat} (sa : sh[a]? = some (0, 11)) (h : AW l m_Md_alike (d + 1) 0 0 (gI sh P) 0 0 2 [.ref a, .int 0, .null, .null, .null] [] sh S) : Sp l m_Md_alike (d + 1) 0 0 [.ref a] sh S (gI sh P) := by
  refine Sp.of k_Md_alike (ls := [.ref a, .null, .null, .null, .null]) rfl (Nat.le_of_ble_eq_true rfl) ?_
  refine r_iconst (pc := 0) d_Md_alike_0 (v := 0) (by decide) ?_
  refine r_istore_n (pc := 1) (hk := rfl) (hd := d_Md_alike_1) (hi := by decide) (ls2 := [.ref a, .int 0, .null, .null, .null]) (h2 := rfl) ?_
  exact h
set_option maxRecDepth 4000 in
theorem s_Md_alike_2 {l : Launch} {d : Nat} {sh : aw_SH} {S : aw_S} {P : Int32 → aw_S → Prop} {a : Nat} {i1 : Int32} (sa : sh[a]? = some (0, 11)) (h : ((40 ≤ i1 → AW l m_Md_alike (d + 1) 0 0 (gI sh P) 0 0 58 [.ref a, .int 0, .int 0, .null, .null] [] sh S) ∧ (¬ 40 ≤ i1 → ∃ r2, S.2.2 a 34 = some r2 ∧ ∃ r3, S.2.2 a 0 = some r3 ∧ ∃ n5, sh[r3]? = some (3, n5) ∧ vp_in 3 n5 ∧ (((S.1 r3 (3 : Int32).toNatClampNeg) ≤ i1 → ∃ n9, sh[r2]? = some (2, n9) ∧ vp_in i1 n9 ∧ ∃ r11, (aw_uI S r2 i1.toNatClampNeg (vp_nar .boolean 0)).2.2 a 35 = some r11 ∧ ((((aw_uI S r2 i1.toNatClampNeg (vp_nar .boolean 0)).1 a 33) ≤ i1 → ∃ n14, sh[r11]? = some (2, n14) ∧ vp_in i1 n14 ∧ AW l m_Md_alike (d + 1) 0 0 (gI sh P) 0 0 2 [.ref a, .int (i1 + 1), .null, .null, .null] [] sh (aw_uI (aw_uI S r2 i1.toNatClampNeg (vp_nar .boolean 0)) r11 i1.toNatClampNeg (vp_nar .boolean 0))) ∧ (¬ ((aw_uI S r2 i1.toNatClampNeg (vp_nar .boolean 0)).1 a 33) ≤ i1 → ∃ n17, sh[r11]? = some (2, n17) ∧ vp_in i1 n17 ∧ AW l m_Md_alike (d + 1) 0 0 (gI sh P) 0 0 2 [.ref a, .int (i1 + 1), .null, .null, .null] [] sh (aw_uI (aw_uI S r2 i1.toNatClampNeg (vp_nar .boolean 0)) r11 i1.toNatClampNeg (vp_nar .boolean 1))))) ∧ (¬ (S.1 r3 (3 : Int32).toNatClampNeg) ≤ i1 → ∃ n20, sh[r2]? = some (2, n20) ∧ vp_in i1 n20 ∧ ∃ r22, (aw_uI S r2 i1.toNatClampNeg (vp_nar .boolean 1)).2.2 a 35 = some r22 ∧ ((((aw_uI S r2 i1.toNatClampNeg (vp_nar .boolean 1)).1 a 33) ≤ i1 → ∃ n25, sh[r22]? = some (2, n25) ∧ vp_in i1 n25 ∧ AW l m_Md_alike (d + 1) 0 0 (gI sh P) 0 0 2 [.ref a, .int (i1 + 1), .null, .null, .null] [] sh (aw_uI (aw_uI S r2 i1.toNatClampNeg (vp_nar .boolean 1)) r22 i1.toNatClampNeg (vp_nar .boolean 0))) ∧ (¬ ((aw_uI S r2 i1.toNatClampNeg (vp_nar .boolean 1)).1 a 33) ≤ i1 → ∃ n28, sh[r22]? = some (2, n28) ∧ vp_in i1 n28 ∧ AW l m_Md_alike (d + 1) 0 0 (gI sh P) 0 0 2 [.ref a, .int (i1 + 1), .null, .null, .null] [] sh (aw_uI (aw_uI S r2 i1.toNatClampNeg (vp_nar .boolean 1)) r22 i1.toNatClampNeg (vp_nar .boolean 1))))))))) : AW l m_Md_alike (d + 1) 0 0 (gI sh P) 0 0 2 [.ref a, .int i1, .null, .null, .null] [] sh S := by
  refine r_iload_n (pc := 2) d_Md_alike_2 (x := i1) rfl ?_
  refine r_bipush (pc := 3) d_Md_alike_3 (v := 40) (by decide) ?_
  refine r_icmp_ge (pc := 5) d_Md_alike_5 (tgt := 54) (by decide) (fun c1 => ?_) (fun c1 => ?_)
  · replace h := h.1 c1
    refine r_iconst (pc := 54) d_Md_alike_54 (v := 0) (by decide) ?_
    refine r_istore_n (pc := 55) (hk := rfl) (hd := d_Md_alike_55) (hi := by decide) (ls2 := [.ref a, .int 0, .null, .null, .null]) (h2 := rfl) ?_
    refine r_iconst (pc := 56) d_Md_alike_56 (v := 0) (by decide) ?_
    refine r_istore_n (pc := 57) (hk := rfl) (hd := d_Md_alike_57) (hi := by decide) (ls2 := [.ref a, .int 0, .int 0, .null, .null]) (h2 := rfl) ?_
    exact h
  · replace h := h.2 c1
    refine r_aload_n (pc := 8) d_Md_alike_8 (x := a) rfl ?_
    obtain ⟨r2, er2, h⟩ := h
    refine r_getR (pc := 9) d_Md_alike_9 f_Md_69 sa (Or.inr ⟨_, rfl⟩) (r := r2) er2 ?_
    refine r_iload_n (pc := 12) d_Md_alike_12 (x := i1) rfl ?_
    refine r_iload_n (pc := 13) d_Md_alike_13 (x := i1) rfl ?_
    refine r_aload_n (pc := 14) d_Md_alike_14 (x := a) rfl ?_
    obtain ⟨r3, er3, h⟩ := h
    refine r_getR (pc := 15) d_Md_alike_15 f_Md_7 sa (Or.inr ⟨_, rfl⟩) (r := r3) er3 ?_
    refine r_iconst (pc := 18) d_Md_alike_18 (v := 3) (by decide) ?_
    obtain ⟨n5, s4, h⟩ := h
    obtain ⟨g6, h⟩ := h
    refine r_iald (pc := 19) d_Md_alike_19 s4 g6 ?_
    refine r_icmp_ge (pc := 20) d_Md_alike_20 (tgt := 27) (by decide) (fun c7 => ?_) (fun c7 => ?_)
    · replace h := h.1 c7
      refine r_iconst (pc := 27) d_Md_alike_27 (v := 0) (by decide) ?_
      obtain ⟨n9, s8, h⟩ := h
      obtain ⟨g10, h⟩ := h
      refine r_zast (pc := 28) d_Md_alike_28 s8 g10 ?_
      refine r_aload_n (pc := 29) d_Md_alike_29 (x := a) rfl ?_
      obtain ⟨r11, er11, h⟩ := h
      refine r_getR (pc := 30) d_Md_alike_30 f_Md_72 sa (Or.inr ⟨_, rfl⟩) (r := r11) er11 ?_
      refine r_iload_n (pc := 33) d_Md_alike_33 (x := i1) rfl ?_
      refine r_iload_n (pc := 34) d_Md_alike_34 (x := i1) rfl ?_
      refine r_aload_n (pc := 35) d_Md_alike_35 (x := a) rfl ?_
      refine r_getI (pc := 36) d_Md_alike_36 f_Md_407 sa rfl ?_
      refine r_icmp_ge (pc := 39) d_Md_alike_39 (tgt := 46) (by decide) (fun c12 => ?_) (fun c12 => ?_)
      · replace h := h.1 c12
        refine r_iconst (pc := 46) d_Md_alike_46 (v := 0) (by decide) ?_
        obtain ⟨n14, s13, h⟩ := h
        obtain ⟨g15, h⟩ := h
        refine r_zast (pc := 47) d_Md_alike_47 s13 g15 ?_
        refine r_iinc (pc := 48) d_Md_alike_48 (hi := by decide) (x := i1) rfl (v := i1 + 1) rfl (ls2 := [.ref a, .int (i1 + 1), .null, .null, .null]) rfl ?_
        refine r_goto (pc := 51) d_Md_alike_51 (tgt := 2) (by decide) ?_
        exact h
      · replace h := h.2 c12
        refine r_iconst (pc := 42) d_Md_alike_42 (v := 1) (by decide) ?_
        refine r_goto (pc := 43) d_Md_alike_43 (tgt := 47) (by decide) ?_
        obtain ⟨n17, s16, h⟩ := h
        obtain ⟨g18, h⟩ := h
        refine r_zast (pc := 47) d_Md_alike_47 s16 g18 ?_
        refine r_iinc (pc := 48) d_Md_alike_48 (hi := by decide) (x := i1) rfl (v := i1 + 1) rfl (ls2 := [.ref a, .int (i1 + 1), .null, .null, .null]) rfl ?_
        refine r_goto (pc := 51) d_Md_alike_51 (tgt := 2) (by decide) ?_
        exact h
    · replace h := h.2 c7
      refine r_iconst (pc := 23) d_Md_alike_23 (v := 1) (by decide) ?_
      refine r_goto (pc := 24) d_Md_alike_24 (tgt := 28) (by decide) ?_
      obtain ⟨n20, s19, h⟩ := h
      obtain ⟨g21, h⟩ := h
      refine r_zast (pc := 28) d_Md_alike_28 s19 g21 ?_
      refine r_aload_n (pc := 29) d_Md_alike_29 (x := a) rfl ?_
      obtain ⟨r22, er22, h⟩ := h
      refine r_getR (pc := 30) d_Md_alike_30 f_Md_72 sa (Or.inr ⟨_, rfl⟩) (r := r22) er22 ?_
      refine r_iload_n (pc := 33) d_Md_alike_33 (x := i1) rfl ?_
      refine r_iload_n (pc := 34) d_Md_alike_34 (x := i1) rfl ?_
      refine r_aload_n (pc := 35) d_Md_alike_35 (x := a) rfl ?_
      refine r_getI (pc := 36) d_Md_alike_36 f_Md_407 sa rfl ?_
      refine r_icmp_ge (pc := 39) d_Md_alike_39 (tgt := 46) (by decide) (fun c23 => ?_) (fun c23 => ?_)
      · replace h := h.1 c23
        refine r_iconst (pc := 46) d_Md_alike_46 (v := 0) (by decide) ?_
        obtain ⟨n25, s24, h⟩ := h
        obtain ⟨g26, h⟩ := h
        refine r_zast (pc := 47) d_Md_alike_47 s24 g26 ?_
        refine r_iinc (pc := 48) d_Md_alike_48 (hi := by decide) (x := i1) rfl (v := i1 + 1) rfl (ls2 := [.ref a, .int (i1 + 1), .null, .null, .null]) rfl ?_
        refine r_goto (pc := 51) d_Md_alike_51 (tgt := 2) (by decide) ?_
        exact h
      · replace h := h.2 c23
        refine r_iconst (pc := 42) d_Md_alike_42 (v := 1) (by decide) ?_
        refine r_goto (pc := 43) d_Md_alike_43 (tgt := 47) (by decide) ?_
        obtain ⟨n28, s27, h⟩ := h
        obtain ⟨g29, h⟩ := h
        refine r_zast (pc := 47) d_Md_alike_47 s27 g29 ?_
        refine r_iinc (pc := 48) d_Md_alike_48 (hi := by decide) (x := i1) rfl (v := i1 + 1) rfl (ls2 := [.ref a, .int (i1 + 1), .null, .null, .null]) rfl ?_
        refine r_goto (pc := 51) d_Md_alike_51 (tgt := 2) (by decide) ?_
        exact h
set_option maxRecDepth 4000 in
theorem s_Md_alike_58 {l : Launch} {d : Nat} {sh : aw_SH} {S : aw_S} {P : Int32 → aw_S → Prop} {a : Nat} {i1 : Int32} {i2 : Int32} (sa : sh[a]? = some (0, 11)) (h : Sp l m_Md_gapsOf d 0 0 [.ref a, .int 0] sh S (gI sh (fun x2 S1 => ((x2 ≤ i2 → P i1 S1) ∧ (¬ x2 ≤ i2 → Sp l m_Md_lowest d 0 0 [.ref a, .int 1, .int i2] sh S1 (gI sh (fun x5 S4 => Sp l m_Md_lowest d 0 0 [.ref a, .int 0, .int i2] sh S4 (gI sh (fun x7 S6 => ((x5 = (-1) → AW l m_Md_alike (d + 1) 0 0 (gI sh P) 0 0 58 [.ref a, .int i1, .int (i2 + 1), .null, .null] [] sh S6) ∧ (¬ x5 = (-1) → ((x7 = (-1) → AW l m_Md_alike (d + 1) 0 0 (gI sh P) 0 0 58 [.ref a, .int i1, .int (i2 + 1), .null, .null] [] sh S6) ∧ (¬ x7 = (-1) → Sp l m_Md_passOf d 0 0 [.ref a, .int x5, .int 1] sh S6 (gI sh (fun x11 S10 => ∃ r12, S10.2.2 a 32 = some r12 ∧ ∃ n14, sh[r12]? = some (3, n14) ∧ vp_in x7 n14 ∧ ((x11 = (S10.1 r12 x7.toNatClampNeg) → ∃ r17, S10.2.2 a 34 = some r17 ∧ ∃ n19, sh[r17]? = some (2, n19) ∧ vp_in x5 n19 ∧ ∃ r21, (aw_uI S10 r17 x5.toNatClampNeg (vp_nar .boolean 0)).2.2 a 35 = some r21 ∧ ∃ n23, sh[r21]? = some (2, n23) ∧ vp_in x7 n23 ∧ AW l m_Md_alike (d + 1) 0 0 (gI sh P) 0 0 58 [.ref a, .int (i1 + 1), .int 0, .null, .null] [] sh (aw_uI (aw_uI S10 r17 x5.toNatClampNeg (vp_nar .boolean 0)) r21 x7.toNatClampNeg (vp_nar .boolean 0))) ∧ (¬ x11 = (S10.1 r12 x7.toNatClampNeg) → AW l m_Md_alike (d + 1) 0 0 (gI sh P) 0 0 58 [.ref a, .int i1, .int (i2 + 1), .null, .null] [] sh S10))))))))))))))))) : AW l m_Md_alike (d + 1) 0 0 (gI sh P) 0 0 58 [.ref a, .int i1, .int i2, .null, .null] [] sh S := by
  refine r_iload_n (pc := 58) d_Md_alike_58 (x := i2) rfl ?_
  refine r_aload_n (pc := 59) d_Md_alike_59 (x := a) rfl ?_
  refine r_iconst (pc := 60) d_Md_alike_60 (v := 0) (by decide) ?_
  refine r_callV (pc := 61) (k := a) (As := [.int 0]) (rest := [.int i2]) (mc' := 0) (ms' := 0) lk_Md_260 in_Md_gapsOf se_Md_gapsOf sa rfl d_Md_alike_61 k_Md_gapsOf rfl rfl (Nat.le_of_ble_eq_true rfl) (by decide) (by decide) (Sp.mono h ?_)
  rintro rS1 shS1 S1 ⟨qS1, x2, uS1, h⟩
  subst uS1
  rw [qS1]
  refine r_icmp_ge (pc := 64) d_Md_alike_64 (tgt := 138) (by decide) (fun c3 => ?_) (fun c3 => ?_)
  · replace h := h.1 c3
    refine r_iload_n (pc := 138) d_Md_alike_138 (x := i1) rfl ?_
    exact r_ireturn (pc := 139) d_Md_alike_139 rfl rfl (Nat.le_refl _) ⟨rfl, _, rfl, h⟩
  · replace h := h.2 c3
    refine r_aload_n (pc := 67) d_Md_alike_67 (x := a) rfl ?_
    refine r_iconst (pc := 68) d_Md_alike_68 (v := 1) (by decide) ?_
    refine r_iload_n (pc := 69) d_Md_alike_69 (x := i2) rfl ?_
    refine r_callV (pc := 70) (k := a) (As := [.int 1, .int i2]) (rest := []) (mc' := 0) (ms' := 0) lk_Md_413 in_Md_lowest se_Md_lowest sa rfl d_Md_alike_70 k_Md_lowest rfl rfl (Nat.le_of_ble_eq_true rfl) (by decide) (by decide) (Sp.mono h ?_)
    rintro rS4 shS4 S4 ⟨qS4, x5, uS4, h⟩
    subst uS4
    rw [qS4]
    refine r_istore_n (pc := 73) (hk := rfl) (hd := d_Md_alike_73) (hi := by decide) (ls2 := [.ref a, .int i1, .int i2, .int x5, .null]) (h2 := rfl) ?_
    refine r_aload_n (pc := 74) d_Md_alike_74 (x := a) rfl ?_
    refine r_iconst (pc := 75) d_Md_alike_75 (v := 0) (by decide) ?_
    refine r_iload_n (pc := 76) d_Md_alike_76 (x := i2) rfl ?_
    refine r_callV (pc := 77) (k := a) (As := [.int 0, .int i2]) (rest := []) (mc' := 0) (ms' := 0) lk_Md_413 in_Md_lowest se_Md_lowest sa rfl d_Md_alike_77 k_Md_lowest rfl rfl (Nat.le_of_ble_eq_true rfl) (by decide) (by decide) (Sp.mono h ?_)
    rintro rS6 shS6 S6 ⟨qS6, x7, uS6, h⟩
    subst uS6
    rw [qS6]
    refine r_istore (pc := 80) (hd := d_Md_alike_80) (hi := by decide) (ls2 := [.ref a, .int i1, .int i2, .int x5, .int x7]) (h2 := rfl) ?_
    refine r_iload_n (pc := 82) d_Md_alike_82 (x := x5) rfl ?_
    refine r_iconst (pc := 83) d_Md_alike_83 (v := (-1)) (by decide) ?_
    refine r_icmp_eq (pc := 84) d_Md_alike_84 (tgt := 109) (by decide) (fun c8 => ?_) (fun c8 => ?_)
    · replace h := h.1 c8
      refine r_iinc (pc := 109) d_Md_alike_109 (hi := by decide) (x := i2) rfl (v := i2 + 1) rfl (ls2 := [.ref a, .int i1, .int (i2 + 1), .int x5, .int x7]) rfl ?_
      refine r_goto (pc := 112) d_Md_alike_112 (tgt := 58) (by decide) ?_
      exact r_weak (ls2 := [.ref a, .int i1, .int (i2 + 1), .null, .null]) ⟨Or.inr rfl, Or.inr rfl, Or.inr rfl, Or.inl rfl, Or.inl rfl, trivial⟩ h
    · replace h := h.2 c8
      refine r_iload (pc := 87) d_Md_alike_87 (x := x7) rfl ?_
      refine r_iconst (pc := 89) d_Md_alike_89 (v := (-1)) (by decide) ?_
      refine r_icmp_eq (pc := 90) d_Md_alike_90 (tgt := 109) (by decide) (fun c9 => ?_) (fun c9 => ?_)
      · replace h := h.1 c9
        refine r_iinc (pc := 109) d_Md_alike_109 (hi := by decide) (x := i2) rfl (v := i2 + 1) rfl (ls2 := [.ref a, .int i1, .int (i2 + 1), .int x5, .int x7]) rfl ?_
        refine r_goto (pc := 112) d_Md_alike_112 (tgt := 58) (by decide) ?_
        exact r_weak (ls2 := [.ref a, .int i1, .int (i2 + 1), .null, .null]) ⟨Or.inr rfl, Or.inr rfl, Or.inr rfl, Or.inl rfl, Or.inl rfl, trivial⟩ h
      · replace h := h.2 c9
        refine r_aload_n (pc := 93) d_Md_alike_93 (x := a) rfl ?_
        refine r_iload_n (pc := 94) d_Md_alike_94 (x := x5) rfl ?_
        refine r_iconst (pc := 95) d_Md_alike_95 (v := 1) (by decide) ?_
        refine r_callV (pc := 96) (k := a) (As := [.int x5, .int 1]) (rest := []) (mc' := 0) (ms' := 0) lk_Md_316 in_Md_passOf se_Md_passOf sa rfl d_Md_alike_96 k_Md_passOf rfl rfl (Nat.le_of_ble_eq_true rfl) (by decide) (by decide) (Sp.mono h ?_)
        rintro rS10 shS10 S10 ⟨qS10, x11, uS10, h⟩
        subst uS10
        rw [qS10]
        refine r_aload_n (pc := 99) d_Md_alike_99 (x := a) rfl ?_
        obtain ⟨r12, er12, h⟩ := h
        refine r_getR (pc := 100) d_Md_alike_100 f_Md_66 sa (Or.inr ⟨_, rfl⟩) (r := r12) er12 ?_
        refine r_iload (pc := 103) d_Md_alike_103 (x := x7) rfl ?_
        obtain ⟨n14, s13, h⟩ := h
        obtain ⟨g15, h⟩ := h
        refine r_iald (pc := 105) d_Md_alike_105 s13 g15 ?_
        refine r_icmp_eq (pc := 106) d_Md_alike_106 (tgt := 115) (by decide) (fun c16 => ?_) (fun c16 => ?_)
        · replace h := h.1 c16
          refine r_aload_n (pc := 115) d_Md_alike_115 (x := a) rfl ?_
          obtain ⟨r17, er17, h⟩ := h
          refine r_getR (pc := 116) d_Md_alike_116 f_Md_69 sa (Or.inr ⟨_, rfl⟩) (r := r17) er17 ?_
          refine r_iload_n (pc := 119) d_Md_alike_119 (x := x5) rfl ?_
          refine r_iconst (pc := 120) d_Md_alike_120 (v := 0) (by decide) ?_
          obtain ⟨n19, s18, h⟩ := h
          obtain ⟨g20, h⟩ := h
          refine r_zast (pc := 121) d_Md_alike_121 s18 g20 ?_
          refine r_aload_n (pc := 122) d_Md_alike_122 (x := a) rfl ?_
          obtain ⟨r21, er21, h⟩ := h
          refine r_getR (pc := 123) d_Md_alike_123 f_Md_72 sa (Or.inr ⟨_, rfl⟩) (r := r21) er21 ?_
          refine r_iload (pc := 126) d_Md_alike_126 (x := x7) rfl ?_
          refine r_iconst (pc := 128) d_Md_alike_128 (v := 0) (by decide) ?_
          obtain ⟨n23, s22, h⟩ := h
          obtain ⟨g24, h⟩ := h
          refine r_zast (pc := 129) d_Md_alike_129 s22 g24 ?_
          refine r_iinc (pc := 130) d_Md_alike_130 (hi := by decide) (x := i1) rfl (v := i1 + 1) rfl (ls2 := [.ref a, .int (i1 + 1), .int i2, .int x5, .int x7]) rfl ?_
          refine r_iconst (pc := 133) d_Md_alike_133 (v := 0) (by decide) ?_
          refine r_istore_n (pc := 134) (hk := rfl) (hd := d_Md_alike_134) (hi := by decide) (ls2 := [.ref a, .int (i1 + 1), .int 0, .int x5, .int x7]) (h2 := rfl) ?_
          refine r_goto (pc := 135) d_Md_alike_135 (tgt := 58) (by decide) ?_
          exact r_weak (ls2 := [.ref a, .int (i1 + 1), .int 0, .null, .null]) ⟨Or.inr rfl, Or.inr rfl, Or.inr rfl, Or.inl rfl, Or.inl rfl, trivial⟩ h
        · replace h := h.2 c16
          refine r_iinc (pc := 109) d_Md_alike_109 (hi := by decide) (x := i2) rfl (v := i2 + 1) rfl (ls2 := [.ref a, .int i1, .int (i2 + 1), .int x5, .int x7]) rfl ?_
          refine r_goto (pc := 112) d_Md_alike_112 (tgt := 58) (by decide) ?_
          exact r_weak (ls2 := [.ref a, .int i1, .int (i2 + 1), .null, .null]) ⟨Or.inr rfl, Or.inr rfl, Or.inr rfl, Or.inl rfl, Or.inl rfl, trivial⟩ h
set_option maxRecDepth 4000 in
theorem e_Md_lowest {l : Launch} {d : Nat} {sh : aw_SH} {S : aw_S} {P : Int32 → aw_S → Prop} {a : Nat} {p0 : Int32} {p1 : Int32} (sa : sh[a]? = some (0, 11)) (h : ((p0 = 0 → AW l m_Md_lowest (d + 1) 0 0 (gI sh P) 0 0 21 [.ref a, .int p0, .int p1, .int (S.1 a 33), .int 0, .null, .null] [] sh S) ∧ (¬ p0 = 0 → ∃ r2, S.2.2 a 0 = some r2 ∧ ∃ n4, sh[r2]? = some (3, n4) ∧ vp_in 3 n4 ∧ AW l m_Md_lowest (d + 1) 0 0 (gI sh P) 0 0 21 [.ref a, .int p0, .int p1, .int (S.1 r2 (3 : Int32).toNatClampNeg), .int 0, .null, .null] [] sh S))) : Sp l m_Md_lowest (d + 1) 0 0 [.ref a, .int p0, .int p1] sh S (gI sh P) := by
  refine Sp.of k_Md_lowest (ls := [.ref a, .int p0, .int p1, .null, .null, .null, .null]) rfl (Nat.le_of_ble_eq_true rfl) ?_
  refine r_iload_n (pc := 0) d_Md_lowest_0 (x := p0) rfl ?_
  refine r_if_eq (pc := 1) d_Md_lowest_1 (tgt := 13) (by decide) (fun c1 => ?_) (fun c1 => ?_)
  · replace h := h.1 c1
    refine r_aload_n (pc := 13) d_Md_lowest_13 (x := a) rfl ?_
    refine r_getI (pc := 14) d_Md_lowest_14 f_Md_407 sa rfl ?_
    refine r_istore_n (pc := 17) (hk := rfl) (hd := d_Md_lowest_17) (hi := by decide) (ls2 := [.ref a, .int p0, .int p1, .int (S.1 a 33), .null, .null, .null]) (h2 := rfl) ?_
    refine r_iconst (pc := 18) d_Md_lowest_18 (v := 0) (by decide) ?_
    refine r_istore (pc := 19) (hd := d_Md_lowest_19) (hi := by decide) (ls2 := [.ref a, .int p0, .int p1, .int (S.1 a 33), .int 0, .null, .null]) (h2 := rfl) ?_
    exact h
  · replace h := h.2 c1
    refine r_aload_n (pc := 4) d_Md_lowest_4 (x := a) rfl ?_
    obtain ⟨r2, er2, h⟩ := h
    refine r_getR (pc := 5) d_Md_lowest_5 f_Md_7 sa (Or.inr ⟨_, rfl⟩) (r := r2) er2 ?_
    refine r_iconst (pc := 8) d_Md_lowest_8 (v := 3) (by decide) ?_
    obtain ⟨n4, s3, h⟩ := h
    obtain ⟨g5, h⟩ := h
    refine r_iald (pc := 9) d_Md_lowest_9 s3 g5 ?_
    refine r_goto (pc := 10) d_Md_lowest_10 (tgt := 17) (by decide) ?_
    refine r_istore_n (pc := 17) (hk := rfl) (hd := d_Md_lowest_17) (hi := by decide) (ls2 := [.ref a, .int p0, .int p1, .int (S.1 r2 (3 : Int32).toNatClampNeg), .null, .null, .null]) (h2 := rfl) ?_
    refine r_iconst (pc := 18) d_Md_lowest_18 (v := 0) (by decide) ?_
    refine r_istore (pc := 19) (hd := d_Md_lowest_19) (hi := by decide) (ls2 := [.ref a, .int p0, .int p1, .int (S.1 r2 (3 : Int32).toNatClampNeg), .int 0, .null, .null]) (h2 := rfl) ?_
    exact h
set_option maxRecDepth 4000 in
theorem s_Md_lowest_21 {l : Launch} {d : Nat} {sh : aw_SH} {S : aw_S} {P : Int32 → aw_S → Prop} {a : Nat} {i1 : Int32} {i2 : Int32} {i3 : Int32} {i4 : Int32} (sa : sh[a]? = some (0, 11)) (h : ((i3 ≤ i4 → P (-1) S) ∧ (¬ i3 ≤ i4 → ((i1 = 0 → ∃ r3, S.2.2 a 35 = some r3 ∧ ∃ n5, sh[r3]? = some (2, n5) ∧ vp_in i4 n5 ∧ ((i1 = 0 → ∃ r8, S.2.2 a 31 = some r8 ∧ ∃ n10, sh[r8]? = some (3, n10) ∧ vp_in i4 n10 ∧ (((S.1 r3 i4.toNatClampNeg) = 0 → (((S.1 r3 i4.toNatClampNeg) = 0 → AW l m_Md_lowest (d + 1) 0 0 (gI sh P) 0 0 21 [.ref a, .int i1, .int i2, .int i3, .int (i4 + 1), .null, .null] [] sh S) ∧ (¬ (S.1 r3 i4.toNatClampNeg) = 0 → Sp l m_Md_isTouching d 0 0 [.ref a, .int 0, .int (S.1 r8 i4.toNatClampNeg), .int i2] sh S (gI sh (fun x15 S14 => ((x15 = 0 → AW l m_Md_lowest (d + 1) 0 0 (gI sh P) 0 0 21 [.ref a, .int i1, .int i2, .int i3, .int (i4 + 1), .null, .null] [] sh S14) ∧ (¬ x15 = 0 → P (-1) S14))))))) ∧ (¬ (S.1 r3 i4.toNatClampNeg) = 0 → ((¬ (S.1 r8 i4.toNatClampNeg) = i2 → (((S.1 r3 i4.toNatClampNeg) = 0 → AW l m_Md_lowest (d + 1) 0 0 (gI sh P) 0 0 21 [.ref a, .int i1, .int i2, .int i3, .int (i4 + 1), .null, .null] [] sh S) ∧ (¬ (S.1 r3 i4.toNatClampNeg) = 0 → Sp l m_Md_isTouching d 0 0 [.ref a, .int 0, .int (S.1 r8 i4.toNatClampNeg), .int i2] sh S (gI sh (fun x20 S19 => ((x20 = 0 → AW l m_Md_lowest (d + 1) 0 0 (gI sh P) 0 0 21 [.ref a, .int i1, .int i2, .int i3, .int (i4 + 1), .null, .null] [] sh S19) ∧ (¬ x20 = 0 → P (-1) S19))))))) ∧ ((S.1 r8 i4.toNatClampNeg) = i2 → P i4 S))))) ∧ (¬ i1 = 0 → Sp l m_Md_passOf d 0 0 [.ref a, .int i4, .int 0] sh S (gI sh (fun x23 S22 => (((S.1 r3 i4.toNatClampNeg) = 0 → (((S.1 r3 i4.toNatClampNeg) = 0 → AW l m_Md_lowest (d + 1) 0 0 (gI sh P) 0 0 21 [.ref a, .int i1, .int i2, .int i3, .int (i4 + 1), .null, .null] [] sh S22) ∧ (¬ (S.1 r3 i4.toNatClampNeg) = 0 → Sp l m_Md_isTouching d 0 0 [.ref a, .int 0, .int x23, .int i2] sh S22 (gI sh (fun x27 S26 => ((x27 = 0 → AW l m_Md_lowest (d + 1) 0 0 (gI sh P) 0 0 21 [.ref a, .int i1, .int i2, .int i3, .int (i4 + 1), .null, .null] [] sh S26) ∧ (¬ x27 = 0 → P (-1) S26))))))) ∧ (¬ (S.1 r3 i4.toNatClampNeg) = 0 → ((¬ x23 = i2 → (((S.1 r3 i4.toNatClampNeg) = 0 → AW l m_Md_lowest (d + 1) 0 0 (gI sh P) 0 0 21 [.ref a, .int i1, .int i2, .int i3, .int (i4 + 1), .null, .null] [] sh S22) ∧ (¬ (S.1 r3 i4.toNatClampNeg) = 0 → Sp l m_Md_isTouching d 0 0 [.ref a, .int 0, .int x23, .int i2] sh S22 (gI sh (fun x32 S31 => ((x32 = 0 → AW l m_Md_lowest (d + 1) 0 0 (gI sh P) 0 0 21 [.ref a, .int i1, .int i2, .int i3, .int (i4 + 1), .null, .null] [] sh S31) ∧ (¬ x32 = 0 → P (-1) S31))))))) ∧ (x23 = i2 → P i4 S22))))))))) ∧ (¬ i1 = 0 → ∃ r34, S.2.2 a 34 = some r34 ∧ ∃ n36, sh[r34]? = some (2, n36) ∧ vp_in i4 n36 ∧ ((i1 = 0 → ∃ r39, S.2.2 a 31 = some r39 ∧ ∃ n41, sh[r39]? = some (3, n41) ∧ vp_in i4 n41 ∧ (((S.1 r34 i4.toNatClampNeg) = 0 → (((S.1 r34 i4.toNatClampNeg) = 0 → AW l m_Md_lowest (d + 1) 0 0 (gI sh P) 0 0 21 [.ref a, .int i1, .int i2, .int i3, .int (i4 + 1), .null, .null] [] sh S) ∧ (¬ (S.1 r34 i4.toNatClampNeg) = 0 → Sp l m_Md_isTouching d 0 0 [.ref a, .int 0, .int (S.1 r39 i4.toNatClampNeg), .int i2] sh S (gI sh (fun x46 S45 => ((x46 = 0 → AW l m_Md_lowest (d + 1) 0 0 (gI sh P) 0 0 21 [.ref a, .int i1, .int i2, .int i3, .int (i4 + 1), .null, .null] [] sh S45) ∧ (¬ x46 = 0 → P (-1) S45))))))) ∧ (¬ (S.1 r34 i4.toNatClampNeg) = 0 → ((¬ (S.1 r39 i4.toNatClampNeg) = i2 → (((S.1 r34 i4.toNatClampNeg) = 0 → AW l m_Md_lowest (d + 1) 0 0 (gI sh P) 0 0 21 [.ref a, .int i1, .int i2, .int i3, .int (i4 + 1), .null, .null] [] sh S) ∧ (¬ (S.1 r34 i4.toNatClampNeg) = 0 → Sp l m_Md_isTouching d 0 0 [.ref a, .int 0, .int (S.1 r39 i4.toNatClampNeg), .int i2] sh S (gI sh (fun x51 S50 => ((x51 = 0 → AW l m_Md_lowest (d + 1) 0 0 (gI sh P) 0 0 21 [.ref a, .int i1, .int i2, .int i3, .int (i4 + 1), .null, .null] [] sh S50) ∧ (¬ x51 = 0 → P (-1) S50))))))) ∧ ((S.1 r39 i4.toNatClampNeg) = i2 → P i4 S))))) ∧ (¬ i1 = 0 → Sp l m_Md_passOf d 0 0 [.ref a, .int i4, .int 0] sh S (gI sh (fun x54 S53 => (((S.1 r34 i4.toNatClampNeg) = 0 → (((S.1 r34 i4.toNatClampNeg) = 0 → AW l m_Md_lowest (d + 1) 0 0 (gI sh P) 0 0 21 [.ref a, .int i1, .int i2, .int i3, .int (i4 + 1), .null, .null] [] sh S53) ∧ (¬ (S.1 r34 i4.toNatClampNeg) = 0 → Sp l m_Md_isTouching d 0 0 [.ref a, .int 0, .int x54, .int i2] sh S53 (gI sh (fun x58 S57 => ((x58 = 0 → AW l m_Md_lowest (d + 1) 0 0 (gI sh P) 0 0 21 [.ref a, .int i1, .int i2, .int i3, .int (i4 + 1), .null, .null] [] sh S57) ∧ (¬ x58 = 0 → P (-1) S57))))))) ∧ (¬ (S.1 r34 i4.toNatClampNeg) = 0 → ((¬ x54 = i2 → (((S.1 r34 i4.toNatClampNeg) = 0 → AW l m_Md_lowest (d + 1) 0 0 (gI sh P) 0 0 21 [.ref a, .int i1, .int i2, .int i3, .int (i4 + 1), .null, .null] [] sh S53) ∧ (¬ (S.1 r34 i4.toNatClampNeg) = 0 → Sp l m_Md_isTouching d 0 0 [.ref a, .int 0, .int x54, .int i2] sh S53 (gI sh (fun x63 S62 => ((x63 = 0 → AW l m_Md_lowest (d + 1) 0 0 (gI sh P) 0 0 21 [.ref a, .int i1, .int i2, .int i3, .int (i4 + 1), .null, .null] [] sh S62) ∧ (¬ x63 = 0 → P (-1) S62))))))) ∧ (x54 = i2 → P i4 S53))))))))))))) : AW l m_Md_lowest (d + 1) 0 0 (gI sh P) 0 0 21 [.ref a, .int i1, .int i2, .int i3, .int i4, .null, .null] [] sh S := by
  refine r_iload (pc := 21) d_Md_lowest_21 (x := i4) rfl ?_
  refine r_iload_n (pc := 23) d_Md_lowest_23 (x := i3) rfl ?_
  refine r_icmp_ge (pc := 24) d_Md_lowest_24 (tgt := 111) (by decide) (fun c1 => ?_) (fun c1 => ?_)
  · replace h := h.1 c1
    refine r_iconst (pc := 111) d_Md_lowest_111 (v := (-1)) (by decide) ?_
    exact r_ireturn (pc := 112) d_Md_lowest_112 rfl rfl (Nat.le_refl _) ⟨rfl, _, rfl, h⟩
  · replace h := h.2 c1
    refine r_iload_n (pc := 27) d_Md_lowest_27 (x := i1) rfl ?_
    refine r_if_eq (pc := 28) d_Md_lowest_28 (tgt := 41) (by decide) (fun c2 => ?_) (fun c2 => ?_)
    · replace h := h.1 c2
      refine r_aload_n (pc := 41) d_Md_lowest_41 (x := a) rfl ?_
      obtain ⟨r3, er3, h⟩ := h
      refine r_getR (pc := 42) d_Md_lowest_42 f_Md_72 sa (Or.inr ⟨_, rfl⟩) (r := r3) er3 ?_
      refine r_iload (pc := 45) d_Md_lowest_45 (x := i4) rfl ?_
      obtain ⟨n5, s4, h⟩ := h
      obtain ⟨g6, h⟩ := h
      refine r_zald (pc := 47) d_Md_lowest_47 s4 g6 ?_
      refine r_istore (pc := 48) (hd := d_Md_lowest_48) (hi := by decide) (ls2 := [.ref a, .int i1, .int i2, .int i3, .int i4, .int (S.1 r3 i4.toNatClampNeg), .null]) (h2 := rfl) ?_
      refine r_iload_n (pc := 50) d_Md_lowest_50 (x := i1) rfl ?_
      refine r_if_eq (pc := 51) d_Md_lowest_51 (tgt := 64) (by decide) (fun c7 => ?_) (fun c7 => ?_)
      · replace h := h.1 c7
        refine r_aload_n (pc := 64) d_Md_lowest_64 (x := a) rfl ?_
        obtain ⟨r8, er8, h⟩ := h
        refine r_getR (pc := 65) d_Md_lowest_65 f_Md_63 sa (Or.inr ⟨_, rfl⟩) (r := r8) er8 ?_
        refine r_iload (pc := 68) d_Md_lowest_68 (x := i4) rfl ?_
        obtain ⟨n10, s9, h⟩ := h
        obtain ⟨g11, h⟩ := h
        refine r_iald (pc := 70) d_Md_lowest_70 s9 g11 ?_
        refine r_istore (pc := 71) (hd := d_Md_lowest_71) (hi := by decide) (ls2 := [.ref a, .int i1, .int i2, .int i3, .int i4, .int (S.1 r3 i4.toNatClampNeg), .int (S.1 r8 i4.toNatClampNeg)]) (h2 := rfl) ?_
        refine r_iload (pc := 73) d_Md_lowest_73 (x := (S.1 r3 i4.toNatClampNeg)) rfl ?_
        refine r_if_eq (pc := 75) d_Md_lowest_75 (tgt := 87) (by decide) (fun c12 => ?_) (fun c12 => ?_)
        · replace h := h.1 c12
          refine r_iload (pc := 87) d_Md_lowest_87 (x := (S.1 r3 i4.toNatClampNeg)) rfl ?_
          refine r_if_eq (pc := 89) d_Md_lowest_89 (tgt := 105) (by decide) (fun c13 => ?_) (fun c13 => ?_)
          · replace h := h.1 c13
            refine r_iinc (pc := 105) d_Md_lowest_105 (hi := by decide) (x := i4) rfl (v := i4 + 1) rfl (ls2 := [.ref a, .int i1, .int i2, .int i3, .int (i4 + 1), .int (S.1 r3 i4.toNatClampNeg), .int (S.1 r8 i4.toNatClampNeg)]) rfl ?_
            refine r_goto (pc := 108) d_Md_lowest_108 (tgt := 21) (by decide) ?_
            exact r_weak (ls2 := [.ref a, .int i1, .int i2, .int i3, .int (i4 + 1), .null, .null]) ⟨Or.inr rfl, Or.inr rfl, Or.inr rfl, Or.inr rfl, Or.inr rfl, Or.inl rfl, Or.inl rfl, trivial⟩ h
          · replace h := h.2 c13
            refine r_aload_n (pc := 92) d_Md_lowest_92 (x := a) rfl ?_
            refine r_iconst (pc := 93) d_Md_lowest_93 (v := 0) (by decide) ?_
            refine r_iload (pc := 94) d_Md_lowest_94 (x := (S.1 r8 i4.toNatClampNeg)) rfl ?_
            refine r_iload_n (pc := 96) d_Md_lowest_96 (x := i2) rfl ?_
            refine r_callV (pc := 97) (k := a) (As := [.int 0, .int (S.1 r8 i4.toNatClampNeg), .int i2]) (rest := []) (mc' := 0) (ms' := 0) lk_Md_217 in_Md_isTouching se_Md_isTouching sa rfl d_Md_lowest_97 k_Md_isTouching rfl rfl (Nat.le_of_ble_eq_true rfl) (by decide) (by decide) (Sp.mono h ?_)
            rintro rS14 shS14 S14 ⟨qS14, x15, uS14, h⟩
            subst uS14
            rw [qS14]
            refine r_if_eq (pc := 100) d_Md_lowest_100 (tgt := 105) (by decide) (fun c16 => ?_) (fun c16 => ?_)
            · replace h := h.1 c16
              refine r_iinc (pc := 105) d_Md_lowest_105 (hi := by decide) (x := i4) rfl (v := i4 + 1) rfl (ls2 := [.ref a, .int i1, .int i2, .int i3, .int (i4 + 1), .int (S.1 r3 i4.toNatClampNeg), .int (S.1 r8 i4.toNatClampNeg)]) rfl ?_
              refine r_goto (pc := 108) d_Md_lowest_108 (tgt := 21) (by decide) ?_
              exact r_weak (ls2 := [.ref a, .int i1, .int i2, .int i3, .int (i4 + 1), .null, .null]) ⟨Or.inr rfl, Or.inr rfl, Or.inr rfl, Or.inr rfl, Or.inr rfl, Or.inl rfl, Or.inl rfl, trivial⟩ h
            · replace h := h.2 c16
              refine r_iconst (pc := 103) d_Md_lowest_103 (v := (-1)) (by decide) ?_
              exact r_ireturn (pc := 104) d_Md_lowest_104 rfl rfl (Nat.le_refl _) ⟨rfl, _, rfl, h⟩
        · replace h := h.2 c12
          refine r_iload (pc := 78) d_Md_lowest_78 (x := (S.1 r8 i4.toNatClampNeg)) rfl ?_
          refine r_iload_n (pc := 80) d_Md_lowest_80 (x := i2) rfl ?_
          refine r_icmp_ne (pc := 81) d_Md_lowest_81 (tgt := 87) (by decide) (fun c17 => ?_) (fun c17 => ?_)
          · replace h := h.1 c17
            refine r_iload (pc := 87) d_Md_lowest_87 (x := (S.1 r3 i4.toNatClampNeg)) rfl ?_
            refine r_if_eq (pc := 89) d_Md_lowest_89 (tgt := 105) (by decide) (fun c18 => ?_) (fun c18 => ?_)
            · replace h := h.1 c18
              refine r_iinc (pc := 105) d_Md_lowest_105 (hi := by decide) (x := i4) rfl (v := i4 + 1) rfl (ls2 := [.ref a, .int i1, .int i2, .int i3, .int (i4 + 1), .int (S.1 r3 i4.toNatClampNeg), .int (S.1 r8 i4.toNatClampNeg)]) rfl ?_
              refine r_goto (pc := 108) d_Md_lowest_108 (tgt := 21) (by decide) ?_
              exact r_weak (ls2 := [.ref a, .int i1, .int i2, .int i3, .int (i4 + 1), .null, .null]) ⟨Or.inr rfl, Or.inr rfl, Or.inr rfl, Or.inr rfl, Or.inr rfl, Or.inl rfl, Or.inl rfl, trivial⟩ h
            · replace h := h.2 c18
              refine r_aload_n (pc := 92) d_Md_lowest_92 (x := a) rfl ?_
              refine r_iconst (pc := 93) d_Md_lowest_93 (v := 0) (by decide) ?_
              refine r_iload (pc := 94) d_Md_lowest_94 (x := (S.1 r8 i4.toNatClampNeg)) rfl ?_
              refine r_iload_n (pc := 96) d_Md_lowest_96 (x := i2) rfl ?_
              refine r_callV (pc := 97) (k := a) (As := [.int 0, .int (S.1 r8 i4.toNatClampNeg), .int i2]) (rest := []) (mc' := 0) (ms' := 0) lk_Md_217 in_Md_isTouching se_Md_isTouching sa rfl d_Md_lowest_97 k_Md_isTouching rfl rfl (Nat.le_of_ble_eq_true rfl) (by decide) (by decide) (Sp.mono h ?_)
              rintro rS19 shS19 S19 ⟨qS19, x20, uS19, h⟩
              subst uS19
              rw [qS19]
              refine r_if_eq (pc := 100) d_Md_lowest_100 (tgt := 105) (by decide) (fun c21 => ?_) (fun c21 => ?_)
              · replace h := h.1 c21
                refine r_iinc (pc := 105) d_Md_lowest_105 (hi := by decide) (x := i4) rfl (v := i4 + 1) rfl (ls2 := [.ref a, .int i1, .int i2, .int i3, .int (i4 + 1), .int (S.1 r3 i4.toNatClampNeg), .int (S.1 r8 i4.toNatClampNeg)]) rfl ?_
                refine r_goto (pc := 108) d_Md_lowest_108 (tgt := 21) (by decide) ?_
                exact r_weak (ls2 := [.ref a, .int i1, .int i2, .int i3, .int (i4 + 1), .null, .null]) ⟨Or.inr rfl, Or.inr rfl, Or.inr rfl, Or.inr rfl, Or.inr rfl, Or.inl rfl, Or.inl rfl, trivial⟩ h
              · replace h := h.2 c21
                refine r_iconst (pc := 103) d_Md_lowest_103 (v := (-1)) (by decide) ?_
                exact r_ireturn (pc := 104) d_Md_lowest_104 rfl rfl (Nat.le_refl _) ⟨rfl, _, rfl, h⟩
          · replace h := h.2 c17
            refine r_iload (pc := 84) d_Md_lowest_84 (x := i4) rfl ?_
            exact r_ireturn (pc := 86) d_Md_lowest_86 rfl rfl (Nat.le_refl _) ⟨rfl, _, rfl, h⟩
      · replace h := h.2 c7
        refine r_aload_n (pc := 54) d_Md_lowest_54 (x := a) rfl ?_
        refine r_iload (pc := 55) d_Md_lowest_55 (x := i4) rfl ?_
        refine r_iconst (pc := 57) d_Md_lowest_57 (v := 0) (by decide) ?_
        refine r_callV (pc := 58) (k := a) (As := [.int i4, .int 0]) (rest := []) (mc' := 0) (ms' := 0) lk_Md_316 in_Md_passOf se_Md_passOf sa rfl d_Md_lowest_58 k_Md_passOf rfl rfl (Nat.le_of_ble_eq_true rfl) (by decide) (by decide) (Sp.mono h ?_)
        rintro rS22 shS22 S22 ⟨qS22, x23, uS22, h⟩
        subst uS22
        rw [qS22]
        refine r_goto (pc := 61) d_Md_lowest_61 (tgt := 71) (by decide) ?_
        refine r_istore (pc := 71) (hd := d_Md_lowest_71) (hi := by decide) (ls2 := [.ref a, .int i1, .int i2, .int i3, .int i4, .int (S.1 r3 i4.toNatClampNeg), .int x23]) (h2 := rfl) ?_
        refine r_iload (pc := 73) d_Md_lowest_73 (x := (S.1 r3 i4.toNatClampNeg)) rfl ?_
        refine r_if_eq (pc := 75) d_Md_lowest_75 (tgt := 87) (by decide) (fun c24 => ?_) (fun c24 => ?_)
        · replace h := h.1 c24
          refine r_iload (pc := 87) d_Md_lowest_87 (x := (S.1 r3 i4.toNatClampNeg)) rfl ?_
          refine r_if_eq (pc := 89) d_Md_lowest_89 (tgt := 105) (by decide) (fun c25 => ?_) (fun c25 => ?_)
          · replace h := h.1 c25
            refine r_iinc (pc := 105) d_Md_lowest_105 (hi := by decide) (x := i4) rfl (v := i4 + 1) rfl (ls2 := [.ref a, .int i1, .int i2, .int i3, .int (i4 + 1), .int (S.1 r3 i4.toNatClampNeg), .int x23]) rfl ?_
            refine r_goto (pc := 108) d_Md_lowest_108 (tgt := 21) (by decide) ?_
            exact r_weak (ls2 := [.ref a, .int i1, .int i2, .int i3, .int (i4 + 1), .null, .null]) ⟨Or.inr rfl, Or.inr rfl, Or.inr rfl, Or.inr rfl, Or.inr rfl, Or.inl rfl, Or.inl rfl, trivial⟩ h
          · replace h := h.2 c25
            refine r_aload_n (pc := 92) d_Md_lowest_92 (x := a) rfl ?_
            refine r_iconst (pc := 93) d_Md_lowest_93 (v := 0) (by decide) ?_
            refine r_iload (pc := 94) d_Md_lowest_94 (x := x23) rfl ?_
            refine r_iload_n (pc := 96) d_Md_lowest_96 (x := i2) rfl ?_
            refine r_callV (pc := 97) (k := a) (As := [.int 0, .int x23, .int i2]) (rest := []) (mc' := 0) (ms' := 0) lk_Md_217 in_Md_isTouching se_Md_isTouching sa rfl d_Md_lowest_97 k_Md_isTouching rfl rfl (Nat.le_of_ble_eq_true rfl) (by decide) (by decide) (Sp.mono h ?_)
            rintro rS26 shS26 S26 ⟨qS26, x27, uS26, h⟩
            subst uS26
            rw [qS26]
            refine r_if_eq (pc := 100) d_Md_lowest_100 (tgt := 105) (by decide) (fun c28 => ?_) (fun c28 => ?_)
            · replace h := h.1 c28
              refine r_iinc (pc := 105) d_Md_lowest_105 (hi := by decide) (x := i4) rfl (v := i4 + 1) rfl (ls2 := [.ref a, .int i1, .int i2, .int i3, .int (i4 + 1), .int (S.1 r3 i4.toNatClampNeg), .int x23]) rfl ?_
              refine r_goto (pc := 108) d_Md_lowest_108 (tgt := 21) (by decide) ?_
              exact r_weak (ls2 := [.ref a, .int i1, .int i2, .int i3, .int (i4 + 1), .null, .null]) ⟨Or.inr rfl, Or.inr rfl, Or.inr rfl, Or.inr rfl, Or.inr rfl, Or.inl rfl, Or.inl rfl, trivial⟩ h
            · replace h := h.2 c28
              refine r_iconst (pc := 103) d_Md_lowest_103 (v := (-1)) (by decide) ?_
              exact r_ireturn (pc := 104) d_Md_lowest_104 rfl rfl (Nat.le_refl _) ⟨rfl, _, rfl, h⟩
        · replace h := h.2 c24
          refine r_iload (pc := 78) d_Md_lowest_78 (x := x23) rfl ?_
          refine r_iload_n (pc := 80) d_Md_lowest_80 (x := i2) rfl ?_
          refine r_icmp_ne (pc := 81) d_Md_lowest_81 (tgt := 87) (by decide) (fun c29 => ?_) (fun c29 => ?_)
          · replace h := h.1 c29
            refine r_iload (pc := 87) d_Md_lowest_87 (x := (S.1 r3 i4.toNatClampNeg)) rfl ?_
            refine r_if_eq (pc := 89) d_Md_lowest_89 (tgt := 105) (by decide) (fun c30 => ?_) (fun c30 => ?_)
            · replace h := h.1 c30
              refine r_iinc (pc := 105) d_Md_lowest_105 (hi := by decide) (x := i4) rfl (v := i4 + 1) rfl (ls2 := [.ref a, .int i1, .int i2, .int i3, .int (i4 + 1), .int (S.1 r3 i4.toNatClampNeg), .int x23]) rfl ?_
              refine r_goto (pc := 108) d_Md_lowest_108 (tgt := 21) (by decide) ?_
              exact r_weak (ls2 := [.ref a, .int i1, .int i2, .int i3, .int (i4 + 1), .null, .null]) ⟨Or.inr rfl, Or.inr rfl, Or.inr rfl, Or.inr rfl, Or.inr rfl, Or.inl rfl, Or.inl rfl, trivial⟩ h
            · replace h := h.2 c30
              refine r_aload_n (pc := 92) d_Md_lowest_92 (x := a) rfl ?_
              refine r_iconst (pc := 93) d_Md_lowest_93 (v := 0) (by decide) ?_
              refine r_iload (pc := 94) d_Md_lowest_94 (x := x23) rfl ?_
              refine r_iload_n (pc := 96) d_Md_lowest_96 (x := i2) rfl ?_
              refine r_callV (pc := 97) (k := a) (As := [.int 0, .int x23, .int i2]) (rest := []) (mc' := 0) (ms' := 0) lk_Md_217 in_Md_isTouching se_Md_isTouching sa rfl d_Md_lowest_97 k_Md_isTouching rfl rfl (Nat.le_of_ble_eq_true rfl) (by decide) (by decide) (Sp.mono h ?_)
              rintro rS31 shS31 S31 ⟨qS31, x32, uS31, h⟩
              subst uS31
              rw [qS31]
              refine r_if_eq (pc := 100) d_Md_lowest_100 (tgt := 105) (by decide) (fun c33 => ?_) (fun c33 => ?_)
              · replace h := h.1 c33
                refine r_iinc (pc := 105) d_Md_lowest_105 (hi := by decide) (x := i4) rfl (v := i4 + 1) rfl (ls2 := [.ref a, .int i1, .int i2, .int i3, .int (i4 + 1), .int (S.1 r3 i4.toNatClampNeg), .int x23]) rfl ?_
                refine r_goto (pc := 108) d_Md_lowest_108 (tgt := 21) (by decide) ?_
                exact r_weak (ls2 := [.ref a, .int i1, .int i2, .int i3, .int (i4 + 1), .null, .null]) ⟨Or.inr rfl, Or.inr rfl, Or.inr rfl, Or.inr rfl, Or.inr rfl, Or.inl rfl, Or.inl rfl, trivial⟩ h
              · replace h := h.2 c33
                refine r_iconst (pc := 103) d_Md_lowest_103 (v := (-1)) (by decide) ?_
                exact r_ireturn (pc := 104) d_Md_lowest_104 rfl rfl (Nat.le_refl _) ⟨rfl, _, rfl, h⟩
          · replace h := h.2 c29
            refine r_iload (pc := 84) d_Md_lowest_84 (x := i4) rfl ?_
            exact r_ireturn (pc := 86) d_Md_lowest_86 rfl rfl (Nat.le_refl _) ⟨rfl, _, rfl, h⟩
    · replace h := h.2 c2
      refine r_aload_n (pc := 31) d_Md_lowest_31 (x := a) rfl ?_
      obtain ⟨r34, er34, h⟩ := h
      refine r_getR (pc := 32) d_Md_lowest_32 f_Md_69 sa (Or.inr ⟨_, rfl⟩) (r := r34) er34 ?_
      refine r_iload (pc := 35) d_Md_lowest_35 (x := i4) rfl ?_
      obtain ⟨n36, s35, h⟩ := h
      obtain ⟨g37, h⟩ := h
      refine r_zald (pc := 37) d_Md_lowest_37 s35 g37 ?_
      refine r_goto (pc := 38) d_Md_lowest_38 (tgt := 48) (by decide) ?_
      refine r_istore (pc := 48) (hd := d_Md_lowest_48) (hi := by decide) (ls2 := [.ref a, .int i1, .int i2, .int i3, .int i4, .int (S.1 r34 i4.toNatClampNeg), .null]) (h2 := rfl) ?_
      refine r_iload_n (pc := 50) d_Md_lowest_50 (x := i1) rfl ?_
      refine r_if_eq (pc := 51) d_Md_lowest_51 (tgt := 64) (by decide) (fun c38 => ?_) (fun c38 => ?_)
      · replace h := h.1 c38
        refine r_aload_n (pc := 64) d_Md_lowest_64 (x := a) rfl ?_
        obtain ⟨r39, er39, h⟩ := h
        refine r_getR (pc := 65) d_Md_lowest_65 f_Md_63 sa (Or.inr ⟨_, rfl⟩) (r := r39) er39 ?_
        refine r_iload (pc := 68) d_Md_lowest_68 (x := i4) rfl ?_
        obtain ⟨n41, s40, h⟩ := h
        obtain ⟨g42, h⟩ := h
        refine r_iald (pc := 70) d_Md_lowest_70 s40 g42 ?_
        refine r_istore (pc := 71) (hd := d_Md_lowest_71) (hi := by decide) (ls2 := [.ref a, .int i1, .int i2, .int i3, .int i4, .int (S.1 r34 i4.toNatClampNeg), .int (S.1 r39 i4.toNatClampNeg)]) (h2 := rfl) ?_
        refine r_iload (pc := 73) d_Md_lowest_73 (x := (S.1 r34 i4.toNatClampNeg)) rfl ?_
        refine r_if_eq (pc := 75) d_Md_lowest_75 (tgt := 87) (by decide) (fun c43 => ?_) (fun c43 => ?_)
        · replace h := h.1 c43
          refine r_iload (pc := 87) d_Md_lowest_87 (x := (S.1 r34 i4.toNatClampNeg)) rfl ?_
          refine r_if_eq (pc := 89) d_Md_lowest_89 (tgt := 105) (by decide) (fun c44 => ?_) (fun c44 => ?_)
          · replace h := h.1 c44
            refine r_iinc (pc := 105) d_Md_lowest_105 (hi := by decide) (x := i4) rfl (v := i4 + 1) rfl (ls2 := [.ref a, .int i1, .int i2, .int i3, .int (i4 + 1), .int (S.1 r34 i4.toNatClampNeg), .int (S.1 r39 i4.toNatClampNeg)]) rfl ?_
            refine r_goto (pc := 108) d_Md_lowest_108 (tgt := 21) (by decide) ?_
            exact r_weak (ls2 := [.ref a, .int i1, .int i2, .int i3, .int (i4 + 1), .null, .null]) ⟨Or.inr rfl, Or.inr rfl, Or.inr rfl, Or.inr rfl, Or.inr rfl, Or.inl rfl, Or.inl rfl, trivial⟩ h
          · replace h := h.2 c44
            refine r_aload_n (pc := 92) d_Md_lowest_92 (x := a) rfl ?_
            refine r_iconst (pc := 93) d_Md_lowest_93 (v := 0) (by decide) ?_
            refine r_iload (pc := 94) d_Md_lowest_94 (x := (S.1 r39 i4.toNatClampNeg)) rfl ?_
            refine r_iload_n (pc := 96) d_Md_lowest_96 (x := i2) rfl ?_
            refine r_callV (pc := 97) (k := a) (As := [.int 0, .int (S.1 r39 i4.toNatClampNeg), .int i2]) (rest := []) (mc' := 0) (ms' := 0) lk_Md_217 in_Md_isTouching se_Md_isTouching sa rfl d_Md_lowest_97 k_Md_isTouching rfl rfl (Nat.le_of_ble_eq_true rfl) (by decide) (by decide) (Sp.mono h ?_)
            rintro rS45 shS45 S45 ⟨qS45, x46, uS45, h⟩
            subst uS45
            rw [qS45]
            refine r_if_eq (pc := 100) d_Md_lowest_100 (tgt := 105) (by decide) (fun c47 => ?_) (fun c47 => ?_)
            · replace h := h.1 c47
              refine r_iinc (pc := 105) d_Md_lowest_105 (hi := by decide) (x := i4) rfl (v := i4 + 1) rfl (ls2 := [.ref a, .int i1, .int i2, .int i3, .int (i4 + 1), .int (S.1 r34 i4.toNatClampNeg), .int (S.1 r39 i4.toNatClampNeg)]) rfl ?_
              refine r_goto (pc := 108) d_Md_lowest_108 (tgt := 21) (by decide) ?_
              exact r_weak (ls2 := [.ref a, .int i1, .int i2, .int i3, .int (i4 + 1), .null, .null]) ⟨Or.inr rfl, Or.inr rfl, Or.inr rfl, Or.inr rfl, Or.inr rfl, Or.inl rfl, Or.inl rfl, trivial⟩ h
            · replace h := h.2 c47
              refine r_iconst (pc := 103) d_Md_lowest_103 (v := (-1)) (by decide) ?_
              exact r_ireturn (pc := 104) d_Md_lowest_104 rfl rfl (Nat.le_refl _) ⟨rfl, _, rfl, h⟩
        · replace h := h.2 c43
          refine r_iload (pc := 78) d_Md_lowest_78 (x := (S.1 r39 i4.toNatClampNeg)) rfl ?_
          refine r_iload_n (pc := 80) d_Md_lowest_80 (x := i2) rfl ?_
          refine r_icmp_ne (pc := 81) d_Md_lowest_81 (tgt := 87) (by decide) (fun c48 => ?_) (fun c48 => ?_)
          · replace h := h.1 c48
            refine r_iload (pc := 87) d_Md_lowest_87 (x := (S.1 r34 i4.toNatClampNeg)) rfl ?_
            refine r_if_eq (pc := 89) d_Md_lowest_89 (tgt := 105) (by decide) (fun c49 => ?_) (fun c49 => ?_)
            · replace h := h.1 c49
              refine r_iinc (pc := 105) d_Md_lowest_105 (hi := by decide) (x := i4) rfl (v := i4 + 1) rfl (ls2 := [.ref a, .int i1, .int i2, .int i3, .int (i4 + 1), .int (S.1 r34 i4.toNatClampNeg), .int (S.1 r39 i4.toNatClampNeg)]) rfl ?_
              refine r_goto (pc := 108) d_Md_lowest_108 (tgt := 21) (by decide) ?_
              exact r_weak (ls2 := [.ref a, .int i1, .int i2, .int i3, .int (i4 + 1), .null, .null]) ⟨Or.inr rfl, Or.inr rfl, Or.inr rfl, Or.inr rfl, Or.inr rfl, Or.inl rfl, Or.inl rfl, trivial⟩ h
            · replace h := h.2 c49
              refine r_aload_n (pc := 92) d_Md_lowest_92 (x := a) rfl ?_
              refine r_iconst (pc := 93) d_Md_lowest_93 (v := 0) (by decide) ?_
              refine r_iload (pc := 94) d_Md_lowest_94 (x := (S.1 r39 i4.toNatClampNeg)) rfl ?_
              refine r_iload_n (pc := 96) d_Md_lowest_96 (x := i2) rfl ?_
              refine r_callV (pc := 97) (k := a) (As := [.int 0, .int (S.1 r39 i4.toNatClampNeg), .int i2]) (rest := []) (mc' := 0) (ms' := 0) lk_Md_217 in_Md_isTouching se_Md_isTouching sa rfl d_Md_lowest_97 k_Md_isTouching rfl rfl (Nat.le_of_ble_eq_true rfl) (by decide) (by decide) (Sp.mono h ?_)
              rintro rS50 shS50 S50 ⟨qS50, x51, uS50, h⟩
              subst uS50
              rw [qS50]
              refine r_if_eq (pc := 100) d_Md_lowest_100 (tgt := 105) (by decide) (fun c52 => ?_) (fun c52 => ?_)
              · replace h := h.1 c52
                refine r_iinc (pc := 105) d_Md_lowest_105 (hi := by decide) (x := i4) rfl (v := i4 + 1) rfl (ls2 := [.ref a, .int i1, .int i2, .int i3, .int (i4 + 1), .int (S.1 r34 i4.toNatClampNeg), .int (S.1 r39 i4.toNatClampNeg)]) rfl ?_
                refine r_goto (pc := 108) d_Md_lowest_108 (tgt := 21) (by decide) ?_
                exact r_weak (ls2 := [.ref a, .int i1, .int i2, .int i3, .int (i4 + 1), .null, .null]) ⟨Or.inr rfl, Or.inr rfl, Or.inr rfl, Or.inr rfl, Or.inr rfl, Or.inl rfl, Or.inl rfl, trivial⟩ h
              · replace h := h.2 c52
                refine r_iconst (pc := 103) d_Md_lowest_103 (v := (-1)) (by decide) ?_
                exact r_ireturn (pc := 104) d_Md_lowest_104 rfl rfl (Nat.le_refl _) ⟨rfl, _, rfl, h⟩
          · replace h := h.2 c48
            refine r_iload (pc := 84) d_Md_lowest_84 (x := i4) rfl ?_
            exact r_ireturn (pc := 86) d_Md_lowest_86 rfl rfl (Nat.le_refl _) ⟨rfl, _, rfl, h⟩
      · replace h := h.2 c38
        refine r_aload_n (pc := 54) d_Md_lowest_54 (x := a) rfl ?_
        refine r_iload (pc := 55) d_Md_lowest_55 (x := i4) rfl ?_
        refine r_iconst (pc := 57) d_Md_lowest_57 (v := 0) (by decide) ?_
        refine r_callV (pc := 58) (k := a) (As := [.int i4, .int 0]) (rest := []) (mc' := 0) (ms' := 0) lk_Md_316 in_Md_passOf se_Md_passOf sa rfl d_Md_lowest_58 k_Md_passOf rfl rfl (Nat.le_of_ble_eq_true rfl) (by decide) (by decide) (Sp.mono h ?_)
        rintro rS53 shS53 S53 ⟨qS53, x54, uS53, h⟩
        subst uS53
        rw [qS53]
        refine r_goto (pc := 61) d_Md_lowest_61 (tgt := 71) (by decide) ?_
        refine r_istore (pc := 71) (hd := d_Md_lowest_71) (hi := by decide) (ls2 := [.ref a, .int i1, .int i2, .int i3, .int i4, .int (S.1 r34 i4.toNatClampNeg), .int x54]) (h2 := rfl) ?_
        refine r_iload (pc := 73) d_Md_lowest_73 (x := (S.1 r34 i4.toNatClampNeg)) rfl ?_
        refine r_if_eq (pc := 75) d_Md_lowest_75 (tgt := 87) (by decide) (fun c55 => ?_) (fun c55 => ?_)
        · replace h := h.1 c55
          refine r_iload (pc := 87) d_Md_lowest_87 (x := (S.1 r34 i4.toNatClampNeg)) rfl ?_
          refine r_if_eq (pc := 89) d_Md_lowest_89 (tgt := 105) (by decide) (fun c56 => ?_) (fun c56 => ?_)
          · replace h := h.1 c56
            refine r_iinc (pc := 105) d_Md_lowest_105 (hi := by decide) (x := i4) rfl (v := i4 + 1) rfl (ls2 := [.ref a, .int i1, .int i2, .int i3, .int (i4 + 1), .int (S.1 r34 i4.toNatClampNeg), .int x54]) rfl ?_
            refine r_goto (pc := 108) d_Md_lowest_108 (tgt := 21) (by decide) ?_
            exact r_weak (ls2 := [.ref a, .int i1, .int i2, .int i3, .int (i4 + 1), .null, .null]) ⟨Or.inr rfl, Or.inr rfl, Or.inr rfl, Or.inr rfl, Or.inr rfl, Or.inl rfl, Or.inl rfl, trivial⟩ h
          · replace h := h.2 c56
            refine r_aload_n (pc := 92) d_Md_lowest_92 (x := a) rfl ?_
            refine r_iconst (pc := 93) d_Md_lowest_93 (v := 0) (by decide) ?_
            refine r_iload (pc := 94) d_Md_lowest_94 (x := x54) rfl ?_
            refine r_iload_n (pc := 96) d_Md_lowest_96 (x := i2) rfl ?_
            refine r_callV (pc := 97) (k := a) (As := [.int 0, .int x54, .int i2]) (rest := []) (mc' := 0) (ms' := 0) lk_Md_217 in_Md_isTouching se_Md_isTouching sa rfl d_Md_lowest_97 k_Md_isTouching rfl rfl (Nat.le_of_ble_eq_true rfl) (by decide) (by decide) (Sp.mono h ?_)
            rintro rS57 shS57 S57 ⟨qS57, x58, uS57, h⟩
            subst uS57
            rw [qS57]
            refine r_if_eq (pc := 100) d_Md_lowest_100 (tgt := 105) (by decide) (fun c59 => ?_) (fun c59 => ?_)
            · replace h := h.1 c59
              refine r_iinc (pc := 105) d_Md_lowest_105 (hi := by decide) (x := i4) rfl (v := i4 + 1) rfl (ls2 := [.ref a, .int i1, .int i2, .int i3, .int (i4 + 1), .int (S.1 r34 i4.toNatClampNeg), .int x54]) rfl ?_
              refine r_goto (pc := 108) d_Md_lowest_108 (tgt := 21) (by decide) ?_
              exact r_weak (ls2 := [.ref a, .int i1, .int i2, .int i3, .int (i4 + 1), .null, .null]) ⟨Or.inr rfl, Or.inr rfl, Or.inr rfl, Or.inr rfl, Or.inr rfl, Or.inl rfl, Or.inl rfl, trivial⟩ h
            · replace h := h.2 c59
              refine r_iconst (pc := 103) d_Md_lowest_103 (v := (-1)) (by decide) ?_
              exact r_ireturn (pc := 104) d_Md_lowest_104 rfl rfl (Nat.le_refl _) ⟨rfl, _, rfl, h⟩
        · replace h := h.2 c55
          refine r_iload (pc := 78) d_Md_lowest_78 (x := x54) rfl ?_
          refine r_iload_n (pc := 80) d_Md_lowest_80 (x := i2) rfl ?_
          refine r_icmp_ne (pc := 81) d_Md_lowest_81 (tgt := 87) (by decide) (fun c60 => ?_) (fun c60 => ?_)
          · replace h := h.1 c60
            refine r_iload (pc := 87) d_Md_lowest_87 (x := (S.1 r34 i4.toNatClampNeg)) rfl ?_
            refine r_if_eq (pc := 89) d_Md_lowest_89 (tgt := 105) (by decide) (fun c61 => ?_) (fun c61 => ?_)
            · replace h := h.1 c61
              refine r_iinc (pc := 105) d_Md_lowest_105 (hi := by decide) (x := i4) rfl (v := i4 + 1) rfl (ls2 := [.ref a, .int i1, .int i2, .int i3, .int (i4 + 1), .int (S.1 r34 i4.toNatClampNeg), .int x54]) rfl ?_
              refine r_goto (pc := 108) d_Md_lowest_108 (tgt := 21) (by decide) ?_
              exact r_weak (ls2 := [.ref a, .int i1, .int i2, .int i3, .int (i4 + 1), .null, .null]) ⟨Or.inr rfl, Or.inr rfl, Or.inr rfl, Or.inr rfl, Or.inr rfl, Or.inl rfl, Or.inl rfl, trivial⟩ h
            · replace h := h.2 c61
              refine r_aload_n (pc := 92) d_Md_lowest_92 (x := a) rfl ?_
              refine r_iconst (pc := 93) d_Md_lowest_93 (v := 0) (by decide) ?_
              refine r_iload (pc := 94) d_Md_lowest_94 (x := x54) rfl ?_
              refine r_iload_n (pc := 96) d_Md_lowest_96 (x := i2) rfl ?_
              refine r_callV (pc := 97) (k := a) (As := [.int 0, .int x54, .int i2]) (rest := []) (mc' := 0) (ms' := 0) lk_Md_217 in_Md_isTouching se_Md_isTouching sa rfl d_Md_lowest_97 k_Md_isTouching rfl rfl (Nat.le_of_ble_eq_true rfl) (by decide) (by decide) (Sp.mono h ?_)
              rintro rS62 shS62 S62 ⟨qS62, x63, uS62, h⟩
              subst uS62
              rw [qS62]
              refine r_if_eq (pc := 100) d_Md_lowest_100 (tgt := 105) (by decide) (fun c64 => ?_) (fun c64 => ?_)
              · replace h := h.1 c64
                refine r_iinc (pc := 105) d_Md_lowest_105 (hi := by decide) (x := i4) rfl (v := i4 + 1) rfl (ls2 := [.ref a, .int i1, .int i2, .int i3, .int (i4 + 1), .int (S.1 r34 i4.toNatClampNeg), .int x54]) rfl ?_
                refine r_goto (pc := 108) d_Md_lowest_108 (tgt := 21) (by decide) ?_
                exact r_weak (ls2 := [.ref a, .int i1, .int i2, .int i3, .int (i4 + 1), .null, .null]) ⟨Or.inr rfl, Or.inr rfl, Or.inr rfl, Or.inr rfl, Or.inr rfl, Or.inl rfl, Or.inl rfl, trivial⟩ h
              · replace h := h.2 c64
                refine r_iconst (pc := 103) d_Md_lowest_103 (v := (-1)) (by decide) ?_
                exact r_ireturn (pc := 104) d_Md_lowest_104 rfl rfl (Nat.le_refl _) ⟨rfl, _, rfl, h⟩
          · replace h := h.2 c60
            refine r_iload (pc := 84) d_Md_lowest_84 (x := i4) rfl ?_
            exact r_ireturn (pc := 86) d_Md_lowest_86 rfl rfl (Nat.le_refl _) ⟨rfl, _, rfl, h⟩
set_option maxRecDepth 4000 in
theorem e_Md_apart {l : Launch} {d : Nat} {sh : aw_SH} {S : aw_S} {P : Int32 → aw_S → Prop} {a : Nat} {p0 : Int32} {p1 : Int32} (sa : sh[a]? = some (0, 11)) (h : Sp l m_Md_wrongDance d 0 0 [.ref a, .int p0, .int p1] sh S (gI sh (fun x2 S1 => ((x2 ≤ 0 → Sp l m_Md_laysDance d 0 0 [.ref a, .int p0, .int p1, .int (-1)] sh S1 (gV sh (fun S4 => Sp l m_Md_apartNow d 0 0 [.ref a] sh S4 (gI sh (fun x6 S5 => Sp l m_Md_gives d 0 0 [.ref a, .int x6] sh S5 (gI sh (fun x8 S7 => P x8 S7))))))) ∧ (¬ x2 ≤ 0 → Sp l m_Md_refuse d 0 0 [.ref a, .int x2] sh S1 (gI sh (fun x10 S9 => P x10 S9))))))) : Sp l m_Md_apart (d + 1) 0 0 [.ref a, .int p0, .int p1] sh S (gI sh P) := by
  refine Sp.of k_Md_apart (ls := [.ref a, .int p0, .int p1, .null]) rfl (Nat.le_of_ble_eq_true rfl) ?_
  refine r_aload_n (pc := 0) d_Md_apart_0 (x := a) rfl ?_
  refine r_iload_n (pc := 1) d_Md_apart_1 (x := p0) rfl ?_
  refine r_iload_n (pc := 2) d_Md_apart_2 (x := p1) rfl ?_
  refine r_callV (pc := 3) (k := a) (As := [.int p0, .int p1]) (rest := []) (mc' := 0) (ms' := 0) lk_Md_420 in_Md_wrongDance se_Md_wrongDance sa rfl d_Md_apart_3 k_Md_wrongDance rfl rfl (Nat.le_of_ble_eq_true rfl) (by decide) (by decide) (Sp.mono h ?_)
  rintro rS1 shS1 S1 ⟨qS1, x2, uS1, h⟩
  subst uS1
  rw [qS1]
  refine r_istore_n (pc := 6) (hk := rfl) (hd := d_Md_apart_6) (hi := by decide) (ls2 := [.ref a, .int p0, .int p1, .int x2]) (h2 := rfl) ?_
  refine r_iload_n (pc := 7) d_Md_apart_7 (x := x2) rfl ?_
  refine r_if_le (pc := 8) d_Md_apart_8 (tgt := 17) (by decide) (fun c3 => ?_) (fun c3 => ?_)
  · replace h := h.1 c3
    refine r_aload_n (pc := 17) d_Md_apart_17 (x := a) rfl ?_
    refine r_iload_n (pc := 18) d_Md_apart_18 (x := p0) rfl ?_
    refine r_iload_n (pc := 19) d_Md_apart_19 (x := p1) rfl ?_
    refine r_iconst (pc := 20) d_Md_apart_20 (v := (-1)) (by decide) ?_
    refine r_callV (pc := 21) (k := a) (As := [.int p0, .int p1, .int (-1)]) (rest := []) (mc' := 0) (ms' := 0) lk_Md_423 in_Md_laysDance se_Md_laysDance sa rfl d_Md_apart_21 k_Md_laysDance rfl rfl (Nat.le_of_ble_eq_true rfl) (by decide) (by decide) (Sp.mono h ?_)
    rintro rS4 shS4 S4 ⟨qS4, uS4, h⟩
    subst uS4
    rw [qS4]
    refine r_aload_n (pc := 24) d_Md_apart_24 (x := a) rfl ?_
    refine r_aload_n (pc := 25) d_Md_apart_25 (x := a) rfl ?_
    refine r_callV (pc := 26) (k := a) (As := []) (rest := [.ref a]) (mc' := 0) (ms' := 0) lk_Md_427 in_Md_apartNow se_Md_apartNow sa rfl d_Md_apart_26 k_Md_apartNow rfl rfl (Nat.le_of_ble_eq_true rfl) (by decide) (by decide) (Sp.mono h ?_)
    rintro rS5 shS5 S5 ⟨qS5, x6, uS5, h⟩
    subst uS5
    rw [qS5]
    refine r_callV (pc := 29) (k := a) (As := [.int x6]) (rest := []) (mc' := 0) (ms' := 0) lk_Md_122 in_Md_gives se_Md_gives sa rfl d_Md_apart_29 k_Md_gives rfl rfl (Nat.le_of_ble_eq_true rfl) (by decide) (by decide) (Sp.mono h ?_)
    rintro rS7 shS7 S7 ⟨qS7, x8, uS7, h⟩
    subst uS7
    rw [qS7]
    exact r_ireturn (pc := 32) d_Md_apart_32 rfl rfl (Nat.le_refl _) ⟨rfl, _, rfl, h⟩
  · replace h := h.2 c3
    refine r_aload_n (pc := 11) d_Md_apart_11 (x := a) rfl ?_
    refine r_iload_n (pc := 12) d_Md_apart_12 (x := x2) rfl ?_
    refine r_callV (pc := 13) (k := a) (As := [.int x2]) (rest := []) (mc' := 0) (ms' := 0) lk_Md_118 in_Md_refuse se_Md_refuse sa rfl d_Md_apart_13 k_Md_refuse rfl rfl (Nat.le_of_ble_eq_true rfl) (by decide) (by decide) (Sp.mono h ?_)
    rintro rS9 shS9 S9 ⟨qS9, x10, uS9, h⟩
    subst uS9
    rw [qS9]
    exact r_ireturn (pc := 16) d_Md_apart_16 rfl rfl (Nat.le_refl _) ⟨rfl, _, rfl, h⟩
set_option maxRecDepth 4000 in
theorem e_Md_slips {l : Launch} {d : Nat} {sh : aw_SH} {S : aw_S} {P : Int32 → aw_S → Prop} {a : Nat} {p0 : Int32} {p1 : Int32} (sa : sh[a]? = some (0, 11)) (h : Sp l m_Md_wrongDance d 0 0 [.ref a, .int p0, .int p1] sh S (gI sh (fun x2 S1 => ((x2 ≤ 0 → Sp l m_Md_slipOf d 0 0 [.ref a, .int p0, .int p1, .int (-1)] sh S1 (gI sh (fun x5 S4 => Sp l m_Md_gives d 0 0 [.ref a, .int x5] sh S4 (gI sh (fun x7 S6 => P x7 S6))))) ∧ (¬ x2 ≤ 0 → Sp l m_Md_refuse d 0 0 [.ref a, .int x2] sh S1 (gI sh (fun x9 S8 => P x9 S8))))))) : Sp l m_Md_slips (d + 1) 0 0 [.ref a, .int p0, .int p1] sh S (gI sh P) := by
  refine Sp.of k_Md_slips (ls := [.ref a, .int p0, .int p1, .null]) rfl (Nat.le_of_ble_eq_true rfl) ?_
  refine r_aload_n (pc := 0) d_Md_slips_0 (x := a) rfl ?_
  refine r_iload_n (pc := 1) d_Md_slips_1 (x := p0) rfl ?_
  refine r_iload_n (pc := 2) d_Md_slips_2 (x := p1) rfl ?_
  refine r_callV (pc := 3) (k := a) (As := [.int p0, .int p1]) (rest := []) (mc' := 0) (ms' := 0) lk_Md_420 in_Md_wrongDance se_Md_wrongDance sa rfl d_Md_slips_3 k_Md_wrongDance rfl rfl (Nat.le_of_ble_eq_true rfl) (by decide) (by decide) (Sp.mono h ?_)
  rintro rS1 shS1 S1 ⟨qS1, x2, uS1, h⟩
  subst uS1
  rw [qS1]
  refine r_istore_n (pc := 6) (hk := rfl) (hd := d_Md_slips_6) (hi := by decide) (ls2 := [.ref a, .int p0, .int p1, .int x2]) (h2 := rfl) ?_
  refine r_iload_n (pc := 7) d_Md_slips_7 (x := x2) rfl ?_
  refine r_if_le (pc := 8) d_Md_slips_8 (tgt := 19) (by decide) (fun c3 => ?_) (fun c3 => ?_)
  · replace h := h.1 c3
    refine r_aload_n (pc := 19) d_Md_slips_19 (x := a) rfl ?_
    refine r_aload_n (pc := 20) d_Md_slips_20 (x := a) rfl ?_
    refine r_iload_n (pc := 21) d_Md_slips_21 (x := p0) rfl ?_
    refine r_iload_n (pc := 22) d_Md_slips_22 (x := p1) rfl ?_
    refine r_iconst (pc := 23) d_Md_slips_23 (v := (-1)) (by decide) ?_
    refine r_callV (pc := 24) (k := a) (As := [.int p0, .int p1, .int (-1)]) (rest := [.ref a]) (mc' := 0) (ms' := 0) lk_Md_430 in_Md_slipOf se_Md_slipOf sa rfl d_Md_slips_24 k_Md_slipOf rfl rfl (Nat.le_of_ble_eq_true rfl) (by decide) (by decide) (Sp.mono h ?_)
    rintro rS4 shS4 S4 ⟨qS4, x5, uS4, h⟩
    subst uS4
    rw [qS4]
    refine r_callV (pc := 27) (k := a) (As := [.int x5]) (rest := []) (mc' := 0) (ms' := 0) lk_Md_122 in_Md_gives se_Md_gives sa rfl d_Md_slips_27 k_Md_gives rfl rfl (Nat.le_of_ble_eq_true rfl) (by decide) (by decide) (Sp.mono h ?_)
    rintro rS6 shS6 S6 ⟨qS6, x7, uS6, h⟩
    subst uS6
    rw [qS6]
    exact r_ireturn (pc := 30) d_Md_slips_30 rfl rfl (Nat.le_refl _) ⟨rfl, _, rfl, h⟩
  · replace h := h.2 c3
    refine r_aload_n (pc := 11) d_Md_slips_11 (x := a) rfl ?_
    refine r_iload_n (pc := 12) d_Md_slips_12 (x := x2) rfl ?_
    refine r_callV (pc := 13) (k := a) (As := [.int x2]) (rest := []) (mc' := 0) (ms' := 0) lk_Md_118 in_Md_refuse se_Md_refuse sa rfl d_Md_slips_13 k_Md_refuse rfl rfl (Nat.le_of_ble_eq_true rfl) (by decide) (by decide) (Sp.mono h ?_)
    rintro rS8 shS8 S8 ⟨qS8, x9, uS8, h⟩
    subst uS8
    rw [qS8]
    refine r_goto (pc := 16) d_Md_slips_16 (tgt := 30) (by decide) ?_
    exact r_ireturn (pc := 30) d_Md_slips_30 rfl rfl (Nat.le_refl _) ⟨rfl, _, rfl, h⟩
set_option maxRecDepth 4000 in
theorem e_Md_slipOf {l : Launch} {d : Nat} {sh : aw_SH} {S : aw_S} {P : Int32 → aw_S → Prop} {a : Nat} {p0 : Int32} {p1 : Int32} {p2 : Int32} (sa : sh[a]? = some (0, 11)) (h : AW l m_Md_slipOf (d + 1) 0 0 (gI sh P) 0 0 6 [.ref a, .int p0, .int p1, .int p2, .int 0, .int 0] [] sh S) : Sp l m_Md_slipOf (d + 1) 0 0 [.ref a, .int p0, .int p1, .int p2] sh S (gI sh P) := by
  refine Sp.of k_Md_slipOf (ls := [.ref a, .int p0, .int p1, .int p2, .null, .null]) rfl (Nat.le_of_ble_eq_true rfl) ?_
  refine r_iconst (pc := 0) d_Md_slipOf_0 (v := 0) (by decide) ?_
  refine r_istore (pc := 1) (hd := d_Md_slipOf_1) (hi := by decide) (ls2 := [.ref a, .int p0, .int p1, .int p2, .int 0, .null]) (h2 := rfl) ?_
  refine r_iconst (pc := 3) d_Md_slipOf_3 (v := 0) (by decide) ?_
  refine r_istore (pc := 4) (hd := d_Md_slipOf_4) (hi := by decide) (ls2 := [.ref a, .int p0, .int p1, .int p2, .int 0, .int 0]) (h2 := rfl) ?_
  exact h
set_option maxRecDepth 4000 in
theorem s_Md_slipOf_6 {l : Launch} {d : Nat} {sh : aw_SH} {S : aw_S} {P : Int32 → aw_S → Prop} {a : Nat} {i1 : Int32} {i2 : Int32} {i3 : Int32} {i4 : Int32} {i5 : Int32} (sa : sh[a]? = some (0, 11)) (h : ((i2 ≤ i5 → ((0 ≤ i3 → P (-1) S) ∧ (¬ 0 ≤ i3 → P i4 S))) ∧ (¬ i2 ≤ i5 → Sp l m_Md_laysDance d 0 0 [.ref a, .int i1, .int i2, .int i5] sh S (gV sh (fun S3 => Sp l m_Md_apartNow d 0 0 [.ref a] sh S3 (gI sh (fun x5 S4 => ((x5 ≤ 0 → ((¬ i4 = i3 → AW l m_Md_slipOf (d + 1) 0 0 (gI sh P) 0 0 6 [.ref a, .int i1, .int i2, .int i3, .int (i4 + 1), .int (i5 + 1)] [] sh S4) ∧ (i4 = i3 → P i5 S4))) ∧ (¬ x5 ≤ 0 → AW l m_Md_slipOf (d + 1) 0 0 (gI sh P) 0 0 6 [.ref a, .int i1, .int i2, .int i3, .int i4, .int (i5 + 1)] [] sh S4))))))))) : AW l m_Md_slipOf (d + 1) 0 0 (gI sh P) 0 0 6 [.ref a, .int i1, .int i2, .int i3, .int i4, .int i5] [] sh S := by
  refine r_iload (pc := 6) d_Md_slipOf_6 (x := i5) rfl ?_
  refine r_iload_n (pc := 8) d_Md_slipOf_8 (x := i2) rfl ?_
  refine r_icmp_ge (pc := 9) d_Md_slipOf_9 (tgt := 48) (by decide) (fun c1 => ?_) (fun c1 => ?_)
  · replace h := h.1 c1
    refine r_iload_n (pc := 48) d_Md_slipOf_48 (x := i3) rfl ?_
    refine r_if_ge (pc := 49) d_Md_slipOf_49 (tgt := 57) (by decide) (fun c2 => ?_) (fun c2 => ?_)
    · replace h := h.1 c2
      refine r_iconst (pc := 57) d_Md_slipOf_57 (v := (-1)) (by decide) ?_
      exact r_ireturn (pc := 58) d_Md_slipOf_58 rfl rfl (Nat.le_refl _) ⟨rfl, _, rfl, h⟩
    · replace h := h.2 c2
      refine r_iload (pc := 52) d_Md_slipOf_52 (x := i4) rfl ?_
      refine r_goto (pc := 54) d_Md_slipOf_54 (tgt := 58) (by decide) ?_
      exact r_ireturn (pc := 58) d_Md_slipOf_58 rfl rfl (Nat.le_refl _) ⟨rfl, _, rfl, h⟩
  · replace h := h.2 c1
    refine r_aload_n (pc := 12) d_Md_slipOf_12 (x := a) rfl ?_
    refine r_iload_n (pc := 13) d_Md_slipOf_13 (x := i1) rfl ?_
    refine r_iload_n (pc := 14) d_Md_slipOf_14 (x := i2) rfl ?_
    refine r_iload (pc := 15) d_Md_slipOf_15 (x := i5) rfl ?_
    refine r_callV (pc := 17) (k := a) (As := [.int i1, .int i2, .int i5]) (rest := []) (mc' := 0) (ms' := 0) lk_Md_423 in_Md_laysDance se_Md_laysDance sa rfl d_Md_slipOf_17 k_Md_laysDance rfl rfl (Nat.le_of_ble_eq_true rfl) (by decide) (by decide) (Sp.mono h ?_)
    rintro rS3 shS3 S3 ⟨qS3, uS3, h⟩
    subst uS3
    rw [qS3]
    refine r_aload_n (pc := 20) d_Md_slipOf_20 (x := a) rfl ?_
    refine r_callV (pc := 21) (k := a) (As := []) (rest := []) (mc' := 0) (ms' := 0) lk_Md_427 in_Md_apartNow se_Md_apartNow sa rfl d_Md_slipOf_21 k_Md_apartNow rfl rfl (Nat.le_of_ble_eq_true rfl) (by decide) (by decide) (Sp.mono h ?_)
    rintro rS4 shS4 S4 ⟨qS4, x5, uS4, h⟩
    subst uS4
    rw [qS4]
    refine r_if_le (pc := 24) d_Md_slipOf_24 (tgt := 30) (by decide) (fun c6 => ?_) (fun c6 => ?_)
    · replace h := h.1 c6
      refine r_iload (pc := 30) d_Md_slipOf_30 (x := i4) rfl ?_
      refine r_iload_n (pc := 32) d_Md_slipOf_32 (x := i3) rfl ?_
      refine r_icmp_ne (pc := 33) d_Md_slipOf_33 (tgt := 39) (by decide) (fun c7 => ?_) (fun c7 => ?_)
      · replace h := h.1 c7
        refine r_iinc (pc := 39) d_Md_slipOf_39 (hi := by decide) (x := i4) rfl (v := i4 + 1) rfl (ls2 := [.ref a, .int i1, .int i2, .int i3, .int (i4 + 1), .int i5]) rfl ?_
        refine r_iinc (pc := 42) d_Md_slipOf_42 (hi := by decide) (x := i5) rfl (v := i5 + 1) rfl (ls2 := [.ref a, .int i1, .int i2, .int i3, .int (i4 + 1), .int (i5 + 1)]) rfl ?_
        refine r_goto (pc := 45) d_Md_slipOf_45 (tgt := 6) (by decide) ?_
        exact h
      · replace h := h.2 c7
        refine r_iload (pc := 36) d_Md_slipOf_36 (x := i5) rfl ?_
        exact r_ireturn (pc := 38) d_Md_slipOf_38 rfl rfl (Nat.le_refl _) ⟨rfl, _, rfl, h⟩
    · replace h := h.2 c6
      refine r_goto (pc := 27) d_Md_slipOf_27 (tgt := 42) (by decide) ?_
      refine r_iinc (pc := 42) d_Md_slipOf_42 (hi := by decide) (x := i5) rfl (v := i5 + 1) rfl (ls2 := [.ref a, .int i1, .int i2, .int i3, .int i4, .int (i5 + 1)]) rfl ?_
      refine r_goto (pc := 45) d_Md_slipOf_45 (tgt := 6) (by decide) ?_
      exact h
