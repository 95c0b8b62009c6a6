set_option maxRecDepth 4000 in
theorem e_Ar_fill_AJJV {l : Launch} {d : Nat} {sh : aw_SH} {S : aw_S} {P : aw_S → Prop} {p0 : Nat} {p1 : Int64} (h : ∃ n2, sh[p0]? = some (4, n2) ∧ AW l m_Ar_fill_AJJV (d + 1) 0 0 (gV sh P) 0 0 6 [.ref p0, .long p1, .null, .int 0, .int (nI n2)] [] sh S) : Sp l m_Ar_fill_AJJV (d + 1) 0 0 [.ref p0, .long p1] sh S (gV sh P) := by
  refine Sp.of k_Ar_fill_AJJV (ls := [.ref p0, .long p1, .null, .null, .null]) rfl (Nat.le_of_ble_eq_true rfl) ?_
  refine r_iconst (pc := 0) d_Ar_fill_AJJV_0 (v := 0) (by decide) ?_
  refine r_istore_n (pc := 1) (hk := rfl) (hd := d_Ar_fill_AJJV_1) (hi := by decide) (ls2 := [.ref p0, .long p1, .null, .int 0, .null]) (h2 := rfl) ?_
  refine r_aload_n (pc := 2) d_Ar_fill_AJJV_2 (x := p0) rfl ?_
  obtain ⟨n2, s1, h⟩ := h
  refine r_alen (pc := 3) d_Ar_fill_AJJV_3 (t := 3) s1 (by decide) ?_
  refine r_istore (pc := 4) (hd := d_Ar_fill_AJJV_4) (hi := by decide) (ls2 := [.ref p0, .long p1, .null, .int 0, .int (nI n2)]) (h2 := rfl) ?_
  exact h
set_option maxRecDepth 4000 in
theorem s_Ar_fill_AJJV_6 {l : Launch} {d : Nat} {sh : aw_SH} {S : aw_S} {P : aw_S → Prop} {i0 : Nat} {i1 : Int64} {i3 : Int32} {i4 : Int32} (h : ((i4 ≤ i3 → P S) ∧ (¬ i4 ≤ i3 → ∃ n3, sh[i0]? = some (4, n3) ∧ vp_in i3 n3 ∧ AW l m_Ar_fill_AJJV (d + 1) 0 0 (gV sh P) 0 0 6 [.ref i0, .long i1, .null, .int (i3 + 1), .int i4] [] sh (aw_uL S i0 i3.toNatClampNeg i1)))) : AW l m_Ar_fill_AJJV (d + 1) 0 0 (gV sh P) 0 0 6 [.ref i0, .long i1, .null, .int i3, .int i4] [] sh S := by
  refine r_iload_n (pc := 6) d_Ar_fill_AJJV_6 (x := i3) rfl ?_
  refine r_iload (pc := 7) d_Ar_fill_AJJV_7 (x := i4) rfl ?_
  refine r_icmp_ge (pc := 9) d_Ar_fill_AJJV_9 (tgt := 22) (by decide) (fun c1 => ?_) (fun c1 => ?_)
  · replace h := h.1 c1
    exact r_return (pc := 22) d_Ar_fill_AJJV_22 rfl rfl (Nat.le_refl _) ⟨rfl, rfl, h⟩
  · replace h := h.2 c1
    refine r_aload_n (pc := 12) d_Ar_fill_AJJV_12 (x := i0) rfl ?_
    refine r_iload_n (pc := 13) d_Ar_fill_AJJV_13 (x := i3) rfl ?_
    refine r_lload_n (pc := 14) d_Ar_fill_AJJV_14 (x := i1) rfl ?_
    obtain ⟨n3, s2, h⟩ := h
    obtain ⟨g4, h⟩ := h
    refine r_last (pc := 15) d_Ar_fill_AJJV_15 s2 g4 ?_
    refine r_iinc (pc := 16) d_Ar_fill_AJJV_16 (hi := by decide) (x := i3) rfl (v := i3 + 1) rfl (ls2 := [.ref i0, .long i1, .null, .int (i3 + 1), .int i4]) rfl ?_
    refine r_goto (pc := 19) d_Ar_fill_AJJV_19 (tgt := 6) (by decide) ?_
    exact h
set_option maxRecDepth 4000 in
theorem e_Ar_fill_AIIV {l : Launch} {d : Nat} {sh : aw_SH} {S : aw_S} {P : aw_S → Prop} {p0 : Nat} {p1 : Int32} (h : ∃ n2, sh[p0]? = some (3, n2) ∧ AW l m_Ar_fill_AIIV (d + 1) 0 0 (gV sh P) 0 0 5 [.ref p0, .int p1, .int 0, .int (nI n2)] [] sh S) : Sp l m_Ar_fill_AIIV (d + 1) 0 0 [.ref p0, .int p1] sh S (gV sh P) := by
  refine Sp.of k_Ar_fill_AIIV (ls := [.ref p0, .int p1, .null, .null]) rfl (Nat.le_of_ble_eq_true rfl) ?_
  refine r_iconst (pc := 0) d_Ar_fill_AIIV_0 (v := 0) (by decide) ?_
  refine r_istore_n (pc := 1) (hk := rfl) (hd := d_Ar_fill_AIIV_1) (hi := by decide) (ls2 := [.ref p0, .int p1, .int 0, .null]) (h2 := rfl) ?_
  refine r_aload_n (pc := 2) d_Ar_fill_AIIV_2 (x := p0) rfl ?_
  obtain ⟨n2, s1, h⟩ := h
  refine r_alen (pc := 3) d_Ar_fill_AIIV_3 (t := 2) s1 (by decide) ?_
  refine r_istore_n (pc := 4) (hk := rfl) (hd := d_Ar_fill_AIIV_4) (hi := by decide) (ls2 := [.ref p0, .int p1, .int 0, .int (nI n2)]) (h2 := rfl) ?_
  exact h
set_option maxRecDepth 4000 in
theorem s_Ar_fill_AIIV_5 {l : Launch} {d : Nat} {sh : aw_SH} {S : aw_S} {P : aw_S → Prop} {i0 : Nat} {i1 : Int32} {i2 : Int32} {i3 : Int32} (h : ((i3 ≤ i2 → P S) ∧ (¬ i3 ≤ i2 → ∃ n3, sh[i0]? = some (3, n3) ∧ vp_in i2 n3 ∧ AW l m_Ar_fill_AIIV (d + 1) 0 0 (gV sh P) 0 0 5 [.ref i0, .int i1, .int (i2 + 1), .int i3] [] sh (aw_uI S i0 i2.toNatClampNeg i1)))) : AW l m_Ar_fill_AIIV (d + 1) 0 0 (gV sh P) 0 0 5 [.ref i0, .int i1, .int i2, .int i3] [] sh S := by
  refine r_iload_n (pc := 5) d_Ar_fill_AIIV_5 (x := i2) rfl ?_
  refine r_iload_n (pc := 6) d_Ar_fill_AIIV_6 (x := i3) rfl ?_
  refine r_icmp_ge (pc := 7) d_Ar_fill_AIIV_7 (tgt := 20) (by decide) (fun c1 => ?_) (fun c1 => ?_)
  · replace h := h.1 c1
    exact r_return (pc := 20) d_Ar_fill_AIIV_20 rfl rfl (Nat.le_refl _) ⟨rfl, rfl, h⟩
  · replace h := h.2 c1
    refine r_aload_n (pc := 10) d_Ar_fill_AIIV_10 (x := i0) rfl ?_
    refine r_iload_n (pc := 11) d_Ar_fill_AIIV_11 (x := i2) rfl ?_
    refine r_iload_n (pc := 12) d_Ar_fill_AIIV_12 (x := i1) rfl ?_
    obtain ⟨n3, s2, h⟩ := h
    obtain ⟨g4, h⟩ := h
    refine r_iast (pc := 13) d_Ar_fill_AIIV_13 s2 g4 ?_
    refine r_iinc (pc := 14) d_Ar_fill_AIIV_14 (hi := by decide) (x := i2) rfl (v := i2 + 1) rfl (ls2 := [.ref i0, .int i1, .int (i2 + 1), .int i3]) rfl ?_
    refine r_goto (pc := 17) d_Ar_fill_AIIV_17 (tgt := 5) (by decide) ?_
    exact h
set_option maxRecDepth 4000 in
theorem e_Ma_max {l : Launch} {d : Nat} {sh : aw_SH} {S : aw_S} {P : Int32 → aw_S → Prop} {p0 : Int32} {p1 : Int32} (h : ((p0 < p1 → P p1 S) ∧ (¬ p0 < p1 → P p0 S))) : Sp l m_Ma_max (d + 1) 0 0 [.int p0, .int p1] sh S (gI sh P) := by
  refine Sp.of k_Ma_max (ls := [.int p0, .int p1]) rfl (Nat.le_of_ble_eq_true rfl) ?_
  refine r_iload_n (pc := 0) d_Ma_max_0 (x := p0) rfl ?_
  refine r_iload_n (pc := 1) d_Ma_max_1 (x := p1) rfl ?_
  refine r_icmp_lt (pc := 2) d_Ma_max_2 (tgt := 9) (by decide) (fun c1 => ?_) (fun c1 => ?_)
  · replace h := h.1 c1
    refine r_iload_n (pc := 9) d_Ma_max_9 (x := p1) rfl ?_
    exact r_ireturn (pc := 10) d_Ma_max_10 rfl rfl (Nat.le_refl _) ⟨rfl, _, rfl, h⟩
  · replace h := h.2 c1
    refine r_iload_n (pc := 5) d_Ma_max_5 (x := p0) rfl ?_
    refine r_goto (pc := 6) d_Ma_max_6 (tgt := 10) (by decide) ?_
    exact r_ireturn (pc := 10) d_Ma_max_10 rfl rfl (Nat.le_refl _) ⟨rfl, _, rfl, h⟩
set_option maxRecDepth 4000 in
theorem e_In_bitCount {l : Launch} {d : Nat} {sh : aw_SH} {S : aw_S} {P : Int32 → aw_S → Prop} {p0 : Int32} (h : ∀ v1 : Int32, v1 = p0 - (((p0.toUInt32 >>> (((1) : Int32).toUInt32 &&& Int32.toUInt32 31)).toInt32) &&& (1431655765 : Int32)) → ∀ v2 : Int32, v2 = (v1 &&& (858993459 : Int32)) + (((v1.toUInt32 >>> (((2) : Int32).toUInt32 &&& Int32.toUInt32 31)).toInt32) &&& (858993459 : Int32)) → ∀ v3 : Int32, v3 = (v2 + ((v2.toUInt32 >>> (((4) : Int32).toUInt32 &&& Int32.toUInt32 31)).toInt32)) &&& (252645135 : Int32) → ∀ v4 : Int32, v4 = v3 + ((v3.toUInt32 >>> (((8) : Int32).toUInt32 &&& Int32.toUInt32 31)).toInt32) → ∀ v5 : Int32, v5 = v4 + ((v4.toUInt32 >>> (((16) : Int32).toUInt32 &&& Int32.toUInt32 31)).toInt32) → P (v5 &&& (63 : Int32)) S) : Sp l m_In_bitCount (d + 1) 0 0 [.int p0] sh S (gI sh P) := by
  refine Sp.of k_In_bitCount (ls := [.int p0]) rfl (Nat.le_of_ble_eq_true rfl) ?_
  refine r_iload_n (pc := 0) d_In_bitCount_0 (x := p0) rfl ?_
  refine r_iload_n (pc := 1) d_In_bitCount_1 (x := p0) rfl ?_
  refine r_iconst (pc := 2) d_In_bitCount_2 (v := 1) (by decide) ?_
  refine r_iushr (pc := 3) d_In_bitCount_3 ?_
  refine r_ldcw (pc := 4) d_In_bitCount_4 cc_In_265 ?_
  refine r_iand (pc := 7) d_In_bitCount_7 ?_
  refine r_isub (pc := 8) d_In_bitCount_8 ?_
  refine r_ni (fun v1 ev1 => ?_)
  replace h := h v1 ev1
  refine r_istore_n (pc := 9) (hk := rfl) (hd := d_In_bitCount_9) (hi := by decide) (ls2 := [.int v1]) (h2 := rfl) ?_
  refine r_iload_n (pc := 10) d_In_bitCount_10 (x := v1) rfl ?_
  refine r_ldcw (pc := 11) d_In_bitCount_11 cc_In_266 ?_
  refine r_iand (pc := 14) d_In_bitCount_14 ?_
  refine r_iload_n (pc := 15) d_In_bitCount_15 (x := v1) rfl ?_
  refine r_iconst (pc := 16) d_In_bitCount_16 (v := 2) (by decide) ?_
  refine r_iushr (pc := 17) d_In_bitCount_17 ?_
  refine r_ldcw (pc := 18) d_In_bitCount_18 cc_In_266 ?_
  refine r_iand (pc := 21) d_In_bitCount_21 ?_
  refine r_iadd (pc := 22) d_In_bitCount_22 ?_
  refine r_ni (fun v2 ev2 => ?_)
  replace h := h v2 ev2
  refine r_istore_n (pc := 23) (hk := rfl) (hd := d_In_bitCount_23) (hi := by decide) (ls2 := [.int v2]) (h2 := rfl) ?_
  refine r_iload_n (pc := 24) d_In_bitCount_24 (x := v2) rfl ?_
  refine r_iload_n (pc := 25) d_In_bitCount_25 (x := v2) rfl ?_
  refine r_iconst (pc := 26) d_In_bitCount_26 (v := 4) (by decide) ?_
  refine r_iushr (pc := 27) d_In_bitCount_27 ?_
  refine r_iadd (pc := 28) d_In_bitCount_28 ?_
  refine r_ldcw (pc := 29) d_In_bitCount_29 cc_In_267 ?_
  refine r_iand (pc := 32) d_In_bitCount_32 ?_
  refine r_ni (fun v3 ev3 => ?_)
  replace h := h v3 ev3
  refine r_istore_n (pc := 33) (hk := rfl) (hd := d_In_bitCount_33) (hi := by decide) (ls2 := [.int v3]) (h2 := rfl) ?_
  refine r_iload_n (pc := 34) d_In_bitCount_34 (x := v3) rfl ?_
  refine r_iload_n (pc := 35) d_In_bitCount_35 (x := v3) rfl ?_
  refine r_bipush (pc := 36) d_In_bitCount_36 (v := 8) (by decide) ?_
  refine r_iushr (pc := 38) d_In_bitCount_38 ?_
  refine r_iadd (pc := 39) d_In_bitCount_39 ?_
  refine r_ni (fun v4 ev4 => ?_)
  replace h := h v4 ev4
  refine r_istore_n (pc := 40) (hk := rfl) (hd := d_In_bitCount_40) (hi := by decide) (ls2 := [.int v4]) (h2 := rfl) ?_
  refine r_iload_n (pc := 41) d_In_bitCount_41 (x := v4) rfl ?_
  refine r_iload_n (pc := 42) d_In_bitCount_42 (x := v4) rfl ?_
  refine r_bipush (pc := 43) d_In_bitCount_43 (v := 16) (by decide) ?_
  refine r_iushr (pc := 45) d_In_bitCount_45 ?_
  refine r_iadd (pc := 46) d_In_bitCount_46 ?_
  refine r_ni (fun v5 ev5 => ?_)
  replace h := h v5 ev5
  refine r_istore_n (pc := 47) (hk := rfl) (hd := d_In_bitCount_47) (hi := by decide) (ls2 := [.int v5]) (h2 := rfl) ?_
  refine r_iload_n (pc := 48) d_In_bitCount_48 (x := v5) rfl ?_
  refine r_bipush (pc := 49) d_In_bitCount_49 (v := 63) (by decide) ?_
  refine r_iand (pc := 51) d_In_bitCount_51 ?_
  exact r_ireturn (pc := 52) d_In_bitCount_52 rfl rfl (Nat.le_refl _) ⟨rfl, _, rfl, h⟩
set_option maxRecDepth 4000 in
theorem e_Ma_floorDiv {l : Launch} {d : Nat} {sh : aw_SH} {S : aw_S} {P : Int32 → aw_S → Prop} {p0 : Int32} {p1 : Int32} (h : ¬ p1 = 0 ∧ ((0 ≤ (p0 ^^^ p1) → P (p0 / p1) S) ∧ (¬ 0 ≤ (p0 ^^^ p1) → ((((p0 / p1) * p1) = p0 → P (p0 / p1) S) ∧ (¬ ((p0 / p1) * p1) = p0 → P ((p0 / p1) - (1 : Int32)) S))))) : Sp l m_Ma_floorDiv (d + 1) 0 0 [.int p0, .int p1] sh S (gI sh P) := by
  refine Sp.of k_Ma_floorDiv (ls := [.int p0, .int p1, .null]) rfl (Nat.le_of_ble_eq_true rfl) ?_
  refine r_iload_n (pc := 0) d_Ma_floorDiv_0 (x := p0) rfl ?_
  refine r_iload_n (pc := 1) d_Ma_floorDiv_1 (x := p1) rfl ?_
  obtain ⟨g3, h⟩ := h
  refine r_idiv (pc := 2) d_Ma_floorDiv_2 g3 ?_
  refine r_istore_n (pc := 3) (hk := rfl) (hd := d_Ma_floorDiv_3) (hi := by decide) (ls2 := [.int p0, .int p1, .int (p0 / p1)]) (h2 := rfl) ?_
  refine r_iload_n (pc := 4) d_Ma_floorDiv_4 (x := p0) rfl ?_
  refine r_iload_n (pc := 5) d_Ma_floorDiv_5 (x := p1) rfl ?_
  refine r_ixor (pc := 6) d_Ma_floorDiv_6 ?_
  refine r_if_ge (pc := 7) d_Ma_floorDiv_7 (tgt := 21) (by decide) (fun c1 => ?_) (fun c1 => ?_)
  · replace h := h.1 c1
    refine r_iload_n (pc := 21) d_Ma_floorDiv_21 (x := (p0 / p1)) rfl ?_
    exact r_ireturn (pc := 22) d_Ma_floorDiv_22 rfl rfl (Nat.le_refl _) ⟨rfl, _, rfl, h⟩
  · replace h := h.2 c1
    refine r_iload_n (pc := 10) d_Ma_floorDiv_10 (x := (p0 / p1)) rfl ?_
    refine r_iload_n (pc := 11) d_Ma_floorDiv_11 (x := p1) rfl ?_
    refine r_imul (pc := 12) d_Ma_floorDiv_12 ?_
    refine r_iload_n (pc := 13) d_Ma_floorDiv_13 (x := p0) rfl ?_
    refine r_icmp_eq (pc := 14) d_Ma_floorDiv_14 (tgt := 21) (by decide) (fun c2 => ?_) (fun c2 => ?_)
    · replace h := h.1 c2
      refine r_iload_n (pc := 21) d_Ma_floorDiv_21 (x := (p0 / p1)) rfl ?_
      exact r_ireturn (pc := 22) d_Ma_floorDiv_22 rfl rfl (Nat.le_refl _) ⟨rfl, _, rfl, h⟩
    · replace h := h.2 c2
      refine r_iload_n (pc := 17) d_Ma_floorDiv_17 (x := (p0 / p1)) rfl ?_
      refine r_iconst (pc := 18) d_Ma_floorDiv_18 (v := 1) (by decide) ?_
      refine r_isub (pc := 19) d_Ma_floorDiv_19 ?_
      exact r_ireturn (pc := 20) d_Ma_floorDiv_20 rfl rfl (Nat.le_refl _) ⟨rfl, _, rfl, h⟩
set_option maxRecDepth 4000 in
theorem e_Ma_abs {l : Launch} {d : Nat} {sh : aw_SH} {S : aw_S} {P : Int32 → aw_S → Prop} {p0 : Int32} (h : ((0 ≤ p0 → P p0 S) ∧ (¬ 0 ≤ p0 → P (-p0) S))) : Sp l m_Ma_abs (d + 1) 0 0 [.int p0] sh S (gI sh P) := by
  refine Sp.of k_Ma_abs (ls := [.int p0]) rfl (Nat.le_of_ble_eq_true rfl) ?_
  refine r_iload_n (pc := 0) d_Ma_abs_0 (x := p0) rfl ?_
  refine r_if_ge (pc := 1) d_Ma_abs_1 (tgt := 9) (by decide) (fun c1 => ?_) (fun c1 => ?_)
  · replace h := h.1 c1
    refine r_iload_n (pc := 9) d_Ma_abs_9 (x := p0) rfl ?_
    exact r_ireturn (pc := 10) d_Ma_abs_10 rfl rfl (Nat.le_refl _) ⟨rfl, _, rfl, h⟩
  · replace h := h.2 c1
    refine r_iload_n (pc := 4) d_Ma_abs_4 (x := p0) rfl ?_
    refine r_ineg (pc := 5) d_Ma_abs_5 ?_
    refine r_goto (pc := 6) d_Ma_abs_6 (tgt := 10) (by decide) ?_
    exact r_ireturn (pc := 10) d_Ma_abs_10 rfl rfl (Nat.le_refl _) ⟨rfl, _, rfl, h⟩
set_option maxRecDepth 4000 in
theorem e_Ma_min {l : Launch} {d : Nat} {sh : aw_SH} {S : aw_S} {P : Int32 → aw_S → Prop} {p0 : Int32} {p1 : Int32} (h : ((p1 < p0 → P p1 S) ∧ (¬ p1 < p0 → P p0 S))) : Sp l m_Ma_min (d + 1) 0 0 [.int p0, .int p1] sh S (gI sh P) := by
  refine Sp.of k_Ma_min (ls := [.int p0, .int p1]) rfl (Nat.le_of_ble_eq_true rfl) ?_
  refine r_iload_n (pc := 0) d_Ma_min_0 (x := p0) rfl ?_
  refine r_iload_n (pc := 1) d_Ma_min_1 (x := p1) rfl ?_
  refine r_icmp_gt (pc := 2) d_Ma_min_2 (tgt := 9) (by decide) (fun c1 => ?_) (fun c1 => ?_)
  · replace h := h.1 c1
    refine r_iload_n (pc := 9) d_Ma_min_9 (x := p1) rfl ?_
    exact r_ireturn (pc := 10) d_Ma_min_10 rfl rfl (Nat.le_refl _) ⟨rfl, _, rfl, h⟩
  · replace h := h.2 c1
    refine r_iload_n (pc := 5) d_Ma_min_5 (x := p0) rfl ?_
    refine r_goto (pc := 6) d_Ma_min_6 (tgt := 10) (by decide) ?_
    exact r_ireturn (pc := 10) d_Ma_min_10 rfl rfl (Nat.le_refl _) ⟨rfl, _, rfl, h⟩
