set_option maxRecDepth 4000 in
theorem e_Ho_fewest {l : Launch} {d : Nat} {sh : aw_SH} {S : aw_S} {P : Int32 → aw_S → Prop} {a : Nat} {p0 : Nat} (sa : sh[a]? = some (0, 8)) (h : sh[p0]? = some (0, 2) ∧ ∃ r2, S.2.2 p0 9 = some r2 ∧ ∃ r3, S.2.2 a 0 = some r3 ∧ ∃ n5, sh[r2]? = some (3, n5) ∧ ∃ n7, sh[r3]? = some (3, n7) ∧ ¬ (0 : Int32) < 0 ∧ ¬ (0 : Int32) < 0 ∧ ¬ (7 : Int32) < 0 ∧ (0 : Int32).toNatClampNeg + (7 : Int32).toNatClampNeg ≤ n5 ∧ (0 : Int32).toNatClampNeg + (7 : Int32).toNatClampNeg ≤ n7 ∧ Sp l m_Ho_fewestFrom d 0 0 [.ref a, .int ((aw_cpi S r2 r3 0 0 7).1 p0 0)] sh (aw_cpi S r2 r3 0 0 7) (gI sh (fun x14 S13 => P x14 S13))) : Sp l m_Ho_fewest (d + 1) 0 0 [.ref a, .ref p0] sh S (gI sh P) := by
  refine Sp.of k_Ho_fewest (ls := [.ref a, .ref p0]) rfl (Nat.le_of_ble_eq_true rfl) ?_
  refine r_aload_n (pc := 0) d_Ho_fewest_0 (x := p0) rfl ?_
  obtain ⟨s1, h⟩ := h
  obtain ⟨r2, er2, h⟩ := h
  refine r_getR (pc := 1) d_Ho_fewest_1 f_Ho_18 s1 (Or.inr ⟨_, rfl⟩) (r := r2) er2 ?_
  refine r_iconst (pc := 4) d_Ho_fewest_4 (v := 0) (by decide) ?_
  refine r_aload_n (pc := 5) d_Ho_fewest_5 (x := a) rfl ?_
  obtain ⟨r3, er3, h⟩ := h
  refine r_getR (pc := 6) d_Ho_fewest_6 f_Ho_9 sa (Or.inr ⟨_, rfl⟩) (r := r3) er3 ?_
  refine r_iconst (pc := 9) d_Ho_fewest_9 (v := 0) (by decide) ?_
  refine r_bipush (pc := 10) d_Ho_fewest_10 (v := 7) (by decide) ?_
  obtain ⟨n5, s4, h⟩ := h
  obtain ⟨n7, s6, h⟩ := h
  obtain ⟨g8, g9, g10, g11, g12, h⟩ := h
  refine r_copyi (pc := 12) d_Ho_fewest_12 ck_Ho_21 s4 s6 g8 g9 g10 g11 g12 (Nat.le_of_ble_eq_true rfl) ?_
  refine r_aload_n (pc := 15) d_Ho_fewest_15 (x := a) rfl ?_
  refine r_aload_n (pc := 16) d_Ho_fewest_16 (x := p0) rfl ?_
  refine r_getI (pc := 17) d_Ho_fewest_17 f_Ho_27 s1 rfl ?_
  refine r_callV (pc := 20) (k := a) (As := [.int ((aw_cpi S r2 r3 0 0 7).1 p0 0)]) (rest := []) (mc' := 0) (ms' := 0) lk_Ho_31 in_Ho_fewestFrom se_Ho_fewestFrom sa rfl d_Ho_fewest_20 k_Ho_fewestFrom rfl rfl (Nat.le_of_ble_eq_true rfl) (by decide) (by decide) (Sp.mono h ?_)
  rintro rS13 shS13 S13 ⟨qS13, x14, uS13, h⟩
  subst uS13
  rw [qS13]
  exact r_ireturn (pc := 23) d_Ho_fewest_23 rfl rfl (Nat.le_refl _) ⟨rfl, _, rfl, h⟩
set_option maxRecDepth 4000 in
theorem e_Ho_fewestFrom {l : Launch} {d : Nat} {sh : aw_SH} {S : aw_S} {P : Int32 → aw_S → Prop} {a : Nat} {p0 : Int32} (sa : sh[a]? = some (0, 8)) (h : AW l m_Ho_fewestFrom (d + 1) 0 0 (gI sh P) 0 0 2 [.ref a, .int p0, .int 0, .null, .null, .null, .null] [] sh S) : Sp l m_Ho_fewestFrom (d + 1) 0 0 [.ref a, .int p0] sh S (gI sh P) := by
  refine Sp.of k_Ho_fewestFrom (ls := [.ref a, .int p0, .null, .null, .null, .null, .null]) rfl (Nat.le_of_ble_eq_true rfl) ?_
  refine r_iconst (pc := 0) d_Ho_fewestFrom_0 (v := 0) (by decide) ?_
  refine r_istore_n (pc := 1) (hk := rfl) (hd := d_Ho_fewestFrom_1) (hi := by decide) (ls2 := [.ref a, .int p0, .int 0, .null, .null, .null, .null]) (h2 := rfl) ?_
  exact h
set_option maxRecDepth 4000 in
theorem s_Ho_fewestFrom_2 {l : Launch} {d : Nat} {sh : aw_SH} {S : aw_S} {P : Int32 → aw_S → Prop} {a : Nat} {i1 : Int32} {i2 : Int32} (sa : sh[a]? = some (0, 8)) (h : ((i1 ≤ i2 → AW l m_Ho_fewestFrom (d + 1) 0 0 (gI sh P) 0 0 31 [.ref a, .int i1, .int 1, .int 0, .null, .null, .null] [] sh S) ∧ (¬ i1 ≤ i2 → ∃ r2, S.2.2 a 1 = some r2 ∧ ∃ r3, S.2.2 a 0 = some r3 ∧ ∃ n5, sh[r3]? = some (3, n5) ∧ vp_in i2 n5 ∧ ∃ n8, sh[r2]? = some (3, n8) ∧ vp_in i2 n8 ∧ AW l m_Ho_fewestFrom (d + 1) 0 0 (gI sh P) 0 0 2 [.ref a, .int i1, .int (i2 + 1), .null, .null, .null, .null] [] sh (aw_uI S r2 i2.toNatClampNeg ((S.1 r3 i2.toNatClampNeg) - i2))))) : AW l m_Ho_fewestFrom (d + 1) 0 0 (gI sh P) 0 0 2 [.ref a, .int i1, .int i2, .null, .null, .null, .null] [] sh S := by
  refine r_iload_n (pc := 2) d_Ho_fewestFrom_2 (x := i2) rfl ?_
  refine r_iload_n (pc := 3) d_Ho_fewestFrom_3 (x := i1) rfl ?_
  refine r_icmp_ge (pc := 4) d_Ho_fewestFrom_4 (tgt := 27) (by decide) (fun c1 => ?_) (fun c1 => ?_)
  · replace h := h.1 c1
    refine r_iconst (pc := 27) d_Ho_fewestFrom_27 (v := 1) (by decide) ?_
    refine r_istore_n (pc := 28) (hk := rfl) (hd := d_Ho_fewestFrom_28) (hi := by decide) (ls2 := [.ref a, .int i1, .int 1, .null, .null, .null, .null]) (h2 := rfl) ?_
    refine r_iconst (pc := 29) d_Ho_fewestFrom_29 (v := 0) (by decide) ?_
    refine r_istore_n (pc := 30) (hk := rfl) (hd := d_Ho_fewestFrom_30) (hi := by decide) (ls2 := [.ref a, .int i1, .int 1, .int 0, .null, .null, .null]) (h2 := rfl) ?_
    exact h
  · replace h := h.2 c1
    refine r_aload_n (pc := 7) d_Ho_fewestFrom_7 (x := a) rfl ?_
    obtain ⟨r2, er2, h⟩ := h
    refine r_getR (pc := 8) d_Ho_fewestFrom_8 f_Ho_15 sa (Or.inr ⟨_, rfl⟩) (r := r2) er2 ?_
    refine r_iload_n (pc := 11) d_Ho_fewestFrom_11 (x := i2) rfl ?_
    refine r_aload_n (pc := 12) d_Ho_fewestFrom_12 (x := a) rfl ?_
    obtain ⟨r3, er3, h⟩ := h
    refine r_getR (pc := 13) d_Ho_fewestFrom_13 f_Ho_9 sa (Or.inr ⟨_, rfl⟩) (r := r3) er3 ?_
    refine r_iload_n (pc := 16) d_Ho_fewestFrom_16 (x := i2) rfl ?_
    obtain ⟨n5, s4, h⟩ := h
    obtain ⟨g6, h⟩ := h
    refine r_iald (pc := 17) d_Ho_fewestFrom_17 s4 g6 ?_
    refine r_iload_n (pc := 18) d_Ho_fewestFrom_18 (x := i2) rfl ?_
    refine r_isub (pc := 19) d_Ho_fewestFrom_19 ?_
    obtain ⟨n8, s7, h⟩ := h
    obtain ⟨g9, h⟩ := h
    refine r_iast (pc := 20) d_Ho_fewestFrom_20 s7 g9 ?_
    refine r_iinc (pc := 21) d_Ho_fewestFrom_21 (hi := by decide) (x := i2) rfl (v := i2 + 1) rfl (ls2 := [.ref a, .int i1, .int (i2 + 1), .null, .null, .null, .null]) rfl ?_
    refine r_goto (pc := 24) d_Ho_fewestFrom_24 (tgt := 2) (by decide) ?_
    exact h
set_option maxRecDepth 4000 in
theorem s_Ho_fewestFrom_31 {l : Launch} {d : Nat} {sh : aw_SH} {S : aw_S} {P : Int32 → aw_S → Prop} {a : Nat} {i1 : Int32} {i2 : Int32} {i3 : Int32} (sa : sh[a]? = some (0, 8)) (h : ((7 ≤ i3 → AW l m_Ho_fewestFrom (d + 1) 0 0 (gI sh P) 0 0 58 [.ref a, .int i1, .null, .int 0, .int 0, .null, .null] [] sh S) ∧ (¬ 7 ≤ i3 → ((i2 = 0 → AW l m_Ho_fewestFrom (d + 1) 0 0 (gI sh P) 0 0 58 [.ref a, .int i1, .null, .int 0, .int 0, .null, .null] [] sh S) ∧ (¬ i2 = 0 → Sp l m_Ho_shareWalks d 0 0 [.ref a, .int i1] sh S (gI sh (fun x4 S3 => AW l m_Ho_fewestFrom (d + 1) 0 0 (gI sh P) 0 0 31 [.ref a, .int i1, .int x4, .int (i3 + 1), .null, .null, .null] [] sh S3))))))) : AW l m_Ho_fewestFrom (d + 1) 0 0 (gI sh P) 0 0 31 [.ref a, .int i1, .int i2, .int i3, .null, .null, .null] [] sh S := by
  refine r_iload_n (pc := 31) d_Ho_fewestFrom_31 (x := i3) rfl ?_
  refine r_bipush (pc := 32) d_Ho_fewestFrom_32 (v := 7) (by decide) ?_
  refine r_icmp_ge (pc := 34) d_Ho_fewestFrom_34 (tgt := 53) (by decide) (fun c1 => ?_) (fun c1 => ?_)
  · replace h := h.1 c1
    refine r_iconst (pc := 53) d_Ho_fewestFrom_53 (v := 0) (by decide) ?_
    refine r_istore_n (pc := 54) (hk := rfl) (hd := d_Ho_fewestFrom_54) (hi := by decide) (ls2 := [.ref a, .int i1, .int i2, .int 0, .null, .null, .null]) (h2 := rfl) ?_
    refine r_iconst (pc := 55) d_Ho_fewestFrom_55 (v := 0) (by decide) ?_
    refine r_istore (pc := 56) (hd := d_Ho_fewestFrom_56) (hi := by decide) (ls2 := [.ref a, .int i1, .int i2, .int 0, .int 0, .null, .null]) (h2 := rfl) ?_
    exact r_weak (ls2 := [.ref a, .int i1, .null, .int 0, .int 0, .null, .null]) ⟨Or.inr rfl, Or.inr rfl, Or.inl rfl, Or.inr rfl, Or.inr rfl, Or.inl rfl, Or.inl rfl, trivial⟩ h
  · replace h := h.2 c1
    refine r_iload_n (pc := 37) d_Ho_fewestFrom_37 (x := i2) rfl ?_
    refine r_if_eq (pc := 38) d_Ho_fewestFrom_38 (tgt := 53) (by decide) (fun c2 => ?_) (fun c2 => ?_)
    · replace h := h.1 c2
      refine r_iconst (pc := 53) d_Ho_fewestFrom_53 (v := 0) (by decide) ?_
      refine r_istore_n (pc := 54) (hk := rfl) (hd := d_Ho_fewestFrom_54) (hi := by decide) (ls2 := [.ref a, .int i1, .int i2, .int 0, .null, .null, .null]) (h2 := rfl) ?_
      refine r_iconst (pc := 55) d_Ho_fewestFrom_55 (v := 0) (by decide) ?_
      refine r_istore (pc := 56) (hd := d_Ho_fewestFrom_56) (hi := by decide) (ls2 := [.ref a, .int i1, .int i2, .int 0, .int 0, .null, .null]) (h2 := rfl) ?_
      exact r_weak (ls2 := [.ref a, .int i1, .null, .int 0, .int 0, .null, .null]) ⟨Or.inr rfl, Or.inr rfl, Or.inl rfl, Or.inr rfl, Or.inr rfl, Or.inl rfl, Or.inl rfl, trivial⟩ h
    · replace h := h.2 c2
      refine r_aload_n (pc := 41) d_Ho_fewestFrom_41 (x := a) rfl ?_
      refine r_iload_n (pc := 42) d_Ho_fewestFrom_42 (x := i1) rfl ?_
      refine r_callV (pc := 43) (k := a) (As := [.int i1]) (rest := []) (mc' := 0) (ms' := 0) lk_Ho_54 in_Ho_shareWalks se_Ho_shareWalks sa rfl d_Ho_fewestFrom_43 k_Ho_shareWalks rfl rfl (Nat.le_of_ble_eq_true rfl) (by decide) (by decide) (Sp.mono h ?_)
      rintro rS3 shS3 S3 ⟨qS3, x4, uS3, h⟩
      subst uS3
      rw [qS3]
      refine r_istore_n (pc := 46) (hk := rfl) (hd := d_Ho_fewestFrom_46) (hi := by decide) (ls2 := [.ref a, .int i1, .int x4, .int i3, .null, .null, .null]) (h2 := rfl) ?_
      refine r_iinc (pc := 47) d_Ho_fewestFrom_47 (hi := by decide) (x := i3) rfl (v := i3 + 1) rfl (ls2 := [.ref a, .int i1, .int x4, .int (i3 + 1), .null, .null, .null]) rfl ?_
      refine r_goto (pc := 50) d_Ho_fewestFrom_50 (tgt := 31) (by decide) ?_
      exact h
set_option maxRecDepth 4000 in
theorem s_Ho_fewestFrom_58 {l : Launch} {d : Nat} {sh : aw_SH} {S : aw_S} {P : Int32 → aw_S → Prop} {a : Nat} {i1 : Int32} {i3 : Int32} {i4 : Int32} (sa : sh[a]? = some (0, 8)) (h : ((i1 ≤ i4 → P i3 S) ∧ (¬ i1 ≤ i4 → AW l m_Ho_fewestFrom (d + 1) 0 0 (gI sh P) 0 0 70 [.ref a, .int i1, .null, .int i3, .int i4, .int (i4 + (1 : Int32)), .null] [] sh S))) : AW l m_Ho_fewestFrom (d + 1) 0 0 (gI sh P) 0 0 58 [.ref a, .int i1, .null, .int i3, .int i4, .null, .null] [] sh S := by
  refine r_iload (pc := 58) d_Ho_fewestFrom_58 (x := i4) rfl ?_
  refine r_iload_n (pc := 60) d_Ho_fewestFrom_60 (x := i1) rfl ?_
  refine r_icmp_ge (pc := 61) d_Ho_fewestFrom_61 (tgt := 125) (by decide) (fun c1 => ?_) (fun c1 => ?_)
  · replace h := h.1 c1
    refine r_iload_n (pc := 125) d_Ho_fewestFrom_125 (x := i3) rfl ?_
    exact r_ireturn (pc := 126) d_Ho_fewestFrom_126 rfl rfl (Nat.le_refl _) ⟨rfl, _, rfl, h⟩
  · replace h := h.2 c1
    refine r_iload (pc := 64) d_Ho_fewestFrom_64 (x := i4) rfl ?_
    refine r_iconst (pc := 66) d_Ho_fewestFrom_66 (v := 1) (by decide) ?_
    refine r_iadd (pc := 67) d_Ho_fewestFrom_67 ?_
    refine r_istore (pc := 68) (hd := d_Ho_fewestFrom_68) (hi := by decide) (ls2 := [.ref a, .int i1, .null, .int i3, .int i4, .int (i4 + (1 : Int32)), .null]) (h2 := rfl) ?_
    exact h
set_option maxRecDepth 4000 in
theorem s_Ho_fewestFrom_70 {l : Launch} {d : Nat} {sh : aw_SH} {S : aw_S} {P : Int32 → aw_S → Prop} {a : Nat} {i1 : Int32} {i3 : Int32} {i4 : Int32} {i5 : Int32} (sa : sh[a]? = some (0, 8)) (h : ((i1 ≤ i5 → AW l m_Ho_fewestFrom (d + 1) 0 0 (gI sh P) 0 0 58 [.ref a, .int i1, .null, .int i3, .int (i4 + 1), .null, .null] [] sh S) ∧ (¬ i1 ≤ i5 → ∃ r2, S.2.2 a 1 = some r2 ∧ ∃ n4, sh[r2]? = some (3, n4) ∧ vp_in i4 n4 ∧ vp_in i5 n4 ∧ ∀ v7 : Int32, v7 = ((i4 + (S.1 r2 i4.toNatClampNeg)) - i5) - (S.1 r2 i5.toNatClampNeg) → Sp l m_Ma_floorDiv d 0 0 [.int v7, .int i1] sh S (gI sh (fun x9 S8 => Sp l m_Ma_abs d 0 0 [.int (x9 + (1 : Int32))] sh S8 (gI sh (fun x11 S10 => AW l m_Ho_fewestFrom (d + 1) 0 0 (gI sh P) 0 0 70 [.ref a, .int i1, .null, .int (i3 + x11), .int i4, .int (i5 + 1), .null] [] sh S10))))))) : AW l m_Ho_fewestFrom (d + 1) 0 0 (gI sh P) 0 0 70 [.ref a, .int i1, .null, .int i3, .int i4, .int i5, .null] [] sh S := by
  refine r_iload (pc := 70) d_Ho_fewestFrom_70 (x := i5) rfl ?_
  refine r_iload_n (pc := 72) d_Ho_fewestFrom_72 (x := i1) rfl ?_
  refine r_icmp_ge (pc := 73) d_Ho_fewestFrom_73 (tgt := 119) (by decide) (fun c1 => ?_) (fun c1 => ?_)
  · replace h := h.1 c1
    refine r_iinc (pc := 119) d_Ho_fewestFrom_119 (hi := by decide) (x := i4) rfl (v := i4 + 1) rfl (ls2 := [.ref a, .int i1, .null, .int i3, .int (i4 + 1), .int i5, .null]) rfl ?_
    refine r_goto (pc := 122) d_Ho_fewestFrom_122 (tgt := 58) (by decide) ?_
    exact r_weak (ls2 := [.ref a, .int i1, .null, .int i3, .int (i4 + 1), .null, .null]) ⟨Or.inr rfl, Or.inr rfl, Or.inl rfl, Or.inr rfl, Or.inr rfl, Or.inl rfl, Or.inl rfl, trivial⟩ h
  · replace h := h.2 c1
    refine r_iload (pc := 76) d_Ho_fewestFrom_76 (x := i4) rfl ?_
    refine r_aload_n (pc := 78) d_Ho_fewestFrom_78 (x := a) rfl ?_
    obtain ⟨r2, er2, h⟩ := h
    refine r_getR (pc := 79) d_Ho_fewestFrom_79 f_Ho_15 sa (Or.inr ⟨_, rfl⟩) (r := r2) er2 ?_
    refine r_iload (pc := 82) d_Ho_fewestFrom_82 (x := i4) rfl ?_
    obtain ⟨n4, s3, h⟩ := h
    obtain ⟨g5, h⟩ := h
    refine r_iald (pc := 84) d_Ho_fewestFrom_84 s3 g5 ?_
    refine r_iadd (pc := 85) d_Ho_fewestFrom_85 ?_
    refine r_iload (pc := 86) d_Ho_fewestFrom_86 (x := i5) rfl ?_
    refine r_isub (pc := 88) d_Ho_fewestFrom_88 ?_
    refine r_aload_n (pc := 89) d_Ho_fewestFrom_89 (x := a) rfl ?_
    refine r_getR (pc := 90) d_Ho_fewestFrom_90 f_Ho_15 sa (Or.inr ⟨_, rfl⟩) (r := r2) er2 ?_
    refine r_iload (pc := 93) d_Ho_fewestFrom_93 (x := i5) rfl ?_
    obtain ⟨g6, h⟩ := h
    refine r_iald (pc := 95) d_Ho_fewestFrom_95 s3 g6 ?_
    refine r_isub (pc := 96) d_Ho_fewestFrom_96 ?_
    refine r_ni (fun v7 ev7 => ?_)
    replace h := h v7 ev7
    refine r_istore (pc := 97) (hd := d_Ho_fewestFrom_97) (hi := by decide) (ls2 := [.ref a, .int i1, .null, .int i3, .int i4, .int i5, .int v7]) (h2 := rfl) ?_
    refine r_iload_n (pc := 99) d_Ho_fewestFrom_99 (x := i3) rfl ?_
    refine r_iload (pc := 100) d_Ho_fewestFrom_100 (x := v7) rfl ?_
    refine r_iload_n (pc := 102) d_Ho_fewestFrom_102 (x := i1) rfl ?_
    refine r_callS (pc := 103) (k := 0) (As := [.int v7, .int i1]) (rest := [.int i3]) (mc' := 0) (ms' := 0) lk_Ho_58 st_Ma_floorDiv d_Ho_fewestFrom_103 k_Ma_floorDiv rfl rfl (Nat.le_of_ble_eq_true rfl) (by decide) (by decide) (Sp.mono h ?_)
    rintro rS8 shS8 S8 ⟨qS8, x9, uS8, h⟩
    subst uS8
    rw [qS8]
    refine r_iconst (pc := 106) d_Ho_fewestFrom_106 (v := 1) (by decide) ?_
    refine r_iadd (pc := 107) d_Ho_fewestFrom_107 ?_
    refine r_callS (pc := 108) (k := 0) (As := [.int (x9 + (1 : Int32))]) (rest := [.int i3]) (mc' := 0) (ms' := 0) lk_Ho_64 st_Ma_abs d_Ho_fewestFrom_108 k_Ma_abs rfl rfl (Nat.le_of_ble_eq_true rfl) (by decide) (by decide) (Sp.mono h ?_)
    rintro rS10 shS10 S10 ⟨qS10, x11, uS10, h⟩
    subst uS10
    rw [qS10]
    refine r_iadd (pc := 111) d_Ho_fewestFrom_111 ?_
    refine r_istore_n (pc := 112) (hk := rfl) (hd := d_Ho_fewestFrom_112) (hi := by decide) (ls2 := [.ref a, .int i1, .null, .int (i3 + x11), .int i4, .int i5, .int v7]) (h2 := rfl) ?_
    refine r_iinc (pc := 113) d_Ho_fewestFrom_113 (hi := by decide) (x := i5) rfl (v := i5 + 1) rfl (ls2 := [.ref a, .int i1, .null, .int (i3 + x11), .int i4, .int (i5 + 1), .int v7]) rfl ?_
    refine r_goto (pc := 116) d_Ho_fewestFrom_116 (tgt := 70) (by decide) ?_
    exact r_weak (ls2 := [.ref a, .int i1, .null, .int (i3 + x11), .int i4, .int (i5 + 1), .null]) ⟨Or.inr rfl, Or.inr rfl, Or.inl rfl, Or.inr rfl, Or.inr rfl, Or.inr rfl, Or.inl rfl, trivial⟩ h
set_option maxRecDepth 4000 in
theorem e_Ho_shareWalks {l : Launch} {d : Nat} {sh : aw_SH} {S : aw_S} {P : Int32 → aw_S → Prop} {a : Nat} {p0 : Int32} (sa : sh[a]? = some (0, 8)) (h : AW l m_Ho_shareWalks (d + 1) 0 0 (gI sh P) 0 0 7 [.ref a, .int p0, .int 0, .int 0, .int 1] [] sh S) : Sp l m_Ho_shareWalks (d + 1) 0 0 [.ref a, .int p0] sh S (gI sh P) := by
  refine Sp.of k_Ho_shareWalks (ls := [.ref a, .int p0, .null, .null, .null]) rfl (Nat.le_of_ble_eq_true rfl) ?_
  refine r_iconst (pc := 0) d_Ho_shareWalks_0 (v := 0) (by decide) ?_
  refine r_istore_n (pc := 1) (hk := rfl) (hd := d_Ho_shareWalks_1) (hi := by decide) (ls2 := [.ref a, .int p0, .int 0, .null, .null]) (h2 := rfl) ?_
  refine r_iconst (pc := 2) d_Ho_shareWalks_2 (v := 0) (by decide) ?_
  refine r_istore_n (pc := 3) (hk := rfl) (hd := d_Ho_shareWalks_3) (hi := by decide) (ls2 := [.ref a, .int p0, .int 0, .int 0, .null]) (h2 := rfl) ?_
  refine r_iconst (pc := 4) d_Ho_shareWalks_4 (v := 1) (by decide) ?_
  refine r_istore (pc := 5) (hd := d_Ho_shareWalks_5) (hi := by decide) (ls2 := [.ref a, .int p0, .int 0, .int 0, .int 1]) (h2 := rfl) ?_
  exact h
set_option maxRecDepth 4000 in
theorem s_Ho_shareWalks_7 {l : Launch} {d : Nat} {sh : aw_SH} {S : aw_S} {P : Int32 → aw_S → Prop} {a : Nat} {i1 : Int32} {i2 : Int32} {i3 : Int32} {i4 : Int32} (sa : sh[a]? = some (0, 8)) (h : ((i1 ≤ i4 → ∃ r2, S.2.2 a 1 = some r2 ∧ ∃ n4, sh[r2]? = some (3, n4) ∧ vp_in i2 n4 ∧ vp_in i3 n4 ∧ ((i1 < ((S.1 r2 i2.toNatClampNeg) - (S.1 r2 i3.toNatClampNeg)) → vp_in i2 n4 ∧ vp_in i2 n4 ∧ vp_in i3 n4 ∧ vp_in i3 n4 ∧ P 1 (aw_uI (aw_uI S r2 i2.toNatClampNeg ((S.1 r2 i2.toNatClampNeg) - i1)) r2 i3.toNatClampNeg (((aw_uI S r2 i2.toNatClampNeg ((S.1 r2 i2.toNatClampNeg) - i1)).1 r2 i3.toNatClampNeg) + i1))) ∧ (¬ i1 < ((S.1 r2 i2.toNatClampNeg) - (S.1 r2 i3.toNatClampNeg)) → P 0 S))) ∧ (¬ i1 ≤ i4 → ∃ r12, S.2.2 a 1 = some r12 ∧ ∃ n14, sh[r12]? = some (3, n14) ∧ vp_in i4 n14 ∧ vp_in i2 n14 ∧ (((S.1 r12 i4.toNatClampNeg) ≤ (S.1 r12 i2.toNatClampNeg) → vp_in i4 n14 ∧ vp_in i3 n14 ∧ (((S.1 r12 i3.toNatClampNeg) ≤ (S.1 r12 i4.toNatClampNeg) → AW l m_Ho_shareWalks (d + 1) 0 0 (gI sh P) 0 0 7 [.ref a, .int i1, .int i2, .int i3, .int (i4 + 1)] [] sh S) ∧ (¬ (S.1 r12 i3.toNatClampNeg) ≤ (S.1 r12 i4.toNatClampNeg) → AW l m_Ho_shareWalks (d + 1) 0 0 (gI sh P) 0 0 7 [.ref a, .int i1, .int i2, .int i4, .int (i4 + 1)] [] sh S))) ∧ (¬ (S.1 r12 i4.toNatClampNeg) ≤ (S.1 r12 i2.toNatClampNeg) → vp_in i4 n14 ∧ vp_in i3 n14 ∧ (((S.1 r12 i3.toNatClampNeg) ≤ (S.1 r12 i4.toNatClampNeg) → AW l m_Ho_shareWalks (d + 1) 0 0 (gI sh P) 0 0 7 [.ref a, .int i1, .int i4, .int i3, .int (i4 + 1)] [] sh S) ∧ (¬ (S.1 r12 i3.toNatClampNeg) ≤ (S.1 r12 i4.toNatClampNeg) → AW l m_Ho_shareWalks (d + 1) 0 0 (gI sh P) 0 0 7 [.ref a, .int i1, .int i4, .int i4, .int (i4 + 1)] [] sh S))))))) : AW l m_Ho_shareWalks (d + 1) 0 0 (gI sh P) 0 0 7 [.ref a, .int i1, .int i2, .int i3, .int i4] [] sh S := by
  refine r_iload (pc := 7) d_Ho_shareWalks_7 (x := i4) rfl ?_
  refine r_iload_n (pc := 9) d_Ho_shareWalks_9 (x := i1) rfl ?_
  refine r_icmp_ge (pc := 10) d_Ho_shareWalks_10 (tgt := 65) (by decide) (fun c1 => ?_) (fun c1 => ?_)
  · replace h := h.1 c1
    refine r_aload_n (pc := 65) d_Ho_shareWalks_65 (x := a) rfl ?_
    obtain ⟨r2, er2, h⟩ := h
    refine r_getR (pc := 66) d_Ho_shareWalks_66 f_Ho_15 sa (Or.inr ⟨_, rfl⟩) (r := r2) er2 ?_
    refine r_iload_n (pc := 69) d_Ho_shareWalks_69 (x := i2) rfl ?_
    obtain ⟨n4, s3, h⟩ := h
    obtain ⟨g5, h⟩ := h
    refine r_iald (pc := 70) d_Ho_shareWalks_70 s3 g5 ?_
    refine r_aload_n (pc := 71) d_Ho_shareWalks_71 (x := a) rfl ?_
    refine r_getR (pc := 72) d_Ho_shareWalks_72 f_Ho_15 sa (Or.inr ⟨_, rfl⟩) (r := r2) er2 ?_
    refine r_iload_n (pc := 75) d_Ho_shareWalks_75 (x := i3) rfl ?_
    obtain ⟨g6, h⟩ := h
    refine r_iald (pc := 76) d_Ho_shareWalks_76 s3 g6 ?_
    refine r_isub (pc := 77) d_Ho_shareWalks_77 ?_
    refine r_iload_n (pc := 78) d_Ho_shareWalks_78 (x := i1) rfl ?_
    refine r_icmp_gt (pc := 79) d_Ho_shareWalks_79 (tgt := 84) (by decide) (fun c7 => ?_) (fun c7 => ?_)
    · replace h := h.1 c7
      refine r_aload_n (pc := 84) d_Ho_shareWalks_84 (x := a) rfl ?_
      refine r_getR (pc := 85) d_Ho_shareWalks_85 f_Ho_15 sa (Or.inr ⟨_, rfl⟩) (r := r2) er2 ?_
      refine r_iload_n (pc := 88) d_Ho_shareWalks_88 (x := i2) rfl ?_
      refine r_dup2 (pc := 89) d_Ho_shareWalks_89 rfl rfl ?_
      obtain ⟨g8, h⟩ := h
      refine r_iald (pc := 90) d_Ho_shareWalks_90 s3 g8 ?_
      refine r_iload_n (pc := 91) d_Ho_shareWalks_91 (x := i1) rfl ?_
      refine r_isub (pc := 92) d_Ho_shareWalks_92 ?_
      obtain ⟨g9, h⟩ := h
      refine r_iast (pc := 93) d_Ho_shareWalks_93 s3 g9 ?_
      refine r_aload_n (pc := 94) d_Ho_shareWalks_94 (x := a) rfl ?_
      refine r_getR (pc := 95) d_Ho_shareWalks_95 f_Ho_15 sa (Or.inr ⟨_, rfl⟩) (r := r2) er2 ?_
      refine r_iload_n (pc := 98) d_Ho_shareWalks_98 (x := i3) rfl ?_
      refine r_dup2 (pc := 99) d_Ho_shareWalks_99 rfl rfl ?_
      obtain ⟨g10, h⟩ := h
      refine r_iald (pc := 100) d_Ho_shareWalks_100 s3 g10 ?_
      refine r_iload_n (pc := 101) d_Ho_shareWalks_101 (x := i1) rfl ?_
      refine r_iadd (pc := 102) d_Ho_shareWalks_102 ?_
      obtain ⟨g11, h⟩ := h
      refine r_iast (pc := 103) d_Ho_shareWalks_103 s3 g11 ?_
      refine r_iconst (pc := 104) d_Ho_shareWalks_104 (v := 1) (by decide) ?_
      exact r_zreturn (pc := 105) d_Ho_shareWalks_105 (v := 1) rfl (by decide) rfl (Nat.le_refl _) ⟨rfl, _, rfl, h⟩
    · replace h := h.2 c7
      refine r_iconst (pc := 82) d_Ho_shareWalks_82 (v := 0) (by decide) ?_
      exact r_zreturn (pc := 83) d_Ho_shareWalks_83 (v := 0) rfl (by decide) rfl (Nat.le_refl _) ⟨rfl, _, rfl, h⟩
  · replace h := h.2 c1
    refine r_aload_n (pc := 13) d_Ho_shareWalks_13 (x := a) rfl ?_
    obtain ⟨r12, er12, h⟩ := h
    refine r_getR (pc := 14) d_Ho_shareWalks_14 f_Ho_15 sa (Or.inr ⟨_, rfl⟩) (r := r12) er12 ?_
    refine r_iload (pc := 17) d_Ho_shareWalks_17 (x := i4) rfl ?_
    obtain ⟨n14, s13, h⟩ := h
    obtain ⟨g15, h⟩ := h
    refine r_iald (pc := 19) d_Ho_shareWalks_19 s13 g15 ?_
    refine r_aload_n (pc := 20) d_Ho_shareWalks_20 (x := a) rfl ?_
    refine r_getR (pc := 21) d_Ho_shareWalks_21 f_Ho_15 sa (Or.inr ⟨_, rfl⟩) (r := r12) er12 ?_
    refine r_iload_n (pc := 24) d_Ho_shareWalks_24 (x := i2) rfl ?_
    obtain ⟨g16, h⟩ := h
    refine r_iald (pc := 25) d_Ho_shareWalks_25 s13 g16 ?_
    refine r_icmp_le (pc := 26) d_Ho_shareWalks_26 (tgt := 34) (by decide) (fun c17 => ?_) (fun c17 => ?_)
    · replace h := h.1 c17
      refine r_iload_n (pc := 34) d_Ho_shareWalks_34 (x := i2) rfl ?_
      refine r_istore_n (pc := 35) (hk := rfl) (hd := d_Ho_shareWalks_35) (hi := by decide) (ls2 := [.ref a, .int i1, .int i2, .int i3, .int i4]) (h2 := rfl) ?_
      refine r_aload_n (pc := 36) d_Ho_shareWalks_36 (x := a) rfl ?_
      refine r_getR (pc := 37) d_Ho_shareWalks_37 f_Ho_15 sa (Or.inr ⟨_, rfl⟩) (r := r12) er12 ?_
      refine r_iload (pc := 40) d_Ho_shareWalks_40 (x := i4) rfl ?_
      obtain ⟨g18, h⟩ := h
      refine r_iald (pc := 42) d_Ho_shareWalks_42 s13 g18 ?_
      refine r_aload_n (pc := 43) d_Ho_shareWalks_43 (x := a) rfl ?_
      refine r_getR (pc := 44) d_Ho_shareWalks_44 f_Ho_15 sa (Or.inr ⟨_, rfl⟩) (r := r12) er12 ?_
      refine r_iload_n (pc := 47) d_Ho_shareWalks_47 (x := i3) rfl ?_
      obtain ⟨g19, h⟩ := h
      refine r_iald (pc := 48) d_Ho_shareWalks_48 s13 g19 ?_
      refine r_icmp_ge (pc := 49) d_Ho_shareWalks_49 (tgt := 57) (by decide) (fun c20 => ?_) (fun c20 => ?_)
      · replace h := h.1 c20
        refine r_iload_n (pc := 57) d_Ho_shareWalks_57 (x := i3) rfl ?_
        refine r_istore_n (pc := 58) (hk := rfl) (hd := d_Ho_shareWalks_58) (hi := by decide) (ls2 := [.ref a, .int i1, .int i2, .int i3, .int i4]) (h2 := rfl) ?_
        refine r_iinc (pc := 59) d_Ho_shareWalks_59 (hi := by decide) (x := i4) rfl (v := i4 + 1) rfl (ls2 := [.ref a, .int i1, .int i2, .int i3, .int (i4 + 1)]) rfl ?_
        refine r_goto (pc := 62) d_Ho_shareWalks_62 (tgt := 7) (by decide) ?_
        exact h
      · replace h := h.2 c20
        refine r_iload (pc := 52) d_Ho_shareWalks_52 (x := i4) rfl ?_
        refine r_goto (pc := 54) d_Ho_shareWalks_54 (tgt := 58) (by decide) ?_
        refine r_istore_n (pc := 58) (hk := rfl) (hd := d_Ho_shareWalks_58) (hi := by decide) (ls2 := [.ref a, .int i1, .int i2, .int i4, .int i4]) (h2 := rfl) ?_
        refine r_iinc (pc := 59) d_Ho_shareWalks_59 (hi := by decide) (x := i4) rfl (v := i4 + 1) rfl (ls2 := [.ref a, .int i1, .int i2, .int i4, .int (i4 + 1)]) rfl ?_
        refine r_goto (pc := 62) d_Ho_shareWalks_62 (tgt := 7) (by decide) ?_
        exact h
    · replace h := h.2 c17
      refine r_iload (pc := 29) d_Ho_shareWalks_29 (x := i4) rfl ?_
      refine r_goto (pc := 31) d_Ho_shareWalks_31 (tgt := 35) (by decide) ?_
      refine r_istore_n (pc := 35) (hk := rfl) (hd := d_Ho_shareWalks_35) (hi := by decide) (ls2 := [.ref a, .int i1, .int i4, .int i3, .int i4]) (h2 := rfl) ?_
      refine r_aload_n (pc := 36) d_Ho_shareWalks_36 (x := a) rfl ?_
      refine r_getR (pc := 37) d_Ho_shareWalks_37 f_Ho_15 sa (Or.inr ⟨_, rfl⟩) (r := r12) er12 ?_
      refine r_iload (pc := 40) d_Ho_shareWalks_40 (x := i4) rfl ?_
      obtain ⟨g21, h⟩ := h
      refine r_iald (pc := 42) d_Ho_shareWalks_42 s13 g21 ?_
      refine r_aload_n (pc := 43) d_Ho_shareWalks_43 (x := a) rfl ?_
      refine r_getR (pc := 44) d_Ho_shareWalks_44 f_Ho_15 sa (Or.inr ⟨_, rfl⟩) (r := r12) er12 ?_
      refine r_iload_n (pc := 47) d_Ho_shareWalks_47 (x := i3) rfl ?_
      obtain ⟨g22, h⟩ := h
      refine r_iald (pc := 48) d_Ho_shareWalks_48 s13 g22 ?_
      refine r_icmp_ge (pc := 49) d_Ho_shareWalks_49 (tgt := 57) (by decide) (fun c23 => ?_) (fun c23 => ?_)
      · replace h := h.1 c23
        refine r_iload_n (pc := 57) d_Ho_shareWalks_57 (x := i3) rfl ?_
        refine r_istore_n (pc := 58) (hk := rfl) (hd := d_Ho_shareWalks_58) (hi := by decide) (ls2 := [.ref a, .int i1, .int i4, .int i3, .int i4]) (h2 := rfl) ?_
        refine r_iinc (pc := 59) d_Ho_shareWalks_59 (hi := by decide) (x := i4) rfl (v := i4 + 1) rfl (ls2 := [.ref a, .int i1, .int i4, .int i3, .int (i4 + 1)]) rfl ?_
        refine r_goto (pc := 62) d_Ho_shareWalks_62 (tgt := 7) (by decide) ?_
        exact h
      · replace h := h.2 c23
        refine r_iload (pc := 52) d_Ho_shareWalks_52 (x := i4) rfl ?_
        refine r_goto (pc := 54) d_Ho_shareWalks_54 (tgt := 58) (by decide) ?_
        refine r_istore_n (pc := 58) (hk := rfl) (hd := d_Ho_shareWalks_58) (hi := by decide) (ls2 := [.ref a, .int i1, .int i4, .int i4, .int i4]) (h2 := rfl) ?_
        refine r_iinc (pc := 59) d_Ho_shareWalks_59 (hi := by decide) (x := i4) rfl (v := i4 + 1) rfl (ls2 := [.ref a, .int i1, .int i4, .int i4, .int (i4 + 1)]) rfl ?_
        refine r_goto (pc := 62) d_Ho_shareWalks_62 (tgt := 7) (by decide) ?_
        exact h
set_option maxRecDepth 4000 in
theorem e_Ho_gapOnWay {l : Launch} {d : Nat} {sh : aw_SH} {S : aw_S} {P : Int32 → aw_S → Prop} {a : Nat} {p0 : Nat} {p1 : Int32} (sa : sh[a]? = some (0, 8)) (h : Sp l m_Ho_fewest d 0 0 [.ref a, .ref p0] sh S (gI sh (fun x2 S1 => ((p1 < x2 → AW l m_Ho_gapOnWay (d + 1) 0 0 (gI sh P) 0 0 19 [.ref a, .ref p0, .int p1, .int x2, .int (-1), .int 0] [] sh S1) ∧ (¬ p1 < x2 → P (-1) S1))))) : Sp l m_Ho_gapOnWay (d + 1) 0 0 [.ref a, .ref p0, .int p1] sh S (gI sh P) := by
  refine Sp.of k_Ho_gapOnWay (ls := [.ref a, .ref p0, .int p1, .null, .null, .null]) rfl (Nat.le_of_ble_eq_true rfl) ?_
  refine r_aload_n (pc := 0) d_Ho_gapOnWay_0 (x := a) rfl ?_
  refine r_aload_n (pc := 1) d_Ho_gapOnWay_1 (x := p0) rfl ?_
  refine r_callV (pc := 2) (k := a) (As := [.ref p0]) (rest := []) (mc' := 0) (ms' := 0) lk_Ho_35 in_Ho_fewest se_Ho_fewest sa rfl d_Ho_gapOnWay_2 k_Ho_fewest rfl rfl (Nat.le_of_ble_eq_true rfl) (by decide) (by decide) (Sp.mono h ?_)
  rintro rS1 shS1 S1 ⟨qS1, x2, uS1, h⟩
  subst uS1
  rw [qS1]
  refine r_istore_n (pc := 5) (hk := rfl) (hd := d_Ho_gapOnWay_5) (hi := by decide) (ls2 := [.ref a, .ref p0, .int p1, .int x2, .null, .null]) (h2 := rfl) ?_
  refine r_iload_n (pc := 6) d_Ho_gapOnWay_6 (x := p1) rfl ?_
  refine r_iload_n (pc := 7) d_Ho_gapOnWay_7 (x := x2) rfl ?_
  refine r_icmp_lt (pc := 8) d_Ho_gapOnWay_8 (tgt := 13) (by decide) (fun c3 => ?_) (fun c3 => ?_)
  · replace h := h.1 c3
    refine r_iconst (pc := 13) d_Ho_gapOnWay_13 (v := (-1)) (by decide) ?_
    refine r_istore (pc := 14) (hd := d_Ho_gapOnWay_14) (hi := by decide) (ls2 := [.ref a, .ref p0, .int p1, .int x2, .int (-1), .null]) (h2 := rfl) ?_
    refine r_iconst (pc := 16) d_Ho_gapOnWay_16 (v := 0) (by decide) ?_
    refine r_istore (pc := 17) (hd := d_Ho_gapOnWay_17) (hi := by decide) (ls2 := [.ref a, .ref p0, .int p1, .int x2, .int (-1), .int 0]) (h2 := rfl) ?_
    exact h
  · replace h := h.2 c3
    refine r_iconst (pc := 11) d_Ho_gapOnWay_11 (v := (-1)) (by decide) ?_
    exact r_ireturn (pc := 12) d_Ho_gapOnWay_12 rfl rfl (Nat.le_refl _) ⟨rfl, _, rfl, h⟩
set_option maxRecDepth 4000 in
theorem s_Ho_gapOnWay_19 {l : Launch} {d : Nat} {sh : aw_SH} {S : aw_S} {P : Int32 → aw_S → Prop} {a : Nat} {i1 : Nat} {i2 : Int32} {i3 : Int32} {i4 : Int32} {i5 : Int32} (sa : sh[a]? = some (0, 8)) (h : ((i2 < i5 → P i4 S) ∧ (¬ i2 < i5 → Sp l m_Ho_firstNearer d 0 0 [.ref a, .ref i1, .int (i3 - i5)] sh S (gI sh (fun x3 S2 => AW l m_Ho_gapOnWay (d + 1) 0 0 (gI sh P) 0 0 19 [.ref a, .ref i1, .int i2, .int i3, .int x3, .int (i5 + 1)] [] sh S2))))) : AW l m_Ho_gapOnWay (d + 1) 0 0 (gI sh P) 0 0 19 [.ref a, .ref i1, .int i2, .int i3, .int i4, .int i5] [] sh S := by
  refine r_iload (pc := 19) d_Ho_gapOnWay_19 (x := i5) rfl ?_
  refine r_iload_n (pc := 21) d_Ho_gapOnWay_21 (x := i2) rfl ?_
  refine r_icmp_gt (pc := 22) d_Ho_gapOnWay_22 (tgt := 42) (by decide) (fun c1 => ?_) (fun c1 => ?_)
  · replace h := h.1 c1
    refine r_iload (pc := 42) d_Ho_gapOnWay_42 (x := i4) rfl ?_
    exact r_ireturn (pc := 44) d_Ho_gapOnWay_44 rfl rfl (Nat.le_refl _) ⟨rfl, _, rfl, h⟩
  · replace h := h.2 c1
    refine r_aload_n (pc := 25) d_Ho_gapOnWay_25 (x := a) rfl ?_
    refine r_aload_n (pc := 26) d_Ho_gapOnWay_26 (x := i1) rfl ?_
    refine r_iload_n (pc := 27) d_Ho_gapOnWay_27 (x := i3) rfl ?_
    refine r_iload (pc := 28) d_Ho_gapOnWay_28 (x := i5) rfl ?_
    refine r_isub (pc := 30) d_Ho_gapOnWay_30 ?_
    refine r_callV (pc := 31) (k := a) (As := [.ref i1, .int (i3 - i5)]) (rest := []) (mc' := 0) (ms' := 0) lk_Ho_39 in_Ho_firstNearer se_Ho_firstNearer sa rfl d_Ho_gapOnWay_31 k_Ho_firstNearer rfl rfl (Nat.le_of_ble_eq_true rfl) (by decide) (by decide) (Sp.mono h ?_)
    rintro rS2 shS2 S2 ⟨qS2, x3, uS2, h⟩
    subst uS2
    rw [qS2]
    refine r_istore (pc := 34) (hd := d_Ho_gapOnWay_34) (hi := by decide) (ls2 := [.ref a, .ref i1, .int i2, .int i3, .int x3, .int i5]) (h2 := rfl) ?_
    refine r_iinc (pc := 36) d_Ho_gapOnWay_36 (hi := by decide) (x := i5) rfl (v := i5 + 1) rfl (ls2 := [.ref a, .ref i1, .int i2, .int i3, .int x3, .int (i5 + 1)]) rfl ?_
    refine r_goto (pc := 39) d_Ho_gapOnWay_39 (tgt := 19) (by decide) ?_
    exact h
set_option maxRecDepth 4000 in
theorem e_Ho_firstNearer {l : Launch} {d : Nat} {sh : aw_SH} {S : aw_S} {P : Int32 → aw_S → Prop} {a : Nat} {p0 : Nat} {p1 : Int32} (sa : sh[a]? = some (0, 8)) (h : sh[p0]? = some (0, 2) ∧ Sp l m_Gr_gaps d 0 0 [.ref p0] sh S (gI sh (fun x3 S2 => AW l m_Ho_firstNearer (d + 1) 0 0 (gI sh P) 0 0 8 [.ref a, .ref p0, .int p1, .int x3, .int 0] [] sh S2))) : Sp l m_Ho_firstNearer (d + 1) 0 0 [.ref a, .ref p0, .int p1] sh S (gI sh P) := by
  refine Sp.of k_Ho_firstNearer (ls := [.ref a, .ref p0, .int p1, .null, .null]) rfl (Nat.le_of_ble_eq_true rfl) ?_
  refine r_aload_n (pc := 0) d_Ho_firstNearer_0 (x := p0) rfl ?_
  obtain ⟨s1, h⟩ := h
  refine r_callV (pc := 1) (k := p0) (As := []) (rest := []) (mc' := 0) (ms' := 0) lk_Ho_43 in_Gr_gaps se_Gr_gaps s1 rfl d_Ho_firstNearer_1 k_Gr_gaps rfl rfl (Nat.le_of_ble_eq_true rfl) (by decide) (by decide) (Sp.mono h ?_)
  rintro rS2 shS2 S2 ⟨qS2, x3, uS2, h⟩
  subst uS2
  rw [qS2]
  refine r_istore_n (pc := 4) (hk := rfl) (hd := d_Ho_firstNearer_4) (hi := by decide) (ls2 := [.ref a, .ref p0, .int p1, .int x3, .null]) (h2 := rfl) ?_
  refine r_iconst (pc := 5) d_Ho_firstNearer_5 (v := 0) (by decide) ?_
  refine r_istore (pc := 6) (hd := d_Ho_firstNearer_6) (hi := by decide) (ls2 := [.ref a, .ref p0, .int p1, .int x3, .int 0]) (h2 := rfl) ?_
  exact h
set_option maxRecDepth 4000 in
theorem s_Ho_firstNearer_8 {l : Launch} {d : Nat} {sh : aw_SH} {S : aw_S} {P : Int32 → aw_S → Prop} {a : Nat} {i1 : Nat} {i2 : Int32} {i3 : Int32} {i4 : Int32} (sa : sh[a]? = some (0, 8)) (h : ((i3 ≤ i4 → P (-1) S) ∧ (¬ i3 ≤ i4 → sh[i1]? = some (0, 2) ∧ Sp l m_Gr_nextPlace d 0 0 [.ref i1, .int i4] sh S (gI sh (fun x4 S3 => Sp l m_Ho_exchange d 0 0 [.ref a, .int i4, .int x4] sh S3 (gV sh (fun S5 => Sp l m_Ho_fewestFrom d 0 0 [.ref a, .int (S5.1 i1 0)] sh S5 (gI sh (fun x7 S6 => ((i2 ≤ x7 → Sp l m_Gr_nextPlace d 0 0 [.ref i1, .int i4] sh S6 (gI sh (fun x10 S9 => Sp l m_Ho_exchange d 0 0 [.ref a, .int i4, .int x10] sh S9 (gV sh (fun S11 => AW l m_Ho_firstNearer (d + 1) 0 0 (gI sh P) 0 0 8 [.ref a, .ref i1, .int i2, .int i3, .int (i4 + 1)] [] sh S11))))) ∧ (¬ i2 ≤ x7 → P i4 S6))))))))))) : AW l m_Ho_firstNearer (d + 1) 0 0 (gI sh P) 0 0 8 [.ref a, .ref i1, .int i2, .int i3, .int i4] [] sh S := by
  refine r_iload (pc := 8) d_Ho_firstNearer_8 (x := i4) rfl ?_
  refine r_iload_n (pc := 10) d_Ho_firstNearer_10 (x := i3) rfl ?_
  refine r_icmp_ge (pc := 11) d_Ho_firstNearer_11 (tgt := 59) (by decide) (fun c1 => ?_) (fun c1 => ?_)
  · replace h := h.1 c1
    refine r_iconst (pc := 59) d_Ho_firstNearer_59 (v := (-1)) (by decide) ?_
    exact r_ireturn (pc := 60) d_Ho_firstNearer_60 rfl rfl (Nat.le_refl _) ⟨rfl, _, rfl, h⟩
  · replace h := h.2 c1
    refine r_aload_n (pc := 14) d_Ho_firstNearer_14 (x := a) rfl ?_
    refine r_iload (pc := 15) d_Ho_firstNearer_15 (x := i4) rfl ?_
    refine r_aload_n (pc := 17) d_Ho_firstNearer_17 (x := i1) rfl ?_
    refine r_iload (pc := 18) d_Ho_firstNearer_18 (x := i4) rfl ?_
    obtain ⟨s2, h⟩ := h
    refine r_callV (pc := 20) (k := i1) (As := [.int i4]) (rest := [.int i4, .ref a]) (mc' := 0) (ms' := 0) lk_Ho_47 in_Gr_nextPlace se_Gr_nextPlace s2 rfl d_Ho_firstNearer_20 k_Gr_nextPlace rfl rfl (Nat.le_of_ble_eq_true rfl) (by decide) (by decide) (Sp.mono h ?_)
    rintro rS3 shS3 S3 ⟨qS3, x4, uS3, h⟩
    subst uS3
    rw [qS3]
    refine r_callV (pc := 23) (k := a) (As := [.int i4, .int x4]) (rest := []) (mc' := 0) (ms' := 0) lk_Ho_50 in_Ho_exchange se_Ho_exchange sa rfl d_Ho_firstNearer_23 k_Ho_exchange rfl rfl (Nat.le_of_ble_eq_true rfl) (by decide) (by decide) (Sp.mono h ?_)
    rintro rS5 shS5 S5 ⟨qS5, uS5, h⟩
    subst uS5
    rw [qS5]
    refine r_aload_n (pc := 26) d_Ho_firstNearer_26 (x := a) rfl ?_
    refine r_aload_n (pc := 27) d_Ho_firstNearer_27 (x := i1) rfl ?_
    refine r_getI (pc := 28) d_Ho_firstNearer_28 f_Ho_27 s2 rfl ?_
    refine r_callV (pc := 31) (k := a) (As := [.int (S5.1 i1 0)]) (rest := []) (mc' := 0) (ms' := 0) lk_Ho_31 in_Ho_fewestFrom se_Ho_fewestFrom sa rfl d_Ho_firstNearer_31 k_Ho_fewestFrom rfl rfl (Nat.le_of_ble_eq_true rfl) (by decide) (by decide) (Sp.mono h ?_)
    rintro rS6 shS6 S6 ⟨qS6, x7, uS6, h⟩
    subst uS6
    rw [qS6]
    refine r_iload_n (pc := 34) d_Ho_firstNearer_34 (x := i2) rfl ?_
    refine r_icmp_ge (pc := 35) d_Ho_firstNearer_35 (tgt := 41) (by decide) (fun c8 => ?_) (fun c8 => ?_)
    · replace h := h.1 c8
      refine r_aload_n (pc := 41) d_Ho_firstNearer_41 (x := a) rfl ?_
      refine r_iload (pc := 42) d_Ho_firstNearer_42 (x := i4) rfl ?_
      refine r_aload_n (pc := 44) d_Ho_firstNearer_44 (x := i1) rfl ?_
      refine r_iload (pc := 45) d_Ho_firstNearer_45 (x := i4) rfl ?_
      refine r_callV (pc := 47) (k := i1) (As := [.int i4]) (rest := [.int i4, .ref a]) (mc' := 0) (ms' := 0) lk_Ho_47 in_Gr_nextPlace se_Gr_nextPlace s2 rfl d_Ho_firstNearer_47 k_Gr_nextPlace rfl rfl (Nat.le_of_ble_eq_true rfl) (by decide) (by decide) (Sp.mono h ?_)
      rintro rS9 shS9 S9 ⟨qS9, x10, uS9, h⟩
      subst uS9
      rw [qS9]
      refine r_callV (pc := 50) (k := a) (As := [.int i4, .int x10]) (rest := []) (mc' := 0) (ms' := 0) lk_Ho_50 in_Ho_exchange se_Ho_exchange sa rfl d_Ho_firstNearer_50 k_Ho_exchange rfl rfl (Nat.le_of_ble_eq_true rfl) (by decide) (by decide) (Sp.mono h ?_)
      rintro rS11 shS11 S11 ⟨qS11, uS11, h⟩
      subst uS11
      rw [qS11]
      refine r_iinc (pc := 53) d_Ho_firstNearer_53 (hi := by decide) (x := i4) rfl (v := i4 + 1) rfl (ls2 := [.ref a, .ref i1, .int i2, .int i3, .int (i4 + 1)]) rfl ?_
      refine r_goto (pc := 56) d_Ho_firstNearer_56 (tgt := 8) (by decide) ?_
      exact h
    · replace h := h.2 c8
      refine r_iload (pc := 38) d_Ho_firstNearer_38 (x := i4) rfl ?_
      exact r_ireturn (pc := 40) d_Ho_firstNearer_40 rfl rfl (Nat.le_refl _) ⟨rfl, _, rfl, h⟩
set_option maxRecDepth 4000 in
theorem e_Ho_exchange {l : Launch} {d : Nat} {sh : aw_SH} {S : aw_S} {P : aw_S → Prop} {a : Nat} {p0 : Int32} {p1 : Int32} (sa : sh[a]? = some (0, 8)) (h : ∃ r1, S.2.2 a 0 = some r1 ∧ ∃ n3, sh[r1]? = some (3, n3) ∧ vp_in p0 n3 ∧ vp_in p1 n3 ∧ vp_in p0 n3 ∧ vp_in p1 n3 ∧ P (aw_uI (aw_uI S r1 p0.toNatClampNeg (S.1 r1 p1.toNatClampNeg)) r1 p1.toNatClampNeg (S.1 r1 p0.toNatClampNeg))) : Sp l m_Ho_exchange (d + 1) 0 0 [.ref a, .int p0, .int p1] sh S (gV sh P) := by
  refine Sp.of k_Ho_exchange (ls := [.ref a, .int p0, .int p1, .null]) rfl (Nat.le_of_ble_eq_true rfl) ?_
  refine r_aload_n (pc := 0) d_Ho_exchange_0 (x := a) rfl ?_
  obtain ⟨r1, er1, h⟩ := h
  refine r_getR (pc := 1) d_Ho_exchange_1 f_Ho_9 sa (Or.inr ⟨_, rfl⟩) (r := r1) er1 ?_
  refine r_iload_n (pc := 4) d_Ho_exchange_4 (x := p0) rfl ?_
  obtain ⟨n3, s2, h⟩ := h
  obtain ⟨g4, h⟩ := h
  refine r_iald (pc := 5) d_Ho_exchange_5 s2 g4 ?_
  refine r_istore_n (pc := 6) (hk := rfl) (hd := d_Ho_exchange_6) (hi := by decide) (ls2 := [.ref a, .int p0, .int p1, .int (S.1 r1 p0.toNatClampNeg)]) (h2 := rfl) ?_
  refine r_aload_n (pc := 7) d_Ho_exchange_7 (x := a) rfl ?_
  refine r_getR (pc := 8) d_Ho_exchange_8 f_Ho_9 sa (Or.inr ⟨_, rfl⟩) (r := r1) er1 ?_
  refine r_iload_n (pc := 11) d_Ho_exchange_11 (x := p0) rfl ?_
  refine r_aload_n (pc := 12) d_Ho_exchange_12 (x := a) rfl ?_
  refine r_getR (pc := 13) d_Ho_exchange_13 f_Ho_9 sa (Or.inr ⟨_, rfl⟩) (r := r1) er1 ?_
  refine r_iload_n (pc := 16) d_Ho_exchange_16 (x := p1) rfl ?_
  obtain ⟨g5, h⟩ := h
  refine r_iald (pc := 17) d_Ho_exchange_17 s2 g5 ?_
  obtain ⟨g6, h⟩ := h
  refine r_iast (pc := 18) d_Ho_exchange_18 s2 g6 ?_
  refine r_aload_n (pc := 19) d_Ho_exchange_19 (x := a) rfl ?_
  refine r_getR (pc := 20) d_Ho_exchange_20 f_Ho_9 sa (Or.inr ⟨_, rfl⟩) (r := r1) er1 ?_
  refine r_iload_n (pc := 23) d_Ho_exchange_23 (x := p1) rfl ?_
  refine r_iload_n (pc := 24) d_Ho_exchange_24 (x := (S.1 r1 p0.toNatClampNeg)) rfl ?_
  obtain ⟨g7, h⟩ := h
  refine r_iast (pc := 25) d_Ho_exchange_25 s2 g7 ?_
  exact r_return (pc := 26) d_Ho_exchange_26 rfl rfl (Nat.le_refl _) ⟨rfl, rfl, h⟩
