set_option maxRecDepth 4000 in
theorem e_Ou_search {l : Launch} {d : Nat} {sh : aw_SH} {S : aw_S} {P : aw_S → Prop} {a : Nat} {p0 : Nat} {p1 : Int32} {p2 : Nat} {p3 : Int32} (sa : sh[a]? = some (0, 9)) (h : sh[p2]? = some (0, 2) ∧ Sp l m_Gr_gaps d 0 0 [.ref p2] sh (aw_uR S a 2 (some p2)) (gI sh (fun x3 S2 => ∃ r4, (aw_uI (aw_uI S2 a 3 x3) a 0 0).2.2 a 8 = some r4 ∧ Sp l m_Ar_fill_AIIV d 0 0 [.ref r4, .int 0] sh (aw_uI (aw_uI S2 a 3 x3) a 0 0) (gV sh (fun S5 => Sp l m_Ou_want d 0 0 [.ref a, .ref p0, .int p1] sh S5 (gI sh (fun x7 S6 => ((x7 = 0 → P S6) ∧ (¬ x7 = 0 → Sp l m_Ou_extend d 0 0 [.ref a, .int 0, .int p3] sh S6 (gV sh (fun S9 => P S9))))))))))) : Sp l m_Ou_search (d + 1) 0 0 [.ref a, .ref p0, .int p1, .ref p2, .int p3] sh S (gV sh P) := by
  refine Sp.of k_Ou_search (ls := [.ref a, .ref p0, .int p1, .ref p2, .int p3]) rfl (Nat.le_of_ble_eq_true rfl) ?_
  refine r_aload_n (pc := 0) d_Ou_search_0 (x := a) rfl ?_
  refine r_aload_n (pc := 1) d_Ou_search_1 (x := p2) rfl ?_
  refine r_putR (pc := 2) d_Ou_search_2 f_Ou_46 sa (Or.inl ⟨_, rfl⟩) ?_
  refine r_aload_n (pc := 5) d_Ou_search_5 (x := a) rfl ?_
  refine r_aload_n (pc := 6) d_Ou_search_6 (x := p2) rfl ?_
  obtain ⟨s1, h⟩ := h
  refine r_callV (pc := 7) (k := p2) (As := []) (rest := [.ref a]) (mc' := 0) (ms' := 0) lk_Ou_50 in_Gr_gaps se_Gr_gaps s1 rfl d_Ou_search_7 k_Gr_gaps rfl rfl (Nat.le_of_ble_eq_true rfl) (by decide) (by decide) (Sp.mono h ?_)
  rintro rS2 shS2 S2 ⟨qS2, x3, uS2, h⟩
  subst uS2
  rw [qS2]
  refine r_putI (pc := 10) d_Ou_search_10 f_Ou_56 sa rfl ?_
  refine r_aload_n (pc := 13) d_Ou_search_13 (x := a) rfl ?_
  refine r_iconst (pc := 14) d_Ou_search_14 (v := 0) (by decide) ?_
  refine r_putI (pc := 15) d_Ou_search_15 f_Ou_59 sa rfl ?_
  refine r_aload_n (pc := 18) d_Ou_search_18 (x := a) rfl ?_
  obtain ⟨r4, er4, h⟩ := h
  refine r_getR (pc := 19) d_Ou_search_19 f_Ou_27 sa (Or.inr ⟨_, rfl⟩) (r := r4) er4 ?_
  refine r_iconst (pc := 22) d_Ou_search_22 (v := 0) (by decide) ?_
  refine r_callS (pc := 23) (k := 0) (As := [.ref r4, .int 0]) (rest := []) (mc' := 0) (ms' := 0) lk_Ou_30 st_Ar_fill_AIIV d_Ou_search_23 k_Ar_fill_AIIV rfl rfl (Nat.le_of_ble_eq_true rfl) (by decide) (by decide) (Sp.mono h ?_)
  rintro rS5 shS5 S5 ⟨qS5, uS5, h⟩
  subst uS5
  rw [qS5]
  refine r_aload_n (pc := 26) d_Ou_search_26 (x := a) rfl ?_
  refine r_aload_n (pc := 27) d_Ou_search_27 (x := p0) rfl ?_
  refine r_iload_n (pc := 28) d_Ou_search_28 (x := p1) rfl ?_
  refine r_callV (pc := 29) (k := a) (As := [.ref p0, .int p1]) (rest := []) (mc' := 0) (ms' := 0) lk_Ou_62 in_Ou_want se_Ou_want sa rfl d_Ou_search_29 k_Ou_want rfl rfl (Nat.le_of_ble_eq_true rfl) (by decide) (by decide) (Sp.mono h ?_)
  rintro rS6 shS6 S6 ⟨qS6, x7, uS6, h⟩
  subst uS6
  rw [qS6]
  refine r_if_eq (pc := 32) d_Ou_search_32 (tgt := 42) (by decide) (fun c8 => ?_) (fun c8 => ?_)
  · replace h := h.1 c8
    exact r_return (pc := 42) d_Ou_search_42 rfl rfl (Nat.le_refl _) ⟨rfl, rfl, h⟩
  · replace h := h.2 c8
    refine r_aload_n (pc := 35) d_Ou_search_35 (x := a) rfl ?_
    refine r_iconst (pc := 36) d_Ou_search_36 (v := 0) (by decide) ?_
    refine r_iload (pc := 37) d_Ou_search_37 (x := p3) rfl ?_
    refine r_callV (pc := 39) (k := a) (As := [.int 0, .int p3]) (rest := []) (mc' := 0) (ms' := 0) lk_Ou_66 in_Ou_extend se_Ou_extend sa rfl d_Ou_search_39 k_Ou_extend rfl rfl (Nat.le_of_ble_eq_true rfl) (by decide) (by decide) (Sp.mono h ?_)
    rintro rS9 shS9 S9 ⟨qS9, uS9, h⟩
    subst uS9
    rw [qS9]
    exact r_return (pc := 42) d_Ou_search_42 rfl rfl (Nat.le_refl _) ⟨rfl, rfl, h⟩
set_option maxRecDepth 4000 in
theorem e_Ou_want {l : Launch} {d : Nat} {sh : aw_SH} {S : aw_S} {P : Int32 → aw_S → Prop} {a : Nat} {p0 : Nat} {p1 : Int32} (sa : sh[a]? = some (0, 9)) (h : ∃ r1, S.2.2 a 5 = some r1 ∧ Sp l m_Ar_fill_AIIV d 0 0 [.ref r1, .int (-1)] sh S (gV sh (fun S2 => AW l m_Ou_want (d + 1) 0 0 (gI sh P) 0 0 10 [.ref a, .ref p0, .int p1, .int 0, .null, .null] [] sh S2))) : Sp l m_Ou_want (d + 1) 0 0 [.ref a, .ref p0, .int p1] sh S (gI sh P) := by
  refine Sp.of k_Ou_want (ls := [.ref a, .ref p0, .int p1, .null, .null, .null]) rfl (Nat.le_of_ble_eq_true rfl) ?_
  refine r_aload_n (pc := 0) d_Ou_want_0 (x := a) rfl ?_
  obtain ⟨r1, er1, h⟩ := h
  refine r_getR (pc := 1) d_Ou_want_1 f_Ou_18 sa (Or.inr ⟨_, rfl⟩) (r := r1) er1 ?_
  refine r_iconst (pc := 4) d_Ou_want_4 (v := (-1)) (by decide) ?_
  refine r_callS (pc := 5) (k := 0) (As := [.ref r1, .int (-1)]) (rest := []) (mc' := 0) (ms' := 0) lk_Ou_30 st_Ar_fill_AIIV d_Ou_want_5 k_Ar_fill_AIIV rfl rfl (Nat.le_of_ble_eq_true rfl) (by decide) (by decide) (Sp.mono h ?_)
  rintro rS2 shS2 S2 ⟨qS2, uS2, h⟩
  subst uS2
  rw [qS2]
  refine r_iconst (pc := 8) d_Ou_want_8 (v := 0) (by decide) ?_
  refine r_istore_n (pc := 9) (hk := rfl) (hd := d_Ou_want_9) (hi := by decide) (ls2 := [.ref a, .ref p0, .int p1, .int 0, .null, .null]) (h2 := rfl) ?_
  exact h
set_option maxRecDepth 4000 in
theorem s_Ou_want_10 {l : Launch} {d : Nat} {sh : aw_SH} {S : aw_S} {P : Int32 → aw_S → Prop} {a : Nat} {i1 : Nat} {i2 : Int32} {i3 : Int32} (sa : sh[a]? = some (0, 9)) (h : ((i2 ≤ i3 → P 1 S) ∧ (¬ i2 ≤ i3 → sh[i1]? = some (0, 1) ∧ ∃ r3, S.2.2 i1 0 = some r3 ∧ ∃ n5, sh[r3]? = some (4, n5) ∧ vp_in ((2 : Int32) * i3) n5 ∧ vp_in (((2 : Int32) * i3) + (1 : Int32)) n5 ∧ ∀ v8 : Int32, v8 = (S.2.1 r3 (((2 : Int32) * i3) + (1 : Int32) : Int32).toNatClampNeg).toInt32 → Sp l m_Ou_suits d 0 0 [.ref a, .int ((S.2.1 r3 ((2 : Int32) * i3 : Int32).toNatClampNeg).toInt32), .int v8] sh S (gI sh (fun x10 S9 => ((¬ x10 = 0 → ∃ r12, S9.2.2 a 5 = some r12 ∧ ∃ n14, sh[r12]? = some (3, n14) ∧ vp_in ((S.2.1 r3 ((2 : Int32) * i3 : Int32).toNatClampNeg).toInt32) n14 ∧ AW l m_Ou_want (d + 1) 0 0 (gI sh P) 0 0 10 [.ref a, .ref i1, .int i2, .int (i3 + 1), .null, .null] [] sh (aw_uI S9 r12 (((S.2.1 r3 ((2 : Int32) * i3 : Int32).toNatClampNeg).toInt32 : Int32).toNatClampNeg) v8)) ∧ (x10 = 0 → P 0 S9))))))) : AW l m_Ou_want (d + 1) 0 0 (gI sh P) 0 0 10 [.ref a, .ref i1, .int i2, .int i3, .null, .null] [] sh S := by
  refine r_iload_n (pc := 10) d_Ou_want_10 (x := i3) rfl ?_
  refine r_iload_n (pc := 11) d_Ou_want_11 (x := i2) rfl ?_
  refine r_icmp_ge (pc := 12) d_Ou_want_12 (tgt := 67) (by decide) (fun c1 => ?_) (fun c1 => ?_)
  · replace h := h.1 c1
    refine r_iconst (pc := 67) d_Ou_want_67 (v := 1) (by decide) ?_
    exact r_zreturn (pc := 68) d_Ou_want_68 (v := 1) rfl (by decide) rfl (Nat.le_refl _) ⟨rfl, _, rfl, h⟩
  · replace h := h.2 c1
    refine r_aload_n (pc := 15) d_Ou_want_15 (x := i1) rfl ?_
    obtain ⟨s2, h⟩ := h
    obtain ⟨r3, er3, h⟩ := h
    refine r_getR (pc := 16) d_Ou_want_16 f_Ou_36 s2 (Or.inr ⟨_, rfl⟩) (r := r3) er3 ?_
    refine r_iconst (pc := 19) d_Ou_want_19 (v := 2) (by decide) ?_
    refine r_iload_n (pc := 20) d_Ou_want_20 (x := i3) rfl ?_
    refine r_imul (pc := 21) d_Ou_want_21 ?_
    obtain ⟨n5, s4, h⟩ := h
    obtain ⟨g6, h⟩ := h
    refine r_lald (pc := 22) d_Ou_want_22 s4 g6 ?_
    refine r_l2i (pc := 23) d_Ou_want_23 ?_
    refine r_istore (pc := 24) (hd := d_Ou_want_24) (hi := by decide) (ls2 := [.ref a, .ref i1, .int i2, .int i3, .int ((S.2.1 r3 ((2 : Int32) * i3 : Int32).toNatClampNeg).toInt32), .null]) (h2 := rfl) ?_
    refine r_aload_n (pc := 26) d_Ou_want_26 (x := i1) rfl ?_
    refine r_getR (pc := 27) d_Ou_want_27 f_Ou_36 s2 (Or.inr ⟨_, rfl⟩) (r := r3) er3 ?_
    refine r_iconst (pc := 30) d_Ou_want_30 (v := 2) (by decide) ?_
    refine r_iload_n (pc := 31) d_Ou_want_31 (x := i3) rfl ?_
    refine r_imul (pc := 32) d_Ou_want_32 ?_
    refine r_iconst (pc := 33) d_Ou_want_33 (v := 1) (by decide) ?_
    refine r_iadd (pc := 34) d_Ou_want_34 ?_
    obtain ⟨g7, h⟩ := h
    refine r_lald (pc := 35) d_Ou_want_35 s4 g7 ?_
    refine r_l2i (pc := 36) d_Ou_want_36 ?_
    refine r_ni (fun v8 ev8 => ?_)
    replace h := h v8 ev8
    refine r_istore (pc := 37) (hd := d_Ou_want_37) (hi := by decide) (ls2 := [.ref a, .ref i1, .int i2, .int i3, .int ((S.2.1 r3 ((2 : Int32) * i3 : Int32).toNatClampNeg).toInt32), .int v8]) (h2 := rfl) ?_
    refine r_aload_n (pc := 39) d_Ou_want_39 (x := a) rfl ?_
    refine r_iload (pc := 40) d_Ou_want_40 (x := ((S.2.1 r3 ((2 : Int32) * i3 : Int32).toNatClampNeg).toInt32)) rfl ?_
    refine r_iload (pc := 42) d_Ou_want_42 (x := v8) rfl ?_
    refine r_callV (pc := 44) (k := a) (As := [.int ((S.2.1 r3 ((2 : Int32) * i3 : Int32).toNatClampNeg).toInt32), .int v8]) (rest := []) (mc' := 0) (ms' := 0) lk_Ou_42 in_Ou_suits se_Ou_suits sa rfl d_Ou_want_44 k_Ou_suits rfl rfl (Nat.le_of_ble_eq_true rfl) (by decide) (by decide) (Sp.mono h ?_)
    rintro rS9 shS9 S9 ⟨qS9, x10, uS9, h⟩
    subst uS9
    rw [qS9]
    refine r_if_ne (pc := 47) d_Ou_want_47 (tgt := 52) (by decide) (fun c11 => ?_) (fun c11 => ?_)
    · replace h := h.1 c11
      refine r_aload_n (pc := 52) d_Ou_want_52 (x := a) rfl ?_
      obtain ⟨r12, er12, h⟩ := h
      refine r_getR (pc := 53) d_Ou_want_53 f_Ou_18 sa (Or.inr ⟨_, rfl⟩) (r := r12) er12 ?_
      refine r_iload (pc := 56) d_Ou_want_56 (x := ((S.2.1 r3 ((2 : Int32) * i3 : Int32).toNatClampNeg).toInt32)) rfl ?_
      refine r_iload (pc := 58) d_Ou_want_58 (x := v8) rfl ?_
      obtain ⟨n14, s13, h⟩ := h
      obtain ⟨g15, h⟩ := h
      refine r_iast (pc := 60) d_Ou_want_60 s13 g15 ?_
      refine r_iinc (pc := 61) d_Ou_want_61 (hi := by decide) (x := i3) rfl (v := i3 + 1) rfl (ls2 := [.ref a, .ref i1, .int i2, .int (i3 + 1), .int ((S.2.1 r3 ((2 : Int32) * i3 : Int32).toNatClampNeg).toInt32), .int v8]) rfl ?_
      refine r_goto (pc := 64) d_Ou_want_64 (tgt := 10) (by decide) ?_
      exact r_weak (ls2 := [.ref a, .ref i1, .int i2, .int (i3 + 1), .null, .null]) ⟨Or.inr rfl, Or.inr rfl, Or.inr rfl, Or.inr rfl, Or.inl rfl, Or.inl rfl, trivial⟩ h
    · replace h := h.2 c11
      refine r_iconst (pc := 50) d_Ou_want_50 (v := 0) (by decide) ?_
      exact r_zreturn (pc := 51) d_Ou_want_51 (v := 0) rfl (by decide) rfl (Nat.le_refl _) ⟨rfl, _, rfl, h⟩
set_option maxRecDepth 4000 in
theorem e_Ou_suits {l : Launch} {d : Nat} {sh : aw_SH} {S : aw_S} {P : Int32 → aw_S → Prop} {a : Nat} {p0 : Int32} {p1 : Int32} (sa : sh[a]? = some (0, 9)) (h : ∃ r1, S.2.2 a 5 = some r1 ∧ ∃ n3, sh[r1]? = some (3, n3) ∧ vp_in p0 n3 ∧ (((S.1 r1 p0.toNatClampNeg) = (-1) → P 1 S) ∧ (¬ (S.1 r1 p0.toNatClampNeg) = (-1) → vp_in p0 n3 ∧ ((¬ (S.1 r1 p0.toNatClampNeg) = p1 → P 0 S) ∧ ((S.1 r1 p0.toNatClampNeg) = p1 → P 1 S))))) : Sp l m_Ou_suits (d + 1) 0 0 [.ref a, .int p0, .int p1] sh S (gI sh P) := by
  refine Sp.of k_Ou_suits (ls := [.ref a, .int p0, .int p1]) rfl (Nat.le_of_ble_eq_true rfl) ?_
  refine r_aload_n (pc := 0) d_Ou_suits_0 (x := a) rfl ?_
  obtain ⟨r1, er1, h⟩ := h
  refine r_getR (pc := 1) d_Ou_suits_1 f_Ou_18 sa (Or.inr ⟨_, rfl⟩) (r := r1) er1 ?_
  refine r_iload_n (pc := 4) d_Ou_suits_4 (x := p0) rfl ?_
  obtain ⟨n3, s2, h⟩ := h
  obtain ⟨g4, h⟩ := h
  refine r_iald (pc := 5) d_Ou_suits_5 s2 g4 ?_
  refine r_iconst (pc := 6) d_Ou_suits_6 (v := (-1)) (by decide) ?_
  refine r_icmp_eq (pc := 7) d_Ou_suits_7 (tgt := 20) (by decide) (fun c5 => ?_) (fun c5 => ?_)
  · replace h := h.1 c5
    refine r_iconst (pc := 20) d_Ou_suits_20 (v := 1) (by decide) ?_
    refine r_goto (pc := 21) d_Ou_suits_21 (tgt := 25) (by decide) ?_
    exact r_zreturn (pc := 25) d_Ou_suits_25 (v := 1) rfl (by decide) rfl (Nat.le_refl _) ⟨rfl, _, rfl, h⟩
  · replace h := h.2 c5
    refine r_aload_n (pc := 10) d_Ou_suits_10 (x := a) rfl ?_
    refine r_getR (pc := 11) d_Ou_suits_11 f_Ou_18 sa (Or.inr ⟨_, rfl⟩) (r := r1) er1 ?_
    refine r_iload_n (pc := 14) d_Ou_suits_14 (x := p0) rfl ?_
    obtain ⟨g6, h⟩ := h
    refine r_iald (pc := 15) d_Ou_suits_15 s2 g6 ?_
    refine r_iload_n (pc := 16) d_Ou_suits_16 (x := p1) rfl ?_
    refine r_icmp_ne (pc := 17) d_Ou_suits_17 (tgt := 24) (by decide) (fun c7 => ?_) (fun c7 => ?_)
    · replace h := h.1 c7
      refine r_iconst (pc := 24) d_Ou_suits_24 (v := 0) (by decide) ?_
      exact r_zreturn (pc := 25) d_Ou_suits_25 (v := 0) rfl (by decide) rfl (Nat.le_refl _) ⟨rfl, _, rfl, h⟩
    · replace h := h.2 c7
      refine r_iconst (pc := 20) d_Ou_suits_20 (v := 1) (by decide) ?_
      refine r_goto (pc := 21) d_Ou_suits_21 (tgt := 25) (by decide) ?_
      exact r_zreturn (pc := 25) d_Ou_suits_25 (v := 1) rfl (by decide) rfl (Nat.le_refl _) ⟨rfl, _, rfl, h⟩
set_option maxRecDepth 4000 in
theorem e_Ou_extend {l : Launch} {d : Nat} {sh : aw_SH} {S : aw_S} {P : aw_S → Prop} {a : Nat} {p0 : Int32} {p1 : Int32} (sa : sh[a]? = some (0, 9)) (h : ∃ r1, S.2.2 a 2 = some r1 ∧ ∃ r2, S.2.2 a 6 = some r2 ∧ sh[r1]? = some (0, 2) ∧ Sp l m_Gr_fillColours d 0 0 [.ref r1, .ref r2] sh S (gV sh (fun S4 => Sp l m_Ou_wrongGaps d 0 0 [.ref a] sh S4 (gI sh (fun x6 S5 => (((p1 - p0) < x6 → P S5) ∧ (¬ (p1 - p0) < x6 → ((p0 ≤ 4 → ((1 < (p1 - p0) → AW l m_Ou_extend (d + 1) 0 0 (gV sh P) 0 0 44 [.ref a, .int p0, .int p1, .null, .int 0, .null] [] sh S5) ∧ (¬ 1 < (p1 - p0) → Sp l m_Ou_finish d 0 0 [.ref a, .int p0, .int (p1 - p0)] sh S5 (gV sh (fun S10 => P S10))))) ∧ (¬ p0 ≤ 4 → P S5))))))))) : Sp l m_Ou_extend (d + 1) 0 0 [.ref a, .int p0, .int p1] sh S (gV sh P) := by
  refine Sp.of k_Ou_extend (ls := [.ref a, .int p0, .int p1, .null, .null, .null]) rfl (Nat.le_of_ble_eq_true rfl) ?_
  refine r_iload_n (pc := 0) d_Ou_extend_0 (x := p1) rfl ?_
  refine r_iload_n (pc := 1) d_Ou_extend_1 (x := p0) rfl ?_
  refine r_isub (pc := 2) d_Ou_extend_2 ?_
  refine r_istore_n (pc := 3) (hk := rfl) (hd := d_Ou_extend_3) (hi := by decide) (ls2 := [.ref a, .int p0, .int p1, .int (p1 - p0), .null, .null]) (h2 := rfl) ?_
  refine r_aload_n (pc := 4) d_Ou_extend_4 (x := a) rfl ?_
  obtain ⟨r1, er1, h⟩ := h
  refine r_getR (pc := 5) d_Ou_extend_5 f_Ou_46 sa (Or.inl ⟨_, rfl⟩) (r := r1) er1 ?_
  refine r_aload_n (pc := 8) d_Ou_extend_8 (x := a) rfl ?_
  obtain ⟨r2, er2, h⟩ := h
  refine r_getR (pc := 9) d_Ou_extend_9 f_Ou_21 sa (Or.inr ⟨_, rfl⟩) (r := r2) er2 ?_
  obtain ⟨s3, h⟩ := h
  refine r_callV (pc := 12) (k := r1) (As := [.ref r2]) (rest := []) (mc' := 0) (ms' := 0) lk_Ou_79 in_Gr_fillColours se_Gr_fillColours s3 rfl d_Ou_extend_12 k_Gr_fillColours rfl rfl (Nat.le_of_ble_eq_true rfl) (by decide) (by decide) (Sp.mono h ?_)
  rintro rS4 shS4 S4 ⟨qS4, uS4, h⟩
  subst uS4
  rw [qS4]
  refine r_aload_n (pc := 15) d_Ou_extend_15 (x := a) rfl ?_
  refine r_callV (pc := 16) (k := a) (As := []) (rest := []) (mc' := 0) (ms' := 0) lk_Ou_83 in_Ou_wrongGaps se_Ou_wrongGaps sa rfl d_Ou_extend_16 k_Ou_wrongGaps rfl rfl (Nat.le_of_ble_eq_true rfl) (by decide) (by decide) (Sp.mono h ?_)
  rintro rS5 shS5 S5 ⟨qS5, x6, uS5, h⟩
  subst uS5
  rw [qS5]
  refine r_iload_n (pc := 19) d_Ou_extend_19 (x := (p1 - p0)) rfl ?_
  refine r_icmp_gt (pc := 20) d_Ou_extend_20 (tgt := 28) (by decide) (fun c7 => ?_) (fun c7 => ?_)
  · replace h := h.1 c7
    exact r_return (pc := 28) d_Ou_extend_28 rfl rfl (Nat.le_refl _) ⟨rfl, rfl, h⟩
  · replace h := h.2 c7
    refine r_iload_n (pc := 23) d_Ou_extend_23 (x := p0) rfl ?_
    refine r_iconst (pc := 24) d_Ou_extend_24 (v := 4) (by decide) ?_
    refine r_icmp_le (pc := 25) d_Ou_extend_25 (tgt := 29) (by decide) (fun c8 => ?_) (fun c8 => ?_)
    · replace h := h.1 c8
      refine r_iload_n (pc := 29) d_Ou_extend_29 (x := (p1 - p0)) rfl ?_
      refine r_iconst (pc := 30) d_Ou_extend_30 (v := 1) (by decide) ?_
      refine r_icmp_gt (pc := 31) d_Ou_extend_31 (tgt := 41) (by decide) (fun c9 => ?_) (fun c9 => ?_)
      · replace h := h.1 c9
        refine r_iconst (pc := 41) d_Ou_extend_41 (v := 0) (by decide) ?_
        refine r_istore (pc := 42) (hd := d_Ou_extend_42) (hi := by decide) (ls2 := [.ref a, .int p0, .int p1, .int (p1 - p0), .int 0, .null]) (h2 := rfl) ?_
        exact r_weak (ls2 := [.ref a, .int p0, .int p1, .null, .int 0, .null]) ⟨Or.inr rfl, Or.inr rfl, Or.inr rfl, Or.inl rfl, Or.inr rfl, Or.inl rfl, trivial⟩ h
      · replace h := h.2 c9
        refine r_aload_n (pc := 34) d_Ou_extend_34 (x := a) rfl ?_
        refine r_iload_n (pc := 35) d_Ou_extend_35 (x := p0) rfl ?_
        refine r_iload_n (pc := 36) d_Ou_extend_36 (x := (p1 - p0)) rfl ?_
        refine r_callV (pc := 37) (k := a) (As := [.int p0, .int (p1 - p0)]) (rest := []) (mc' := 0) (ms' := 0) lk_Ou_86 in_Ou_finish se_Ou_finish sa rfl d_Ou_extend_37 k_Ou_finish rfl rfl (Nat.le_of_ble_eq_true rfl) (by decide) (by decide) (Sp.mono h ?_)
        rintro rS10 shS10 S10 ⟨qS10, uS10, h⟩
        subst uS10
        rw [qS10]
        exact r_return (pc := 40) d_Ou_extend_40 rfl rfl (Nat.le_refl _) ⟨rfl, rfl, h⟩
    · replace h := h.2 c8
      exact r_return (pc := 28) d_Ou_extend_28 rfl rfl (Nat.le_refl _) ⟨rfl, rfl, h⟩
set_option maxRecDepth 4000 in
theorem s_Ou_extend_44 {l : Launch} {d : Nat} {sh : aw_SH} {S : aw_S} {P : aw_S → Prop} {a : Nat} {i1 : Int32} {i2 : Int32} {i4 : Int32} (sa : sh[a]? = some (0, 9)) (h : ((((2 : Int32) * (S.1 a 3)) ≤ i4 → P S) ∧ (¬ ((2 : Int32) * (S.1 a 3)) ≤ i4 → ∃ r2, S.2.2 a 2 = some r2 ∧ sh[r2]? = some (0, 2) ∧ Sp l m_Gr_makePass d 0 0 [.ref r2, .int i4] sh S (gI sh (fun x5 S4 => ((x5 = (-1) → AW l m_Ou_extend (d + 1) 0 0 (gV sh P) 0 0 44 [.ref a, .int i1, .int i2, .null, .int (i4 + 1), .null] [] sh S4) ∧ (¬ x5 = (-1) → ∃ r7, S4.2.2 a 4 = some r7 ∧ ∃ n9, sh[r7]? = some (3, n9) ∧ vp_in i1 n9 ∧ Sp l m_Ou_extend d 0 0 [.ref a, .int (i1 + (1 : Int32)), .int i2] sh (aw_uI S4 r7 i1.toNatClampNeg i4) (gV sh (fun S11 => ∃ r12, S11.2.2 a 2 = some r12 ∧ sh[r12]? = some (0, 2) ∧ Sp l m_Gr_takeBack d 0 0 [.ref r12, .int x5] sh S11 (gV sh (fun S14 => AW l m_Ou_extend (d + 1) 0 0 (gV sh P) 0 0 44 [.ref a, .int i1, .int i2, .null, .int (i4 + 1), .null] [] sh S14))))))))))) : AW l m_Ou_extend (d + 1) 0 0 (gV sh P) 0 0 44 [.ref a, .int i1, .int i2, .null, .int i4, .null] [] sh S := by
  refine r_iload (pc := 44) d_Ou_extend_44 (x := i4) rfl ?_
  refine r_iconst (pc := 46) d_Ou_extend_46 (v := 2) (by decide) ?_
  refine r_aload_n (pc := 47) d_Ou_extend_47 (x := a) rfl ?_
  refine r_getI (pc := 48) d_Ou_extend_48 f_Ou_56 sa rfl ?_
  refine r_imul (pc := 51) d_Ou_extend_51 ?_
  refine r_icmp_ge (pc := 52) d_Ou_extend_52 (tgt := 103) (by decide) (fun c1 => ?_) (fun c1 => ?_)
  · replace h := h.1 c1
    exact r_return (pc := 103) d_Ou_extend_103 rfl rfl (Nat.le_refl _) ⟨rfl, rfl, h⟩
  · replace h := h.2 c1
    refine r_aload_n (pc := 55) d_Ou_extend_55 (x := a) rfl ?_
    obtain ⟨r2, er2, h⟩ := h
    refine r_getR (pc := 56) d_Ou_extend_56 f_Ou_46 sa (Or.inl ⟨_, rfl⟩) (r := r2) er2 ?_
    refine r_iload (pc := 59) d_Ou_extend_59 (x := i4) rfl ?_
    obtain ⟨s3, h⟩ := h
    refine r_callV (pc := 61) (k := r2) (As := [.int i4]) (rest := []) (mc' := 0) (ms' := 0) lk_Ou_89 in_Gr_makePass se_Gr_makePass s3 rfl d_Ou_extend_61 k_Gr_makePass rfl rfl (Nat.le_of_ble_eq_true rfl) (by decide) (by decide) (Sp.mono h ?_)
    rintro rS4 shS4 S4 ⟨qS4, x5, uS4, h⟩
    subst uS4
    rw [qS4]
    refine r_istore (pc := 64) (hd := d_Ou_extend_64) (hi := by decide) (ls2 := [.ref a, .int i1, .int i2, .null, .int i4, .int x5]) (h2 := rfl) ?_
    refine r_iload (pc := 66) d_Ou_extend_66 (x := x5) rfl ?_
    refine r_iconst (pc := 68) d_Ou_extend_68 (v := (-1)) (by decide) ?_
    refine r_icmp_eq (pc := 69) d_Ou_extend_69 (tgt := 97) (by decide) (fun c6 => ?_) (fun c6 => ?_)
    · replace h := h.1 c6
      refine r_iinc (pc := 97) d_Ou_extend_97 (hi := by decide) (x := i4) rfl (v := i4 + 1) rfl (ls2 := [.ref a, .int i1, .int i2, .null, .int (i4 + 1), .int x5]) rfl ?_
      refine r_goto (pc := 100) d_Ou_extend_100 (tgt := 44) (by decide) ?_
      exact r_weak (ls2 := [.ref a, .int i1, .int i2, .null, .int (i4 + 1), .null]) ⟨Or.inr rfl, Or.inr rfl, Or.inr rfl, Or.inl rfl, Or.inr rfl, Or.inl rfl, trivial⟩ h
    · replace h := h.2 c6
      refine r_aload_n (pc := 72) d_Ou_extend_72 (x := a) rfl ?_
      obtain ⟨r7, er7, h⟩ := h
      refine r_getR (pc := 73) d_Ou_extend_73 f_Ou_15 sa (Or.inr ⟨_, rfl⟩) (r := r7) er7 ?_
      refine r_iload_n (pc := 76) d_Ou_extend_76 (x := i1) rfl ?_
      refine r_iload (pc := 77) d_Ou_extend_77 (x := i4) rfl ?_
      obtain ⟨n9, s8, h⟩ := h
      obtain ⟨g10, h⟩ := h
      refine r_iast (pc := 79) d_Ou_extend_79 s8 g10 ?_
      refine r_aload_n (pc := 80) d_Ou_extend_80 (x := a) rfl ?_
      refine r_iload_n (pc := 81) d_Ou_extend_81 (x := i1) rfl ?_
      refine r_iconst (pc := 82) d_Ou_extend_82 (v := 1) (by decide) ?_
      refine r_iadd (pc := 83) d_Ou_extend_83 ?_
      refine r_iload_n (pc := 84) d_Ou_extend_84 (x := i2) rfl ?_
      refine r_callV (pc := 85) (k := a) (As := [.int (i1 + (1 : Int32)), .int i2]) (rest := []) (mc' := 0) (ms' := 0) lk_Ou_66 in_Ou_extend se_Ou_extend sa rfl d_Ou_extend_85 k_Ou_extend rfl rfl (Nat.le_of_ble_eq_true rfl) (by decide) (by decide) (Sp.mono h ?_)
      rintro rS11 shS11 S11 ⟨qS11, uS11, h⟩
      subst uS11
      rw [qS11]
      refine r_aload_n (pc := 88) d_Ou_extend_88 (x := a) rfl ?_
      obtain ⟨r12, er12, h⟩ := h
      refine r_getR (pc := 89) d_Ou_extend_89 f_Ou_46 sa (Or.inl ⟨_, rfl⟩) (r := r12) er12 ?_
      refine r_iload (pc := 92) d_Ou_extend_92 (x := x5) rfl ?_
      obtain ⟨s13, h⟩ := h
      refine r_callV (pc := 94) (k := r12) (As := [.int x5]) (rest := []) (mc' := 0) (ms' := 0) lk_Ou_93 in_Gr_takeBack se_Gr_takeBack s13 rfl d_Ou_extend_94 k_Gr_takeBack rfl rfl (Nat.le_of_ble_eq_true rfl) (by decide) (by decide) (Sp.mono h ?_)
      rintro rS14 shS14 S14 ⟨qS14, uS14, h⟩
      subst uS14
      rw [qS14]
      refine r_iinc (pc := 97) d_Ou_extend_97 (hi := by decide) (x := i4) rfl (v := i4 + 1) rfl (ls2 := [.ref a, .int i1, .int i2, .null, .int (i4 + 1), .int x5]) rfl ?_
      refine r_goto (pc := 100) d_Ou_extend_100 (tgt := 44) (by decide) ?_
      exact r_weak (ls2 := [.ref a, .int i1, .int i2, .null, .int (i4 + 1), .null]) ⟨Or.inr rfl, Or.inr rfl, Or.inr rfl, Or.inl rfl, Or.inr rfl, Or.inl rfl, trivial⟩ h
set_option maxRecDepth 4000 in
theorem e_Ou_wrongGaps {l : Launch} {d : Nat} {sh : aw_SH} {S : aw_S} {P : Int32 → aw_S → Prop} {a : Nat} (sa : sh[a]? = some (0, 9)) (h : AW l m_Ou_wrongGaps (d + 1) 0 0 (gI sh P) 0 0 4 [.ref a, .int 0, .int 0] [] sh S) : Sp l m_Ou_wrongGaps (d + 1) 0 0 [.ref a] sh S (gI sh P) := by
  refine Sp.of k_Ou_wrongGaps (ls := [.ref a, .null, .null]) rfl (Nat.le_of_ble_eq_true rfl) ?_
  refine r_iconst (pc := 0) d_Ou_wrongGaps_0 (v := 0) (by decide) ?_
  refine r_istore_n (pc := 1) (hk := rfl) (hd := d_Ou_wrongGaps_1) (hi := by decide) (ls2 := [.ref a, .int 0, .null]) (h2 := rfl) ?_
  refine r_iconst (pc := 2) d_Ou_wrongGaps_2 (v := 0) (by decide) ?_
  refine r_istore_n (pc := 3) (hk := rfl) (hd := d_Ou_wrongGaps_3) (hi := by decide) (ls2 := [.ref a, .int 0, .int 0]) (h2 := rfl) ?_
  exact h
set_option maxRecDepth 4000 in
theorem s_Ou_wrongGaps_4 {l : Launch} {d : Nat} {sh : aw_SH} {S : aw_S} {P : Int32 → aw_S → Prop} {a : Nat} {i1 : Int32} {i2 : Int32} (sa : sh[a]? = some (0, 9)) (h : (((S.1 a 3) ≤ i2 → P i1 S) ∧ (¬ (S.1 a 3) ≤ i2 → ∃ r2, S.2.2 a 6 = some r2 ∧ ∃ n4, sh[r2]? = some (3, n4) ∧ vp_in i2 n4 ∧ Sp l m_Ou_suits d 0 0 [.ref a, .int i2, .int (S.1 r2 i2.toNatClampNeg)] sh S (gI sh (fun x7 S6 => ((¬ x7 = 0 → AW l m_Ou_wrongGaps (d + 1) 0 0 (gI sh P) 0 0 4 [.ref a, .int i1, .int (i2 + 1)] [] sh S6) ∧ (x7 = 0 → AW l m_Ou_wrongGaps (d + 1) 0 0 (gI sh P) 0 0 4 [.ref a, .int (i1 + 1), .int (i2 + 1)] [] sh S6))))))) : AW l m_Ou_wrongGaps (d + 1) 0 0 (gI sh P) 0 0 4 [.ref a, .int i1, .int i2] [] sh S := by
  refine r_iload_n (pc := 4) d_Ou_wrongGaps_4 (x := i2) rfl ?_
  refine r_aload_n (pc := 5) d_Ou_wrongGaps_5 (x := a) rfl ?_
  refine r_getI (pc := 6) d_Ou_wrongGaps_6 f_Ou_56 sa rfl ?_
  refine r_icmp_ge (pc := 9) d_Ou_wrongGaps_9 (tgt := 35) (by decide) (fun c1 => ?_) (fun c1 => ?_)
  · replace h := h.1 c1
    refine r_iload_n (pc := 35) d_Ou_wrongGaps_35 (x := i1) rfl ?_
    exact r_ireturn (pc := 36) d_Ou_wrongGaps_36 rfl rfl (Nat.le_refl _) ⟨rfl, _, rfl, h⟩
  · replace h := h.2 c1
    refine r_aload_n (pc := 12) d_Ou_wrongGaps_12 (x := a) rfl ?_
    refine r_iload_n (pc := 13) d_Ou_wrongGaps_13 (x := i2) rfl ?_
    refine r_aload_n (pc := 14) d_Ou_wrongGaps_14 (x := a) rfl ?_
    obtain ⟨r2, er2, h⟩ := h
    refine r_getR (pc := 15) d_Ou_wrongGaps_15 f_Ou_21 sa (Or.inr ⟨_, rfl⟩) (r := r2) er2 ?_
    refine r_iload_n (pc := 18) d_Ou_wrongGaps_18 (x := i2) rfl ?_
    obtain ⟨n4, s3, h⟩ := h
    obtain ⟨g5, h⟩ := h
    refine r_iald (pc := 19) d_Ou_wrongGaps_19 s3 g5 ?_
    refine r_callV (pc := 20) (k := a) (As := [.int i2, .int (S.1 r2 i2.toNatClampNeg)]) (rest := []) (mc' := 0) (ms' := 0) lk_Ou_42 in_Ou_suits se_Ou_suits sa rfl d_Ou_wrongGaps_20 k_Ou_suits rfl rfl (Nat.le_of_ble_eq_true rfl) (by decide) (by decide) (Sp.mono h ?_)
    rintro rS6 shS6 S6 ⟨qS6, x7, uS6, h⟩
    subst uS6
    rw [qS6]
    refine r_if_ne (pc := 23) d_Ou_wrongGaps_23 (tgt := 29) (by decide) (fun c8 => ?_) (fun c8 => ?_)
    · replace h := h.1 c8
      refine r_iinc (pc := 29) d_Ou_wrongGaps_29 (hi := by decide) (x := i2) rfl (v := i2 + 1) rfl (ls2 := [.ref a, .int i1, .int (i2 + 1)]) rfl ?_
      refine r_goto (pc := 32) d_Ou_wrongGaps_32 (tgt := 4) (by decide) ?_
      exact h
    · replace h := h.2 c8
      refine r_iinc (pc := 26) d_Ou_wrongGaps_26 (hi := by decide) (x := i1) rfl (v := i1 + 1) rfl (ls2 := [.ref a, .int (i1 + 1), .int i2]) rfl ?_
      refine r_iinc (pc := 29) d_Ou_wrongGaps_29 (hi := by decide) (x := i2) rfl (v := i2 + 1) rfl (ls2 := [.ref a, .int (i1 + 1), .int (i2 + 1)]) rfl ?_
      refine r_goto (pc := 32) d_Ou_wrongGaps_32 (tgt := 4) (by decide) ?_
      exact h
set_option maxRecDepth 4000 in
theorem e_Ou_finish {l : Launch} {d : Nat} {sh : aw_SH} {S : aw_S} {P : aw_S → Prop} {a : Nat} {p0 : Int32} {p1 : Int32} (sa : sh[a]? = some (0, 9)) (h : ∃ r1, S.2.2 a 7 = some r1 ∧ Sp l m_Ar_fill_AIIV d 0 0 [.ref r1, .int 0] sh S (gV sh (fun S2 => ((¬ p1 = 0 → Sp l m_Ou_wrongGaps d 0 0 [.ref a] sh S2 (gI sh (fun x5 S4 => ((¬ x5 = 0 → AW l m_Ou_finish (d + 1) 0 0 (gV sh P) 0 0 47 [.ref a, .int p0, .null, .int (S2.1 a 0), .int 0, .int 0] [] sh S4) ∧ (x5 = 0 → AW l m_Ou_finish (d + 1) 0 0 (gV sh P) 0 0 47 [.ref a, .int p0, .null, .int (S2.1 a 0), .int 1, .int 0] [] sh S4))))) ∧ (p1 = 0 → AW l m_Ou_finish (d + 1) 0 0 (gV sh P) 0 0 99 [.ref a, .null, .null, .int (S2.1 a 0), .int 0, .null] [] sh (aw_uI S2 a 0 ((S2.1 a 0) + (1 : Int32)))))))) : Sp l m_Ou_finish (d + 1) 0 0 [.ref a, .int p0, .int p1] sh S (gV sh P) := by
  refine Sp.of k_Ou_finish (ls := [.ref a, .int p0, .int p1, .null, .null, .null]) rfl (Nat.le_of_ble_eq_true rfl) ?_
  refine r_aload_n (pc := 0) d_Ou_finish_0 (x := a) rfl ?_
  obtain ⟨r1, er1, h⟩ := h
  refine r_getR (pc := 1) d_Ou_finish_1 f_Ou_24 sa (Or.inr ⟨_, rfl⟩) (r := r1) er1 ?_
  refine r_iconst (pc := 4) d_Ou_finish_4 (v := 0) (by decide) ?_
  refine r_callS (pc := 5) (k := 0) (As := [.ref r1, .int 0]) (rest := []) (mc' := 0) (ms' := 0) lk_Ou_30 st_Ar_fill_AIIV d_Ou_finish_5 k_Ar_fill_AIIV rfl rfl (Nat.le_of_ble_eq_true rfl) (by decide) (by decide) (Sp.mono h ?_)
  rintro rS2 shS2 S2 ⟨qS2, uS2, h⟩
  subst uS2
  rw [qS2]
  refine r_aload_n (pc := 8) d_Ou_finish_8 (x := a) rfl ?_
  refine r_getI (pc := 9) d_Ou_finish_9 f_Ou_59 sa rfl ?_
  refine r_istore_n (pc := 12) (hk := rfl) (hd := d_Ou_finish_12) (hi := by decide) (ls2 := [.ref a, .int p0, .int p1, .int (S2.1 a 0), .null, .null]) (h2 := rfl) ?_
  refine r_iload_n (pc := 13) d_Ou_finish_13 (x := p1) rfl ?_
  refine r_if_ne (pc := 14) d_Ou_finish_14 (tgt := 30) (by decide) (fun c3 => ?_) (fun c3 => ?_)
  · replace h := h.1 c3
    refine r_aload_n (pc := 30) d_Ou_finish_30 (x := a) rfl ?_
    refine r_callV (pc := 31) (k := a) (As := []) (rest := []) (mc' := 0) (ms' := 0) lk_Ou_83 in_Ou_wrongGaps se_Ou_wrongGaps sa rfl d_Ou_finish_31 k_Ou_wrongGaps rfl rfl (Nat.le_of_ble_eq_true rfl) (by decide) (by decide) (Sp.mono h ?_)
    rintro rS4 shS4 S4 ⟨qS4, x5, uS4, h⟩
    subst uS4
    rw [qS4]
    refine r_if_ne (pc := 34) d_Ou_finish_34 (tgt := 41) (by decide) (fun c6 => ?_) (fun c6 => ?_)
    · replace h := h.1 c6
      refine r_iconst (pc := 41) d_Ou_finish_41 (v := 0) (by decide) ?_
      refine r_istore (pc := 42) (hd := d_Ou_finish_42) (hi := by decide) (ls2 := [.ref a, .int p0, .int p1, .int (S2.1 a 0), .int 0, .null]) (h2 := rfl) ?_
      refine r_iconst (pc := 44) d_Ou_finish_44 (v := 0) (by decide) ?_
      refine r_istore (pc := 45) (hd := d_Ou_finish_45) (hi := by decide) (ls2 := [.ref a, .int p0, .int p1, .int (S2.1 a 0), .int 0, .int 0]) (h2 := rfl) ?_
      exact r_weak (ls2 := [.ref a, .int p0, .null, .int (S2.1 a 0), .int 0, .int 0]) ⟨Or.inr rfl, Or.inr rfl, Or.inl rfl, Or.inr rfl, Or.inr rfl, Or.inr rfl, trivial⟩ h
    · replace h := h.2 c6
      refine r_iconst (pc := 37) d_Ou_finish_37 (v := 1) (by decide) ?_
      refine r_goto (pc := 38) d_Ou_finish_38 (tgt := 42) (by decide) ?_
      refine r_istore (pc := 42) (hd := d_Ou_finish_42) (hi := by decide) (ls2 := [.ref a, .int p0, .int p1, .int (S2.1 a 0), .int 1, .null]) (h2 := rfl) ?_
      refine r_iconst (pc := 44) d_Ou_finish_44 (v := 0) (by decide) ?_
      refine r_istore (pc := 45) (hd := d_Ou_finish_45) (hi := by decide) (ls2 := [.ref a, .int p0, .int p1, .int (S2.1 a 0), .int 1, .int 0]) (h2 := rfl) ?_
      exact r_weak (ls2 := [.ref a, .int p0, .null, .int (S2.1 a 0), .int 1, .int 0]) ⟨Or.inr rfl, Or.inr rfl, Or.inl rfl, Or.inr rfl, Or.inr rfl, Or.inr rfl, trivial⟩ h
  · replace h := h.2 c3
    refine r_aload_n (pc := 17) d_Ou_finish_17 (x := a) rfl ?_
    refine r_dup (pc := 18) d_Ou_finish_18 rfl ?_
    refine r_getI (pc := 19) d_Ou_finish_19 f_Ou_59 sa rfl ?_
    refine r_iconst (pc := 22) d_Ou_finish_22 (v := 1) (by decide) ?_
    refine r_iadd (pc := 23) d_Ou_finish_23 ?_
    refine r_putI (pc := 24) d_Ou_finish_24 f_Ou_59 sa rfl ?_
    refine r_goto (pc := 27) d_Ou_finish_27 (tgt := 96) (by decide) ?_
    refine r_iconst (pc := 96) d_Ou_finish_96 (v := 0) (by decide) ?_
    refine r_istore (pc := 97) (hd := d_Ou_finish_97) (hi := by decide) (ls2 := [.ref a, .int p0, .int p1, .int (S2.1 a 0), .int 0, .null]) (h2 := rfl) ?_
    exact r_weak (ls2 := [.ref a, .null, .null, .int (S2.1 a 0), .int 0, .null]) ⟨Or.inr rfl, Or.inl rfl, Or.inl rfl, Or.inr rfl, Or.inr rfl, Or.inl rfl, trivial⟩ h
set_option maxRecDepth 4000 in
theorem s_Ou_finish_47 {l : Launch} {d : Nat} {sh : aw_SH} {S : aw_S} {P : aw_S → Prop} {a : Nat} {i1 : Int32} {i3 : Int32} {i4 : Int32} {i5 : Int32} (sa : sh[a]? = some (0, 9)) (h : ((((2 : Int32) * (S.1 a 3)) ≤ i5 → AW l m_Ou_finish (d + 1) 0 0 (gV sh P) 0 0 99 [.ref a, .null, .null, .int i3, .int 0, .null] [] sh S) ∧ (¬ ((2 : Int32) * (S.1 a 3)) ≤ i5 → ((¬ i4 = 0 → Sp l m_Ou_lastPass d 0 0 [.ref a, .int i1, .int i5] sh S (gV sh (fun S3 => AW l m_Ou_finish (d + 1) 0 0 (gV sh P) 0 0 47 [.ref a, .int i1, .null, .int i3, .int i4, .int (i5 + 1)] [] sh S3))) ∧ (i4 = 0 → ∃ r4, S.2.2 a 6 = some r4 ∧ ∃ n6, sh[r4]? = some (3, n6) ∧ vp_in (i5 >>> ((1 : Int32) &&& 31)) n6 ∧ Sp l m_Ou_suits d 0 0 [.ref a, .int (i5 >>> ((1 : Int32) &&& 31)), .int (S.1 r4 (i5 >>> ((1 : Int32) &&& 31) : Int32).toNatClampNeg)] sh S (gI sh (fun x9 S8 => ((¬ x9 = 0 → AW l m_Ou_finish (d + 1) 0 0 (gV sh P) 0 0 47 [.ref a, .int i1, .null, .int i3, .int i4, .int (i5 + 1)] [] sh S8) ∧ (x9 = 0 → Sp l m_Ou_lastPass d 0 0 [.ref a, .int i1, .int i5] sh S8 (gV sh (fun S11 => AW l m_Ou_finish (d + 1) 0 0 (gV sh P) 0 0 47 [.ref a, .int i1, .null, .int i3, .int i4, .int (i5 + 1)] [] sh S11))))))))))) : AW l m_Ou_finish (d + 1) 0 0 (gV sh P) 0 0 47 [.ref a, .int i1, .null, .int i3, .int i4, .int i5] [] sh S := by
  refine r_iload (pc := 47) d_Ou_finish_47 (x := i5) rfl ?_
  refine r_iconst (pc := 49) d_Ou_finish_49 (v := 2) (by decide) ?_
  refine r_aload_n (pc := 50) d_Ou_finish_50 (x := a) rfl ?_
  refine r_getI (pc := 51) d_Ou_finish_51 f_Ou_56 sa rfl ?_
  refine r_imul (pc := 54) d_Ou_finish_54 ?_
  refine r_icmp_ge (pc := 55) d_Ou_finish_55 (tgt := 96) (by decide) (fun c1 => ?_) (fun c1 => ?_)
  · replace h := h.1 c1
    refine r_iconst (pc := 96) d_Ou_finish_96 (v := 0) (by decide) ?_
    refine r_istore (pc := 97) (hd := d_Ou_finish_97) (hi := by decide) (ls2 := [.ref a, .int i1, .null, .int i3, .int 0, .int i5]) (h2 := rfl) ?_
    exact r_weak (ls2 := [.ref a, .null, .null, .int i3, .int 0, .null]) ⟨Or.inr rfl, Or.inl rfl, Or.inl rfl, Or.inr rfl, Or.inr rfl, Or.inl rfl, trivial⟩ h
  · replace h := h.2 c1
    refine r_iload (pc := 58) d_Ou_finish_58 (x := i4) rfl ?_
    refine r_if_ne (pc := 60) d_Ou_finish_60 (tgt := 83) (by decide) (fun c2 => ?_) (fun c2 => ?_)
    · replace h := h.1 c2
      refine r_aload_n (pc := 83) d_Ou_finish_83 (x := a) rfl ?_
      refine r_iload_n (pc := 84) d_Ou_finish_84 (x := i1) rfl ?_
      refine r_iload (pc := 85) d_Ou_finish_85 (x := i5) rfl ?_
      refine r_callV (pc := 87) (k := a) (As := [.int i1, .int i5]) (rest := []) (mc' := 0) (ms' := 0) lk_Ou_97 in_Ou_lastPass se_Ou_lastPass sa rfl d_Ou_finish_87 k_Ou_lastPass rfl rfl (Nat.le_of_ble_eq_true rfl) (by decide) (by decide) (Sp.mono h ?_)
      rintro rS3 shS3 S3 ⟨qS3, uS3, h⟩
      subst uS3
      rw [qS3]
      refine r_iinc (pc := 90) d_Ou_finish_90 (hi := by decide) (x := i5) rfl (v := i5 + 1) rfl (ls2 := [.ref a, .int i1, .null, .int i3, .int i4, .int (i5 + 1)]) rfl ?_
      refine r_goto (pc := 93) d_Ou_finish_93 (tgt := 47) (by decide) ?_
      exact h
    · replace h := h.2 c2
      refine r_aload_n (pc := 63) d_Ou_finish_63 (x := a) rfl ?_
      refine r_iload (pc := 64) d_Ou_finish_64 (x := i5) rfl ?_
      refine r_iconst (pc := 66) d_Ou_finish_66 (v := 1) (by decide) ?_
      refine r_ishr (pc := 67) d_Ou_finish_67 ?_
      refine r_aload_n (pc := 68) d_Ou_finish_68 (x := a) rfl ?_
      obtain ⟨r4, er4, h⟩ := h
      refine r_getR (pc := 69) d_Ou_finish_69 f_Ou_21 sa (Or.inr ⟨_, rfl⟩) (r := r4) er4 ?_
      refine r_iload (pc := 72) d_Ou_finish_72 (x := i5) rfl ?_
      refine r_iconst (pc := 74) d_Ou_finish_74 (v := 1) (by decide) ?_
      refine r_ishr (pc := 75) d_Ou_finish_75 ?_
      obtain ⟨n6, s5, h⟩ := h
      obtain ⟨g7, h⟩ := h
      refine r_iald (pc := 76) d_Ou_finish_76 s5 g7 ?_
      refine r_callV (pc := 77) (k := a) (As := [.int (i5 >>> ((1 : Int32) &&& 31)), .int (S.1 r4 (i5 >>> ((1 : Int32) &&& 31) : Int32).toNatClampNeg)]) (rest := []) (mc' := 0) (ms' := 0) lk_Ou_42 in_Ou_suits se_Ou_suits sa rfl d_Ou_finish_77 k_Ou_suits rfl rfl (Nat.le_of_ble_eq_true rfl) (by decide) (by decide) (Sp.mono h ?_)
      rintro rS8 shS8 S8 ⟨qS8, x9, uS8, h⟩
      subst uS8
      rw [qS8]
      refine r_if_ne (pc := 80) d_Ou_finish_80 (tgt := 90) (by decide) (fun c10 => ?_) (fun c10 => ?_)
      · replace h := h.1 c10
        refine r_iinc (pc := 90) d_Ou_finish_90 (hi := by decide) (x := i5) rfl (v := i5 + 1) rfl (ls2 := [.ref a, .int i1, .null, .int i3, .int i4, .int (i5 + 1)]) rfl ?_
        refine r_goto (pc := 93) d_Ou_finish_93 (tgt := 47) (by decide) ?_
        exact h
      · replace h := h.2 c10
        refine r_aload_n (pc := 83) d_Ou_finish_83 (x := a) rfl ?_
        refine r_iload_n (pc := 84) d_Ou_finish_84 (x := i1) rfl ?_
        refine r_iload (pc := 85) d_Ou_finish_85 (x := i5) rfl ?_
        refine r_callV (pc := 87) (k := a) (As := [.int i1, .int i5]) (rest := []) (mc' := 0) (ms' := 0) lk_Ou_97 in_Ou_lastPass se_Ou_lastPass sa rfl d_Ou_finish_87 k_Ou_lastPass rfl rfl (Nat.le_of_ble_eq_true rfl) (by decide) (by decide) (Sp.mono h ?_)
        rintro rS11 shS11 S11 ⟨qS11, uS11, h⟩
        subst uS11
        rw [qS11]
        refine r_iinc (pc := 90) d_Ou_finish_90 (hi := by decide) (x := i5) rfl (v := i5 + 1) rfl (ls2 := [.ref a, .int i1, .null, .int i3, .int i4, .int (i5 + 1)]) rfl ?_
        refine r_goto (pc := 93) d_Ou_finish_93 (tgt := 47) (by decide) ?_
        exact h
set_option maxRecDepth 4000 in
theorem s_Ou_finish_99 {l : Launch} {d : Nat} {sh : aw_SH} {S : aw_S} {P : aw_S → Prop} {a : Nat} {i3 : Int32} {i4 : Int32} (sa : sh[a]? = some (0, 9)) (h : (((S.1 a 3) ≤ i4 → P S) ∧ (¬ (S.1 a 3) ≤ i4 → ∃ r2, S.2.2 a 8 = some r2 ∧ ∃ r3, S.2.2 a 6 = some r3 ∧ ∃ n5, sh[r3]? = some (3, n5) ∧ vp_in i4 n5 ∧ Sp l m_Ou_cell d 0 0 [.int i4, .int (S.1 r3 i4.toNatClampNeg)] sh S (gI sh (fun x8 S7 => ∃ n10, sh[r2]? = some (3, n10) ∧ vp_in x8 n10 ∧ ∃ r12, S7.2.2 a 7 = some r12 ∧ ∃ n14, sh[r12]? = some (3, n14) ∧ vp_in i4 n14 ∧ vp_in x8 n10 ∧ AW l m_Ou_finish (d + 1) 0 0 (gV sh P) 0 0 99 [.ref a, .null, .null, .int i3, .int (i4 + 1), .null] [] sh (aw_uI S7 r2 x8.toNatClampNeg ((S7.1 r2 x8.toNatClampNeg) + (((S7.1 a 0) - i3) - (S7.1 r12 i4.toNatClampNeg))))))))) : AW l m_Ou_finish (d + 1) 0 0 (gV sh P) 0 0 99 [.ref a, .null, .null, .int i3, .int i4, .null] [] sh S := by
  refine r_iload (pc := 99) d_Ou_finish_99 (x := i4) rfl ?_
  refine r_aload_n (pc := 101) d_Ou_finish_101 (x := a) rfl ?_
  refine r_getI (pc := 102) d_Ou_finish_102 f_Ou_56 sa rfl ?_
  refine r_icmp_ge (pc := 105) d_Ou_finish_105 (tgt := 148) (by decide) (fun c1 => ?_) (fun c1 => ?_)
  · replace h := h.1 c1
    exact r_return (pc := 148) d_Ou_finish_148 rfl rfl (Nat.le_refl _) ⟨rfl, rfl, h⟩
  · replace h := h.2 c1
    refine r_aload_n (pc := 108) d_Ou_finish_108 (x := a) rfl ?_
    obtain ⟨r2, er2, h⟩ := h
    refine r_getR (pc := 109) d_Ou_finish_109 f_Ou_27 sa (Or.inr ⟨_, rfl⟩) (r := r2) er2 ?_
    refine r_iload (pc := 112) d_Ou_finish_112 (x := i4) rfl ?_
    refine r_aload_n (pc := 114) d_Ou_finish_114 (x := a) rfl ?_
    obtain ⟨r3, er3, h⟩ := h
    refine r_getR (pc := 115) d_Ou_finish_115 f_Ou_21 sa (Or.inr ⟨_, rfl⟩) (r := r3) er3 ?_
    refine r_iload (pc := 118) d_Ou_finish_118 (x := i4) rfl ?_
    obtain ⟨n5, s4, h⟩ := h
    obtain ⟨g6, h⟩ := h
    refine r_iald (pc := 120) d_Ou_finish_120 s4 g6 ?_
    refine r_callS (pc := 121) (k := 0) (As := [.int i4, .int (S.1 r3 i4.toNatClampNeg)]) (rest := [.ref r2]) (mc' := 0) (ms' := 0) lk_Ou_70 st_Ou_cell d_Ou_finish_121 k_Ou_cell rfl rfl (Nat.le_of_ble_eq_true rfl) (by decide) (by decide) (Sp.mono h ?_)
    rintro rS7 shS7 S7 ⟨qS7, x8, uS7, h⟩
    subst uS7
    rw [qS7]
    refine r_dup2 (pc := 124) d_Ou_finish_124 rfl rfl ?_
    obtain ⟨n10, s9, h⟩ := h
    obtain ⟨g11, h⟩ := h
    refine r_iald (pc := 125) d_Ou_finish_125 s9 g11 ?_
    refine r_aload_n (pc := 126) d_Ou_finish_126 (x := a) rfl ?_
    refine r_getI (pc := 127) d_Ou_finish_127 f_Ou_59 sa rfl ?_
    refine r_iload_n (pc := 130) d_Ou_finish_130 (x := i3) rfl ?_
    refine r_isub (pc := 131) d_Ou_finish_131 ?_
    refine r_aload_n (pc := 132) d_Ou_finish_132 (x := a) rfl ?_
    obtain ⟨r12, er12, h⟩ := h
    refine r_getR (pc := 133) d_Ou_finish_133 f_Ou_24 sa (Or.inr ⟨_, rfl⟩) (r := r12) er12 ?_
    refine r_iload (pc := 136) d_Ou_finish_136 (x := i4) rfl ?_
    obtain ⟨n14, s13, h⟩ := h
    obtain ⟨g15, h⟩ := h
    refine r_iald (pc := 138) d_Ou_finish_138 s13 g15 ?_
    refine r_isub (pc := 139) d_Ou_finish_139 ?_
    refine r_iadd (pc := 140) d_Ou_finish_140 ?_
    obtain ⟨g16, h⟩ := h
    refine r_iast (pc := 141) d_Ou_finish_141 s9 g16 ?_
    refine r_iinc (pc := 142) d_Ou_finish_142 (hi := by decide) (x := i4) rfl (v := i4 + 1) rfl (ls2 := [.ref a, .null, .null, .int i3, .int (i4 + 1), .null]) rfl ?_
    refine r_goto (pc := 145) d_Ou_finish_145 (tgt := 99) (by decide) ?_
    exact h
set_option maxRecDepth 4000 in
theorem e_Ou_lastPass {l : Launch} {d : Nat} {sh : aw_SH} {S : aw_S} {P : aw_S → Prop} {a : Nat} {p0 : Int32} {p1 : Int32} (sa : sh[a]? = some (0, 9)) (h : ∃ r1, S.2.2 a 2 = some r1 ∧ sh[r1]? = some (0, 2) ∧ Sp l m_Gr_colourBehind d 0 0 [.ref r1, .int (p1 >>> ((1 : Int32) &&& 31)), .int (p1 &&& (1 : Int32))] sh S (gI sh (fun x4 S3 => ((x4 = (-1) → P S3) ∧ (¬ x4 = (-1) → Sp l m_Ou_suits d 0 0 [.ref a, .int (p1 >>> ((1 : Int32) &&& 31)), .int x4] sh S3 (gI sh (fun x7 S6 => ((¬ x7 = 0 → ((¬ (S6.1 a 0) = 0 → ∃ r10, (aw_uI S6 a 0 ((S6.1 a 0) + (1 : Int32))).2.2 a 7 = some r10 ∧ ∃ n12, sh[r10]? = some (3, n12) ∧ vp_in (p1 >>> ((1 : Int32) &&& 31)) n12 ∧ vp_in (p1 >>> ((1 : Int32) &&& 31)) n12 ∧ ∃ r15, (aw_uI (aw_uI S6 a 0 ((S6.1 a 0) + (1 : Int32))) r10 ((p1 >>> ((1 : Int32) &&& 31) : Int32).toNatClampNeg) (((aw_uI S6 a 0 ((S6.1 a 0) + (1 : Int32))).1 r10 (p1 >>> ((1 : Int32) &&& 31) : Int32).toNatClampNeg) + (1 : Int32))).2.2 a 8 = some r15 ∧ Sp l m_Ou_cell d 0 0 [.int (p1 >>> ((1 : Int32) &&& 31)), .int x4] sh (aw_uI (aw_uI S6 a 0 ((S6.1 a 0) + (1 : Int32))) r10 ((p1 >>> ((1 : Int32) &&& 31) : Int32).toNatClampNeg) (((aw_uI S6 a 0 ((S6.1 a 0) + (1 : Int32))).1 r10 (p1 >>> ((1 : Int32) &&& 31) : Int32).toNatClampNeg) + (1 : Int32))) (gI sh (fun x17 S16 => ∃ n19, sh[r15]? = some (3, n19) ∧ vp_in x17 n19 ∧ vp_in x17 n19 ∧ P (aw_uI S16 r15 x17.toNatClampNeg ((S16.1 r15 x17.toNatClampNeg) + (1 : Int32)))))) ∧ ((S6.1 a 0) = 0 → ∃ r22, S6.2.2 a 4 = some r22 ∧ ∃ n24, sh[r22]? = some (3, n24) ∧ vp_in p0 n24 ∧ ∃ r26, (aw_uI S6 r22 p0.toNatClampNeg p1).2.2 a 1 = some r26 ∧ ∃ n28, sh[r26]? = some (3, n28) ∧ ¬ (0 : Int32) < 0 ∧ ¬ (0 : Int32) < 0 ∧ ¬ (4 : Int32) < 0 ∧ (0 : Int32).toNatClampNeg + (4 : Int32).toNatClampNeg ≤ n24 ∧ (0 : Int32).toNatClampNeg + (4 : Int32).toNatClampNeg ≤ n28 ∧ ∃ r34, (aw_uI (aw_cpi (aw_uI S6 r22 p0.toNatClampNeg p1) r22 r26 0 0 4) a 0 (((aw_cpi (aw_uI S6 r22 p0.toNatClampNeg p1) r22 r26 0 0 4).1 a 0) + (1 : Int32))).2.2 a 7 = some r34 ∧ ∃ n36, sh[r34]? = some (3, n36) ∧ vp_in (p1 >>> ((1 : Int32) &&& 31)) n36 ∧ vp_in (p1 >>> ((1 : Int32) &&& 31)) n36 ∧ ∃ r39, (aw_uI (aw_uI (aw_cpi (aw_uI S6 r22 p0.toNatClampNeg p1) r22 r26 0 0 4) a 0 (((aw_cpi (aw_uI S6 r22 p0.toNatClampNeg p1) r22 r26 0 0 4).1 a 0) + (1 : Int32))) r34 ((p1 >>> ((1 : Int32) &&& 31) : Int32).toNatClampNeg) (((aw_uI (aw_cpi (aw_uI S6 r22 p0.toNatClampNeg p1) r22 r26 0 0 4) a 0 (((aw_cpi (aw_uI S6 r22 p0.toNatClampNeg p1) r22 r26 0 0 4).1 a 0) + (1 : Int32))).1 r34 (p1 >>> ((1 : Int32) &&& 31) : Int32).toNatClampNeg) + (1 : Int32))).2.2 a 8 = some r39 ∧ Sp l m_Ou_cell d 0 0 [.int (p1 >>> ((1 : Int32) &&& 31)), .int x4] sh (aw_uI (aw_uI (aw_cpi (aw_uI S6 r22 p0.toNatClampNeg p1) r22 r26 0 0 4) a 0 (((aw_cpi (aw_uI S6 r22 p0.toNatClampNeg p1) r22 r26 0 0 4).1 a 0) + (1 : Int32))) r34 ((p1 >>> ((1 : Int32) &&& 31) : Int32).toNatClampNeg) (((aw_uI (aw_cpi (aw_uI S6 r22 p0.toNatClampNeg p1) r22 r26 0 0 4) a 0 (((aw_cpi (aw_uI S6 r22 p0.toNatClampNeg p1) r22 r26 0 0 4).1 a 0) + (1 : Int32))).1 r34 (p1 >>> ((1 : Int32) &&& 31) : Int32).toNatClampNeg) + (1 : Int32))) (gI sh (fun x41 S40 => ∃ n43, sh[r39]? = some (3, n43) ∧ vp_in x41 n43 ∧ vp_in x41 n43 ∧ P (aw_uI S40 r39 x41.toNatClampNeg ((S40.1 r39 x41.toNatClampNeg) + (1 : Int32)))))))) ∧ (x7 = 0 → P S6))))))))) : Sp l m_Ou_lastPass (d + 1) 0 0 [.ref a, .int p0, .int p1] sh S (gV sh P) := by
  refine Sp.of k_Ou_lastPass (ls := [.ref a, .int p0, .int p1, .null, .null]) rfl (Nat.le_of_ble_eq_true rfl) ?_
  refine r_iload_n (pc := 0) d_Ou_lastPass_0 (x := p1) rfl ?_
  refine r_iconst (pc := 1) d_Ou_lastPass_1 (v := 1) (by decide) ?_
  refine r_ishr (pc := 2) d_Ou_lastPass_2 ?_
  refine r_istore_n (pc := 3) (hk := rfl) (hd := d_Ou_lastPass_3) (hi := by decide) (ls2 := [.ref a, .int p0, .int p1, .int (p1 >>> ((1 : Int32) &&& 31)), .null]) (h2 := rfl) ?_
  refine r_aload_n (pc := 4) d_Ou_lastPass_4 (x := a) rfl ?_
  obtain ⟨r1, er1, h⟩ := h
  refine r_getR (pc := 5) d_Ou_lastPass_5 f_Ou_46 sa (Or.inl ⟨_, rfl⟩) (r := r1) er1 ?_
  refine r_iload_n (pc := 8) d_Ou_lastPass_8 (x := (p1 >>> ((1 : Int32) &&& 31))) rfl ?_
  refine r_iload_n (pc := 9) d_Ou_lastPass_9 (x := p1) rfl ?_
  refine r_iconst (pc := 10) d_Ou_lastPass_10 (v := 1) (by decide) ?_
  refine r_iand (pc := 11) d_Ou_lastPass_11 ?_
  obtain ⟨s2, h⟩ := h
  refine r_callV (pc := 12) (k := r1) (As := [.int (p1 >>> ((1 : Int32) &&& 31)), .int (p1 &&& (1 : Int32))]) (rest := []) (mc' := 0) (ms' := 0) lk_Ou_100 in_Gr_colourBehind se_Gr_colourBehind s2 rfl d_Ou_lastPass_12 k_Gr_colourBehind rfl rfl (Nat.le_of_ble_eq_true rfl) (by decide) (by decide) (Sp.mono h ?_)
  rintro rS3 shS3 S3 ⟨qS3, x4, uS3, h⟩
  subst uS3
  rw [qS3]
  refine r_istore (pc := 15) (hd := d_Ou_lastPass_15) (hi := by decide) (ls2 := [.ref a, .int p0, .int p1, .int (p1 >>> ((1 : Int32) &&& 31)), .int x4]) (h2 := rfl) ?_
  refine r_iload (pc := 17) d_Ou_lastPass_17 (x := x4) rfl ?_
  refine r_iconst (pc := 19) d_Ou_lastPass_19 (v := (-1)) (by decide) ?_
  refine r_icmp_eq (pc := 20) d_Ou_lastPass_20 (tgt := 33) (by decide) (fun c5 => ?_) (fun c5 => ?_)
  · replace h := h.1 c5
    exact r_return (pc := 33) d_Ou_lastPass_33 rfl rfl (Nat.le_refl _) ⟨rfl, rfl, h⟩
  · replace h := h.2 c5
    refine r_aload_n (pc := 23) d_Ou_lastPass_23 (x := a) rfl ?_
    refine r_iload_n (pc := 24) d_Ou_lastPass_24 (x := (p1 >>> ((1 : Int32) &&& 31))) rfl ?_
    refine r_iload (pc := 25) d_Ou_lastPass_25 (x := x4) rfl ?_
    refine r_callV (pc := 27) (k := a) (As := [.int (p1 >>> ((1 : Int32) &&& 31)), .int x4]) (rest := []) (mc' := 0) (ms' := 0) lk_Ou_42 in_Ou_suits se_Ou_suits sa rfl d_Ou_lastPass_27 k_Ou_suits rfl rfl (Nat.le_of_ble_eq_true rfl) (by decide) (by decide) (Sp.mono h ?_)
    rintro rS6 shS6 S6 ⟨qS6, x7, uS6, h⟩
    subst uS6
    rw [qS6]
    refine r_if_ne (pc := 30) d_Ou_lastPass_30 (tgt := 34) (by decide) (fun c8 => ?_) (fun c8 => ?_)
    · replace h := h.1 c8
      refine r_aload_n (pc := 34) d_Ou_lastPass_34 (x := a) rfl ?_
      refine r_getI (pc := 35) d_Ou_lastPass_35 f_Ou_59 sa rfl ?_
      refine r_if_ne (pc := 38) d_Ou_lastPass_38 (tgt := 62) (by decide) (fun c9 => ?_) (fun c9 => ?_)
      · replace h := h.1 c9
        refine r_aload_n (pc := 62) d_Ou_lastPass_62 (x := a) rfl ?_
        refine r_dup (pc := 63) d_Ou_lastPass_63 rfl ?_
        refine r_getI (pc := 64) d_Ou_lastPass_64 f_Ou_59 sa rfl ?_
        refine r_iconst (pc := 67) d_Ou_lastPass_67 (v := 1) (by decide) ?_
        refine r_iadd (pc := 68) d_Ou_lastPass_68 ?_
        refine r_putI (pc := 69) d_Ou_lastPass_69 f_Ou_59 sa rfl ?_
        refine r_aload_n (pc := 72) d_Ou_lastPass_72 (x := a) rfl ?_
        obtain ⟨r10, er10, h⟩ := h
        refine r_getR (pc := 73) d_Ou_lastPass_73 f_Ou_24 sa (Or.inr ⟨_, rfl⟩) (r := r10) er10 ?_
        refine r_iload_n (pc := 76) d_Ou_lastPass_76 (x := (p1 >>> ((1 : Int32) &&& 31))) rfl ?_
        refine r_dup2 (pc := 77) d_Ou_lastPass_77 rfl rfl ?_
        obtain ⟨n12, s11, h⟩ := h
        obtain ⟨g13, h⟩ := h
        refine r_iald (pc := 78) d_Ou_lastPass_78 s11 g13 ?_
        refine r_iconst (pc := 79) d_Ou_lastPass_79 (v := 1) (by decide) ?_
        refine r_iadd (pc := 80) d_Ou_lastPass_80 ?_
        obtain ⟨g14, h⟩ := h
        refine r_iast (pc := 81) d_Ou_lastPass_81 s11 g14 ?_
        refine r_aload_n (pc := 82) d_Ou_lastPass_82 (x := a) rfl ?_
        obtain ⟨r15, er15, h⟩ := h
        refine r_getR (pc := 83) d_Ou_lastPass_83 f_Ou_27 sa (Or.inr ⟨_, rfl⟩) (r := r15) er15 ?_
        refine r_iload_n (pc := 86) d_Ou_lastPass_86 (x := (p1 >>> ((1 : Int32) &&& 31))) rfl ?_
        refine r_iload (pc := 87) d_Ou_lastPass_87 (x := x4) rfl ?_
        refine r_callS (pc := 89) (k := 0) (As := [.int (p1 >>> ((1 : Int32) &&& 31)), .int x4]) (rest := [.ref r15]) (mc' := 0) (ms' := 0) lk_Ou_70 st_Ou_cell d_Ou_lastPass_89 k_Ou_cell rfl rfl (Nat.le_of_ble_eq_true rfl) (by decide) (by decide) (Sp.mono h ?_)
        rintro rS16 shS16 S16 ⟨qS16, x17, uS16, h⟩
        subst uS16
        rw [qS16]
        refine r_dup2 (pc := 92) d_Ou_lastPass_92 rfl rfl ?_
        obtain ⟨n19, s18, h⟩ := h
        obtain ⟨g20, h⟩ := h
        refine r_iald (pc := 93) d_Ou_lastPass_93 s18 g20 ?_
        refine r_iconst (pc := 94) d_Ou_lastPass_94 (v := 1) (by decide) ?_
        refine r_iadd (pc := 95) d_Ou_lastPass_95 ?_
        obtain ⟨g21, h⟩ := h
        refine r_iast (pc := 96) d_Ou_lastPass_96 s18 g21 ?_
        exact r_return (pc := 97) d_Ou_lastPass_97 rfl rfl (Nat.le_refl _) ⟨rfl, rfl, h⟩
      · replace h := h.2 c9
        refine r_aload_n (pc := 41) d_Ou_lastPass_41 (x := a) rfl ?_
        obtain ⟨r22, er22, h⟩ := h
        refine r_getR (pc := 42) d_Ou_lastPass_42 f_Ou_15 sa (Or.inr ⟨_, rfl⟩) (r := r22) er22 ?_
        refine r_iload_n (pc := 45) d_Ou_lastPass_45 (x := p0) rfl ?_
        refine r_iload_n (pc := 46) d_Ou_lastPass_46 (x := p1) rfl ?_
        obtain ⟨n24, s23, h⟩ := h
        obtain ⟨g25, h⟩ := h
        refine r_iast (pc := 47) d_Ou_lastPass_47 s23 g25 ?_
        refine r_aload_n (pc := 48) d_Ou_lastPass_48 (x := a) rfl ?_
        refine r_getR (pc := 49) d_Ou_lastPass_49 f_Ou_15 sa (Or.inr ⟨_, rfl⟩) (r := r22) er22 ?_
        refine r_iconst (pc := 52) d_Ou_lastPass_52 (v := 0) (by decide) ?_
        refine r_aload_n (pc := 53) d_Ou_lastPass_53 (x := a) rfl ?_
        obtain ⟨r26, er26, h⟩ := h
        refine r_getR (pc := 54) d_Ou_lastPass_54 f_Ou_9 sa (Or.inr ⟨_, rfl⟩) (r := r26) er26 ?_
        refine r_iconst (pc := 57) d_Ou_lastPass_57 (v := 0) (by decide) ?_
        refine r_iconst (pc := 58) d_Ou_lastPass_58 (v := 4) (by decide) ?_
        obtain ⟨n28, s27, h⟩ := h
        obtain ⟨g29, g30, g31, g32, g33, h⟩ := h
        refine r_copyi (pc := 59) d_Ou_lastPass_59 ck_Ou_103 s23 s27 g29 g30 g31 g32 g33 (Nat.le_of_ble_eq_true rfl) ?_
        refine r_aload_n (pc := 62) d_Ou_lastPass_62 (x := a) rfl ?_
        refine r_dup (pc := 63) d_Ou_lastPass_63 rfl ?_
        refine r_getI (pc := 64) d_Ou_lastPass_64 f_Ou_59 sa rfl ?_
        refine r_iconst (pc := 67) d_Ou_lastPass_67 (v := 1) (by decide) ?_
        refine r_iadd (pc := 68) d_Ou_lastPass_68 ?_
        refine r_putI (pc := 69) d_Ou_lastPass_69 f_Ou_59 sa rfl ?_
        refine r_aload_n (pc := 72) d_Ou_lastPass_72 (x := a) rfl ?_
        obtain ⟨r34, er34, h⟩ := h
        refine r_getR (pc := 73) d_Ou_lastPass_73 f_Ou_24 sa (Or.inr ⟨_, rfl⟩) (r := r34) er34 ?_
        refine r_iload_n (pc := 76) d_Ou_lastPass_76 (x := (p1 >>> ((1 : Int32) &&& 31))) rfl ?_
        refine r_dup2 (pc := 77) d_Ou_lastPass_77 rfl rfl ?_
        obtain ⟨n36, s35, h⟩ := h
        obtain ⟨g37, h⟩ := h
        refine r_iald (pc := 78) d_Ou_lastPass_78 s35 g37 ?_
        refine r_iconst (pc := 79) d_Ou_lastPass_79 (v := 1) (by decide) ?_
        refine r_iadd (pc := 80) d_Ou_lastPass_80 ?_
        obtain ⟨g38, h⟩ := h
        refine r_iast (pc := 81) d_Ou_lastPass_81 s35 g38 ?_
        refine r_aload_n (pc := 82) d_Ou_lastPass_82 (x := a) rfl ?_
        obtain ⟨r39, er39, h⟩ := h
        refine r_getR (pc := 83) d_Ou_lastPass_83 f_Ou_27 sa (Or.inr ⟨_, rfl⟩) (r := r39) er39 ?_
        refine r_iload_n (pc := 86) d_Ou_lastPass_86 (x := (p1 >>> ((1 : Int32) &&& 31))) rfl ?_
        refine r_iload (pc := 87) d_Ou_lastPass_87 (x := x4) rfl ?_
        refine r_callS (pc := 89) (k := 0) (As := [.int (p1 >>> ((1 : Int32) &&& 31)), .int x4]) (rest := [.ref r39]) (mc' := 0) (ms' := 0) lk_Ou_70 st_Ou_cell d_Ou_lastPass_89 k_Ou_cell rfl rfl (Nat.le_of_ble_eq_true rfl) (by decide) (by decide) (Sp.mono h ?_)
        rintro rS40 shS40 S40 ⟨qS40, x41, uS40, h⟩
        subst uS40
        rw [qS40]
        refine r_dup2 (pc := 92) d_Ou_lastPass_92 rfl rfl ?_
        obtain ⟨n43, s42, h⟩ := h
        obtain ⟨g44, h⟩ := h
        refine r_iald (pc := 93) d_Ou_lastPass_93 s42 g44 ?_
        refine r_iconst (pc := 94) d_Ou_lastPass_94 (v := 1) (by decide) ?_
        refine r_iadd (pc := 95) d_Ou_lastPass_95 ?_
        obtain ⟨g45, h⟩ := h
        refine r_iast (pc := 96) d_Ou_lastPass_96 s42 g45 ?_
        exact r_return (pc := 97) d_Ou_lastPass_97 rfl rfl (Nat.le_refl _) ⟨rfl, rfl, h⟩
    · replace h := h.2 c8
      exact r_return (pc := 33) d_Ou_lastPass_33 rfl rfl (Nat.le_refl _) ⟨rfl, rfl, h⟩
set_option maxRecDepth 4000 in
theorem e_Ou_cell {l : Launch} {d : Nat} {sh : aw_SH} {S : aw_S} {P : Int32 → aw_S → Prop} {p0 : Int32} {p1 : Int32} (h : P ((p0 * (7 : Int32)) + p1) S) : Sp l m_Ou_cell (d + 1) 0 0 [.int p0, .int p1] sh S (gI sh P) := by
  refine Sp.of k_Ou_cell (ls := [.int p0, .int p1]) rfl (Nat.le_of_ble_eq_true rfl) ?_
  refine r_iload_n (pc := 0) d_Ou_cell_0 (x := p0) rfl ?_
  refine r_bipush (pc := 1) d_Ou_cell_1 (v := 7) (by decide) ?_
  refine r_imul (pc := 3) d_Ou_cell_3 ?_
  refine r_iload_n (pc := 4) d_Ou_cell_4 (x := p1) rfl ?_
  refine r_iadd (pc := 5) d_Ou_cell_5 ?_
  exact r_ireturn (pc := 6) d_Ou_cell_6 rfl rfl (Nat.le_refl _) ⟨rfl, _, rfl, h⟩
set_option maxRecDepth 4000 in
theorem e_Ou_partingGap {l : Launch} {d : Nat} {sh : aw_SH} {S : aw_S} {P : Int32 → aw_S → Prop} {a : Nat} (sa : sh[a]? = some (0, 9)) (h : AW l m_Ou_partingGap (d + 1) 0 0 (gI sh P) 0 0 9 [.ref a, .int (-1), .int (S.1 a 0), .int 0, .null, .null] [] sh S) : Sp l m_Ou_partingGap (d + 1) 0 0 [.ref a] sh S (gI sh P) := by
  refine Sp.of k_Ou_partingGap (ls := [.ref a, .null, .null, .null, .null, .null]) rfl (Nat.le_of_ble_eq_true rfl) ?_
  refine r_iconst (pc := 0) d_Ou_partingGap_0 (v := (-1)) (by decide) ?_
  refine r_istore_n (pc := 1) (hk := rfl) (hd := d_Ou_partingGap_1) (hi := by decide) (ls2 := [.ref a, .int (-1), .null, .null, .null, .null]) (h2 := rfl) ?_
  refine r_aload_n (pc := 2) d_Ou_partingGap_2 (x := a) rfl ?_
  refine r_getI (pc := 3) d_Ou_partingGap_3 f_Ou_59 sa rfl ?_
  refine r_istore_n (pc := 6) (hk := rfl) (hd := d_Ou_partingGap_6) (hi := by decide) (ls2 := [.ref a, .int (-1), .int (S.1 a 0), .null, .null, .null]) (h2 := rfl) ?_
  refine r_iconst (pc := 7) d_Ou_partingGap_7 (v := 0) (by decide) ?_
  refine r_istore_n (pc := 8) (hk := rfl) (hd := d_Ou_partingGap_8) (hi := by decide) (ls2 := [.ref a, .int (-1), .int (S.1 a 0), .int 0, .null, .null]) (h2 := rfl) ?_
  exact h
set_option maxRecDepth 4000 in
theorem s_Ou_partingGap_9 {l : Launch} {d : Nat} {sh : aw_SH} {S : aw_S} {P : Int32 → aw_S → Prop} {a : Nat} {i1 : Int32} {i2 : Int32} {i3 : Int32} (sa : sh[a]? = some (0, 9)) (h : (((S.1 a 3) ≤ i3 → P i1 S) ∧ (¬ (S.1 a 3) ≤ i3 → AW l m_Ou_partingGap (d + 1) 0 0 (gI sh P) 0 0 23 [.ref a, .int i1, .int i2, .int i3, .int 0, .int 0] [] sh S))) : AW l m_Ou_partingGap (d + 1) 0 0 (gI sh P) 0 0 9 [.ref a, .int i1, .int i2, .int i3, .null, .null] [] sh S := by
  refine r_iload_n (pc := 9) d_Ou_partingGap_9 (x := i3) rfl ?_
  refine r_aload_n (pc := 10) d_Ou_partingGap_10 (x := a) rfl ?_
  refine r_getI (pc := 11) d_Ou_partingGap_11 f_Ou_56 sa rfl ?_
  refine r_icmp_ge (pc := 14) d_Ou_partingGap_14 (tgt := 71) (by decide) (fun c1 => ?_) (fun c1 => ?_)
  · replace h := h.1 c1
    refine r_iload_n (pc := 71) d_Ou_partingGap_71 (x := i1) rfl ?_
    exact r_ireturn (pc := 72) d_Ou_partingGap_72 rfl rfl (Nat.le_refl _) ⟨rfl, _, rfl, h⟩
  · replace h := h.2 c1
    refine r_iconst (pc := 17) d_Ou_partingGap_17 (v := 0) (by decide) ?_
    refine r_istore (pc := 18) (hd := d_Ou_partingGap_18) (hi := by decide) (ls2 := [.ref a, .int i1, .int i2, .int i3, .int 0, .null]) (h2 := rfl) ?_
    refine r_iconst (pc := 20) d_Ou_partingGap_20 (v := 0) (by decide) ?_
    refine r_istore (pc := 21) (hd := d_Ou_partingGap_21) (hi := by decide) (ls2 := [.ref a, .int i1, .int i2, .int i3, .int 0, .int 0]) (h2 := rfl) ?_
    exact h
set_option maxRecDepth 4000 in
theorem s_Ou_partingGap_23 {l : Launch} {d : Nat} {sh : aw_SH} {S : aw_S} {P : Int32 → aw_S → Prop} {a : Nat} {i1 : Int32} {i2 : Int32} {i3 : Int32} {i4 : Int32} {i5 : Int32} (sa : sh[a]? = some (0, 9)) (h : ((6 < i5 → ((i2 ≤ i4 → AW l m_Ou_partingGap (d + 1) 0 0 (gI sh P) 0 0 9 [.ref a, .int i1, .int i2, .int (i3 + 1), .null, .null] [] sh S) ∧ (¬ i2 ≤ i4 → AW l m_Ou_partingGap (d + 1) 0 0 (gI sh P) 0 0 9 [.ref a, .int i3, .int i4, .int (i3 + 1), .null, .null] [] sh S))) ∧ (¬ 6 < i5 → ∃ r3, S.2.2 a 8 = some r3 ∧ Sp l m_Ou_cell d 0 0 [.int i3, .int i5] sh S (gI sh (fun x5 S4 => ∃ n7, sh[r3]? = some (3, n7) ∧ vp_in x5 n7 ∧ Sp l m_Ma_max d 0 0 [.int i4, .int (S4.1 r3 x5.toNatClampNeg)] sh S4 (gI sh (fun x10 S9 => AW l m_Ou_partingGap (d + 1) 0 0 (gI sh P) 0 0 23 [.ref a, .int i1, .int i2, .int i3, .int x10, .int (i5 + 1)] [] sh S9))))))) : AW l m_Ou_partingGap (d + 1) 0 0 (gI sh P) 0 0 23 [.ref a, .int i1, .int i2, .int i3, .int i4, .int i5] [] sh S := by
  refine r_iload (pc := 23) d_Ou_partingGap_23 (x := i5) rfl ?_
  refine r_bipush (pc := 25) d_Ou_partingGap_25 (v := 6) (by decide) ?_
  refine r_icmp_gt (pc := 27) d_Ou_partingGap_27 (tgt := 54) (by decide) (fun c1 => ?_) (fun c1 => ?_)
  · replace h := h.1 c1
    refine r_iload (pc := 54) d_Ou_partingGap_54 (x := i4) rfl ?_
    refine r_iload_n (pc := 56) d_Ou_partingGap_56 (x := i2) rfl ?_
    refine r_icmp_ge (pc := 57) d_Ou_partingGap_57 (tgt := 65) (by decide) (fun c2 => ?_) (fun c2 => ?_)
    · replace h := h.1 c2
      refine r_iinc (pc := 65) d_Ou_partingGap_65 (hi := by decide) (x := i3) rfl (v := i3 + 1) rfl (ls2 := [.ref a, .int i1, .int i2, .int (i3 + 1), .int i4, .int i5]) rfl ?_
      refine r_goto (pc := 68) d_Ou_partingGap_68 (tgt := 9) (by decide) ?_
      exact r_weak (ls2 := [.ref a, .int i1, .int i2, .int (i3 + 1), .null, .null]) ⟨Or.inr rfl, Or.inr rfl, Or.inr rfl, Or.inr rfl, Or.inl rfl, Or.inl rfl, trivial⟩ h
    · replace h := h.2 c2
      refine r_iload (pc := 60) d_Ou_partingGap_60 (x := i4) rfl ?_
      refine r_istore_n (pc := 62) (hk := rfl) (hd := d_Ou_partingGap_62) (hi := by decide) (ls2 := [.ref a, .int i1, .int i4, .int i3, .int i4, .int i5]) (h2 := rfl) ?_
      refine r_iload_n (pc := 63) d_Ou_partingGap_63 (x := i3) rfl ?_
      refine r_istore_n (pc := 64) (hk := rfl) (hd := d_Ou_partingGap_64) (hi := by decide) (ls2 := [.ref a, .int i3, .int i4, .int i3, .int i4, .int i5]) (h2 := rfl) ?_
      refine r_iinc (pc := 65) d_Ou_partingGap_65 (hi := by decide) (x := i3) rfl (v := i3 + 1) rfl (ls2 := [.ref a, .int i3, .int i4, .int (i3 + 1), .int i4, .int i5]) rfl ?_
      refine r_goto (pc := 68) d_Ou_partingGap_68 (tgt := 9) (by decide) ?_
      exact r_weak (ls2 := [.ref a, .int i3, .int i4, .int (i3 + 1), .null, .null]) ⟨Or.inr rfl, Or.inr rfl, Or.inr rfl, Or.inr rfl, Or.inl rfl, Or.inl rfl, trivial⟩ h
  · replace h := h.2 c1
    refine r_iload (pc := 30) d_Ou_partingGap_30 (x := i4) rfl ?_
    refine r_aload_n (pc := 32) d_Ou_partingGap_32 (x := a) rfl ?_
    obtain ⟨r3, er3, h⟩ := h
    refine r_getR (pc := 33) d_Ou_partingGap_33 f_Ou_27 sa (Or.inr ⟨_, rfl⟩) (r := r3) er3 ?_
    refine r_iload_n (pc := 36) d_Ou_partingGap_36 (x := i3) rfl ?_
    refine r_iload (pc := 37) d_Ou_partingGap_37 (x := i5) rfl ?_
    refine r_callS (pc := 39) (k := 0) (As := [.int i3, .int i5]) (rest := [.ref r3, .int i4]) (mc' := 0) (ms' := 0) lk_Ou_70 st_Ou_cell d_Ou_partingGap_39 k_Ou_cell rfl rfl (Nat.le_of_ble_eq_true rfl) (by decide) (by decide) (Sp.mono h ?_)
    rintro rS4 shS4 S4 ⟨qS4, x5, uS4, h⟩
    subst uS4
    rw [qS4]
    obtain ⟨n7, s6, h⟩ := h
    obtain ⟨g8, h⟩ := h
    refine r_iald (pc := 42) d_Ou_partingGap_42 s6 g8 ?_
    refine r_callS (pc := 43) (k := 0) (As := [.int i4, .int (S4.1 r3 x5.toNatClampNeg)]) (rest := []) (mc' := 0) (ms' := 0) lk_Ou_74 st_Ma_max d_Ou_partingGap_43 k_Ma_max rfl rfl (Nat.le_of_ble_eq_true rfl) (by decide) (by decide) (Sp.mono h ?_)
    rintro rS9 shS9 S9 ⟨qS9, x10, uS9, h⟩
    subst uS9
    rw [qS9]
    refine r_istore (pc := 46) (hd := d_Ou_partingGap_46) (hi := by decide) (ls2 := [.ref a, .int i1, .int i2, .int i3, .int x10, .int i5]) (h2 := rfl) ?_
    refine r_iinc (pc := 48) d_Ou_partingGap_48 (hi := by decide) (x := i5) rfl (v := i5 + 1) rfl (ls2 := [.ref a, .int i1, .int i2, .int i3, .int x10, .int (i5 + 1)]) rfl ?_
    refine r_goto (pc := 51) d_Ou_partingGap_51 (tgt := 23) (by decide) ?_
    exact h
set_option maxRecDepth 4000 in
theorem e_Py_worth {l : Launch} {d : Nat} {sh : aw_SH} {S : aw_S} {P : Int32 → aw_S → Prop} {p0 : Nat} {p1 : Int32} {p2 : Int32} (h : ((0 < p1 → ((¬ p2 = 0 → Sp l m_Py_worth d 0 0 [.ref p0, .int (p1 - (1 : Int32)), .int 0] sh S (gI sh (fun x4 S3 => sh[p0]? = some (0, 2) ∧ Sp l m_Gr_gaps d 0 0 [.ref p0] sh S3 (gI sh (fun x7 S6 => AW l m_Py_worth (d + 1) 0 0 (gI sh P) 0 0 37 [.ref p0, .int p1, .int p2, .int x4, .int ((2 : Int32) * x7), .int 0, .null, .null] [] sh S6))))) ∧ (p2 = 0 → Sp l m_Py_worth d 0 0 [.ref p0, .int (p1 - (1 : Int32)), .int 1] sh S (gI sh (fun x9 S8 => sh[p0]? = some (0, 2) ∧ Sp l m_Gr_gaps d 0 0 [.ref p0] sh S8 (gI sh (fun x12 S11 => AW l m_Py_worth (d + 1) 0 0 (gI sh P) 0 0 37 [.ref p0, .int p1, .int p2, .int x9, .int ((2 : Int32) * x12), .int 0, .null, .null] [] sh S11))))))) ∧ (¬ 0 < p1 → sh[p0]? = some (0, 2) ∧ Sp l m_Gr_coloursShown d 0 0 [.ref p0] sh S (gI sh (fun x15 S14 => P x15 S14))))) : Sp l m_Py_worth (d + 1) 0 0 [.ref p0, .int p1, .int p2] sh S (gI sh P) := by
  refine Sp.of k_Py_worth (ls := [.ref p0, .int p1, .int p2, .null, .null, .null, .null, .null]) rfl (Nat.le_of_ble_eq_true rfl) ?_
  refine r_iload_n (pc := 0) d_Py_worth_0 (x := p1) rfl ?_
  refine r_if_gt (pc := 1) d_Py_worth_1 (tgt := 9) (by decide) (fun c1 => ?_) (fun c1 => ?_)
  · replace h := h.1 c1
    refine r_aload_n (pc := 9) d_Py_worth_9 (x := p0) rfl ?_
    refine r_iload_n (pc := 10) d_Py_worth_10 (x := p1) rfl ?_
    refine r_iconst (pc := 11) d_Py_worth_11 (v := 1) (by decide) ?_
    refine r_isub (pc := 12) d_Py_worth_12 ?_
    refine r_iload_n (pc := 13) d_Py_worth_13 (x := p2) rfl ?_
    refine r_if_ne (pc := 14) d_Py_worth_14 (tgt := 21) (by decide) (fun c2 => ?_) (fun c2 => ?_)
    · replace h := h.1 c2
      refine r_iconst (pc := 21) d_Py_worth_21 (v := 0) (by decide) ?_
      refine r_callS (pc := 22) (k := 0) (As := [.ref p0, .int (p1 - (1 : Int32)), .int 0]) (rest := []) (mc' := 0) (ms' := 0) lk_Py_15 st_Py_worth d_Py_worth_22 k_Py_worth rfl rfl (Nat.le_of_ble_eq_true rfl) (by decide) (by decide) (Sp.mono h ?_)
      rintro rS3 shS3 S3 ⟨qS3, x4, uS3, h⟩
      subst uS3
      rw [qS3]
      refine r_istore_n (pc := 25) (hk := rfl) (hd := d_Py_worth_25) (hi := by decide) (ls2 := [.ref p0, .int p1, .int p2, .int x4, .null, .null, .null, .null]) (h2 := rfl) ?_
      refine r_iconst (pc := 26) d_Py_worth_26 (v := 2) (by decide) ?_
      refine r_aload_n (pc := 27) d_Py_worth_27 (x := p0) rfl ?_
      obtain ⟨s5, h⟩ := h
      refine r_callV (pc := 28) (k := p0) (As := []) (rest := [.int 2]) (mc' := 0) (ms' := 0) lk_Py_21 in_Gr_gaps se_Gr_gaps s5 rfl d_Py_worth_28 k_Gr_gaps rfl rfl (Nat.le_of_ble_eq_true rfl) (by decide) (by decide) (Sp.mono h ?_)
      rintro rS6 shS6 S6 ⟨qS6, x7, uS6, h⟩
      subst uS6
      rw [qS6]
      refine r_imul (pc := 31) d_Py_worth_31 ?_
      refine r_istore (pc := 32) (hd := d_Py_worth_32) (hi := by decide) (ls2 := [.ref p0, .int p1, .int p2, .int x4, .int ((2 : Int32) * x7), .null, .null, .null]) (h2 := rfl) ?_
      refine r_iconst (pc := 34) d_Py_worth_34 (v := 0) (by decide) ?_
      refine r_istore (pc := 35) (hd := d_Py_worth_35) (hi := by decide) (ls2 := [.ref p0, .int p1, .int p2, .int x4, .int ((2 : Int32) * x7), .int 0, .null, .null]) (h2 := rfl) ?_
      exact h
    · replace h := h.2 c2
      refine r_iconst (pc := 17) d_Py_worth_17 (v := 1) (by decide) ?_
      refine r_goto (pc := 18) d_Py_worth_18 (tgt := 22) (by decide) ?_
      refine r_callS (pc := 22) (k := 0) (As := [.ref p0, .int (p1 - (1 : Int32)), .int 1]) (rest := []) (mc' := 0) (ms' := 0) lk_Py_15 st_Py_worth d_Py_worth_22 k_Py_worth rfl rfl (Nat.le_of_ble_eq_true rfl) (by decide) (by decide) (Sp.mono h ?_)
      rintro rS8 shS8 S8 ⟨qS8, x9, uS8, h⟩
      subst uS8
      rw [qS8]
      refine r_istore_n (pc := 25) (hk := rfl) (hd := d_Py_worth_25) (hi := by decide) (ls2 := [.ref p0, .int p1, .int p2, .int x9, .null, .null, .null, .null]) (h2 := rfl) ?_
      refine r_iconst (pc := 26) d_Py_worth_26 (v := 2) (by decide) ?_
      refine r_aload_n (pc := 27) d_Py_worth_27 (x := p0) rfl ?_
      obtain ⟨s10, h⟩ := h
      refine r_callV (pc := 28) (k := p0) (As := []) (rest := [.int 2]) (mc' := 0) (ms' := 0) lk_Py_21 in_Gr_gaps se_Gr_gaps s10 rfl d_Py_worth_28 k_Gr_gaps rfl rfl (Nat.le_of_ble_eq_true rfl) (by decide) (by decide) (Sp.mono h ?_)
      rintro rS11 shS11 S11 ⟨qS11, x12, uS11, h⟩
      subst uS11
      rw [qS11]
      refine r_imul (pc := 31) d_Py_worth_31 ?_
      refine r_istore (pc := 32) (hd := d_Py_worth_32) (hi := by decide) (ls2 := [.ref p0, .int p1, .int p2, .int x9, .int ((2 : Int32) * x12), .null, .null, .null]) (h2 := rfl) ?_
      refine r_iconst (pc := 34) d_Py_worth_34 (v := 0) (by decide) ?_
      refine r_istore (pc := 35) (hd := d_Py_worth_35) (hi := by decide) (ls2 := [.ref p0, .int p1, .int p2, .int x9, .int ((2 : Int32) * x12), .int 0, .null, .null]) (h2 := rfl) ?_
      exact h
  · replace h := h.2 c1
    refine r_aload_n (pc := 4) d_Py_worth_4 (x := p0) rfl ?_
    obtain ⟨s13, h⟩ := h
    refine r_callV (pc := 5) (k := p0) (As := []) (rest := []) (mc' := 0) (ms' := 0) lk_Py_9 in_Gr_coloursShown se_Gr_coloursShown s13 rfl d_Py_worth_5 k_Gr_coloursShown rfl rfl (Nat.le_of_ble_eq_true rfl) (by decide) (by decide) (Sp.mono h ?_)
    rintro rS14 shS14 S14 ⟨qS14, x15, uS14, h⟩
    subst uS14
    rw [qS14]
    exact r_ireturn (pc := 8) d_Py_worth_8 rfl rfl (Nat.le_refl _) ⟨rfl, _, rfl, h⟩
set_option maxRecDepth 4000 in
theorem s_Py_worth_37 {l : Launch} {d : Nat} {sh : aw_SH} {S : aw_S} {P : Int32 → aw_S → Prop} {i0 : Nat} {i1 : Int32} {i2 : Int32} {i3 : Int32} {i4 : Int32} {i5 : Int32} (h : ((i4 ≤ i5 → P i3 S) ∧ (¬ i4 ≤ i5 → sh[i0]? = some (0, 2) ∧ Sp l m_Gr_makePass d 0 0 [.ref i0, .int i5] sh S (gI sh (fun x4 S3 => ((x4 = (-1) → AW l m_Py_worth (d + 1) 0 0 (gI sh P) 0 0 37 [.ref i0, .int i1, .int i2, .int i3, .int i4, .int (i5 + 1), .null, .null] [] sh S3) ∧ (¬ x4 = (-1) → ((¬ i2 = 0 → Sp l m_Py_worth d 0 0 [.ref i0, .int (i1 - (1 : Int32)), .int 0] sh S3 (gI sh (fun x8 S7 => ((i2 = 0 → Sp l m_Ma_min d 0 0 [.int i3, .int x8] sh S7 (gI sh (fun x11 S10 => Sp l m_Gr_takeBack d 0 0 [.ref i0, .int x4] sh S10 (gV sh (fun S12 => AW l m_Py_worth (d + 1) 0 0 (gI sh P) 0 0 37 [.ref i0, .int i1, .int i2, .int x11, .int i4, .int (i5 + 1), .null, .null] [] sh S12))))) ∧ (¬ i2 = 0 → Sp l m_Ma_max d 0 0 [.int i3, .int x8] sh S7 (gI sh (fun x14 S13 => Sp l m_Gr_takeBack d 0 0 [.ref i0, .int x4] sh S13 (gV sh (fun S15 => AW l m_Py_worth (d + 1) 0 0 (gI sh P) 0 0 37 [.ref i0, .int i1, .int i2, .int x14, .int i4, .int (i5 + 1), .null, .null] [] sh S15))))))))) ∧ (i2 = 0 → Sp l m_Py_worth d 0 0 [.ref i0, .int (i1 - (1 : Int32)), .int 1] sh S3 (gI sh (fun x17 S16 => ((i2 = 0 → Sp l m_Ma_min d 0 0 [.int i3, .int x17] sh S16 (gI sh (fun x20 S19 => Sp l m_Gr_takeBack d 0 0 [.ref i0, .int x4] sh S19 (gV sh (fun S21 => AW l m_Py_worth (d + 1) 0 0 (gI sh P) 0 0 37 [.ref i0, .int i1, .int i2, .int x20, .int i4, .int (i5 + 1), .null, .null] [] sh S21))))) ∧ (¬ i2 = 0 → Sp l m_Ma_max d 0 0 [.int i3, .int x17] sh S16 (gI sh (fun x23 S22 => Sp l m_Gr_takeBack d 0 0 [.ref i0, .int x4] sh S22 (gV sh (fun S24 => AW l m_Py_worth (d + 1) 0 0 (gI sh P) 0 0 37 [.ref i0, .int i1, .int i2, .int x23, .int i4, .int (i5 + 1), .null, .null] [] sh S24))))))))))))))))) : AW l m_Py_worth (d + 1) 0 0 (gI sh P) 0 0 37 [.ref i0, .int i1, .int i2, .int i3, .int i4, .int i5, .null, .null] [] sh S := by
  refine r_iload (pc := 37) d_Py_worth_37 (x := i5) rfl ?_
  refine r_iload (pc := 39) d_Py_worth_39 (x := i4) rfl ?_
  refine r_icmp_ge (pc := 41) d_Py_worth_41 (tgt := 108) (by decide) (fun c1 => ?_) (fun c1 => ?_)
  · replace h := h.1 c1
    refine r_iload_n (pc := 108) d_Py_worth_108 (x := i3) rfl ?_
    exact r_ireturn (pc := 109) d_Py_worth_109 rfl rfl (Nat.le_refl _) ⟨rfl, _, rfl, h⟩
  · replace h := h.2 c1
    refine r_aload_n (pc := 44) d_Py_worth_44 (x := i0) rfl ?_
    refine r_iload (pc := 45) d_Py_worth_45 (x := i5) rfl ?_
    obtain ⟨s2, h⟩ := h
    refine r_callV (pc := 47) (k := i0) (As := [.int i5]) (rest := []) (mc' := 0) (ms' := 0) lk_Py_24 in_Gr_makePass se_Gr_makePass s2 rfl d_Py_worth_47 k_Gr_makePass rfl rfl (Nat.le_of_ble_eq_true rfl) (by decide) (by decide) (Sp.mono h ?_)
    rintro rS3 shS3 S3 ⟨qS3, x4, uS3, h⟩
    subst uS3
    rw [qS3]
    refine r_istore (pc := 50) (hd := d_Py_worth_50) (hi := by decide) (ls2 := [.ref i0, .int i1, .int i2, .int i3, .int i4, .int i5, .int x4, .null]) (h2 := rfl) ?_
    refine r_iload (pc := 52) d_Py_worth_52 (x := x4) rfl ?_
    refine r_iconst (pc := 54) d_Py_worth_54 (v := (-1)) (by decide) ?_
    refine r_icmp_eq (pc := 55) d_Py_worth_55 (tgt := 102) (by decide) (fun c5 => ?_) (fun c5 => ?_)
    · replace h := h.1 c5
      refine r_iinc (pc := 102) d_Py_worth_102 (hi := by decide) (x := i5) rfl (v := i5 + 1) rfl (ls2 := [.ref i0, .int i1, .int i2, .int i3, .int i4, .int (i5 + 1), .int x4, .null]) rfl ?_
      refine r_goto (pc := 105) d_Py_worth_105 (tgt := 37) (by decide) ?_
      exact r_weak (ls2 := [.ref i0, .int i1, .int i2, .int i3, .int i4, .int (i5 + 1), .null, .null]) ⟨Or.inr rfl, Or.inr rfl, Or.inr rfl, Or.inr rfl, Or.inr rfl, Or.inr rfl, Or.inl rfl, Or.inl rfl, trivial⟩ h
    · replace h := h.2 c5
      refine r_aload_n (pc := 58) d_Py_worth_58 (x := i0) rfl ?_
      refine r_iload_n (pc := 59) d_Py_worth_59 (x := i1) rfl ?_
      refine r_iconst (pc := 60) d_Py_worth_60 (v := 1) (by decide) ?_
      refine r_isub (pc := 61) d_Py_worth_61 ?_
      refine r_iload_n (pc := 62) d_Py_worth_62 (x := i2) rfl ?_
      refine r_if_ne (pc := 63) d_Py_worth_63 (tgt := 70) (by decide) (fun c6 => ?_) (fun c6 => ?_)
      · replace h := h.1 c6
        refine r_iconst (pc := 70) d_Py_worth_70 (v := 0) (by decide) ?_
        refine r_callS (pc := 71) (k := 0) (As := [.ref i0, .int (i1 - (1 : Int32)), .int 0]) (rest := []) (mc' := 0) (ms' := 0) lk_Py_15 st_Py_worth d_Py_worth_71 k_Py_worth rfl rfl (Nat.le_of_ble_eq_true rfl) (by decide) (by decide) (Sp.mono h ?_)
        rintro rS7 shS7 S7 ⟨qS7, x8, uS7, h⟩
        subst uS7
        rw [qS7]
        refine r_istore (pc := 74) (hd := d_Py_worth_74) (hi := by decide) (ls2 := [.ref i0, .int i1, .int i2, .int i3, .int i4, .int i5, .int x4, .int x8]) (h2 := rfl) ?_
        refine r_iload_n (pc := 76) d_Py_worth_76 (x := i2) rfl ?_
        refine r_if_eq (pc := 77) d_Py_worth_77 (tgt := 89) (by decide) (fun c9 => ?_) (fun c9 => ?_)
        · replace h := h.1 c9
          refine r_iload_n (pc := 89) d_Py_worth_89 (x := i3) rfl ?_
          refine r_iload (pc := 90) d_Py_worth_90 (x := x8) rfl ?_
          refine r_callS (pc := 92) (k := 0) (As := [.int i3, .int x8]) (rest := []) (mc' := 0) (ms' := 0) lk_Py_34 st_Ma_min d_Py_worth_92 k_Ma_min rfl rfl (Nat.le_of_ble_eq_true rfl) (by decide) (by decide) (Sp.mono h ?_)
          rintro rS10 shS10 S10 ⟨qS10, x11, uS10, h⟩
          subst uS10
          rw [qS10]
          refine r_istore_n (pc := 95) (hk := rfl) (hd := d_Py_worth_95) (hi := by decide) (ls2 := [.ref i0, .int i1, .int i2, .int x11, .int i4, .int i5, .int x4, .int x8]) (h2 := rfl) ?_
          refine r_aload_n (pc := 96) d_Py_worth_96 (x := i0) rfl ?_
          refine r_iload (pc := 97) d_Py_worth_97 (x := x4) rfl ?_
          refine r_callV (pc := 99) (k := i0) (As := [.int x4]) (rest := []) (mc' := 0) (ms' := 0) lk_Py_37 in_Gr_takeBack se_Gr_takeBack s2 rfl d_Py_worth_99 k_Gr_takeBack rfl rfl (Nat.le_of_ble_eq_true rfl) (by decide) (by decide) (Sp.mono h ?_)
          rintro rS12 shS12 S12 ⟨qS12, uS12, h⟩
          subst uS12
          rw [qS12]
          refine r_iinc (pc := 102) d_Py_worth_102 (hi := by decide) (x := i5) rfl (v := i5 + 1) rfl (ls2 := [.ref i0, .int i1, .int i2, .int x11, .int i4, .int (i5 + 1), .int x4, .int x8]) rfl ?_
          refine r_goto (pc := 105) d_Py_worth_105 (tgt := 37) (by decide) ?_
          exact r_weak (ls2 := [.ref i0, .int i1, .int i2, .int x11, .int i4, .int (i5 + 1), .null, .null]) ⟨Or.inr rfl, Or.inr rfl, Or.inr rfl, Or.inr rfl, Or.inr rfl, Or.inr rfl, Or.inl rfl, Or.inl rfl, trivial⟩ h
        · replace h := h.2 c9
          refine r_iload_n (pc := 80) d_Py_worth_80 (x := i3) rfl ?_
          refine r_iload (pc := 81) d_Py_worth_81 (x := x8) rfl ?_
          refine r_callS (pc := 83) (k := 0) (As := [.int i3, .int x8]) (rest := []) (mc' := 0) (ms' := 0) lk_Py_28 st_Ma_max d_Py_worth_83 k_Ma_max rfl rfl (Nat.le_of_ble_eq_true rfl) (by decide) (by decide) (Sp.mono h ?_)
          rintro rS13 shS13 S13 ⟨qS13, x14, uS13, h⟩
          subst uS13
          rw [qS13]
          refine r_goto (pc := 86) d_Py_worth_86 (tgt := 95) (by decide) ?_
          refine r_istore_n (pc := 95) (hk := rfl) (hd := d_Py_worth_95) (hi := by decide) (ls2 := [.ref i0, .int i1, .int i2, .int x14, .int i4, .int i5, .int x4, .int x8]) (h2 := rfl) ?_
          refine r_aload_n (pc := 96) d_Py_worth_96 (x := i0) rfl ?_
          refine r_iload (pc := 97) d_Py_worth_97 (x := x4) rfl ?_
          refine r_callV (pc := 99) (k := i0) (As := [.int x4]) (rest := []) (mc' := 0) (ms' := 0) lk_Py_37 in_Gr_takeBack se_Gr_takeBack s2 rfl d_Py_worth_99 k_Gr_takeBack rfl rfl (Nat.le_of_ble_eq_true rfl) (by decide) (by decide) (Sp.mono h ?_)
          rintro rS15 shS15 S15 ⟨qS15, uS15, h⟩
          subst uS15
          rw [qS15]
          refine r_iinc (pc := 102) d_Py_worth_102 (hi := by decide) (x := i5) rfl (v := i5 + 1) rfl (ls2 := [.ref i0, .int i1, .int i2, .int x14, .int i4, .int (i5 + 1), .int x4, .int x8]) rfl ?_
          refine r_goto (pc := 105) d_Py_worth_105 (tgt := 37) (by decide) ?_
          exact r_weak (ls2 := [.ref i0, .int i1, .int i2, .int x14, .int i4, .int (i5 + 1), .null, .null]) ⟨Or.inr rfl, Or.inr rfl, Or.inr rfl, Or.inr rfl, Or.inr rfl, Or.inr rfl, Or.inl rfl, Or.inl rfl, trivial⟩ h
      · replace h := h.2 c6
        refine r_iconst (pc := 66) d_Py_worth_66 (v := 1) (by decide) ?_
        refine r_goto (pc := 67) d_Py_worth_67 (tgt := 71) (by decide) ?_
        refine r_callS (pc := 71) (k := 0) (As := [.ref i0, .int (i1 - (1 : Int32)), .int 1]) (rest := []) (mc' := 0) (ms' := 0) lk_Py_15 st_Py_worth d_Py_worth_71 k_Py_worth rfl rfl (Nat.le_of_ble_eq_true rfl) (by decide) (by decide) (Sp.mono h ?_)
        rintro rS16 shS16 S16 ⟨qS16, x17, uS16, h⟩
        subst uS16
        rw [qS16]
        refine r_istore (pc := 74) (hd := d_Py_worth_74) (hi := by decide) (ls2 := [.ref i0, .int i1, .int i2, .int i3, .int i4, .int i5, .int x4, .int x17]) (h2 := rfl) ?_
        refine r_iload_n (pc := 76) d_Py_worth_76 (x := i2) rfl ?_
        refine r_if_eq (pc := 77) d_Py_worth_77 (tgt := 89) (by decide) (fun c18 => ?_) (fun c18 => ?_)
        · replace h := h.1 c18
          refine r_iload_n (pc := 89) d_Py_worth_89 (x := i3) rfl ?_
          refine r_iload (pc := 90) d_Py_worth_90 (x := x17) rfl ?_
          refine r_callS (pc := 92) (k := 0) (As := [.int i3, .int x17]) (rest := []) (mc' := 0) (ms' := 0) lk_Py_34 st_Ma_min d_Py_worth_92 k_Ma_min rfl rfl (Nat.le_of_ble_eq_true rfl) (by decide) (by decide) (Sp.mono h ?_)
          rintro rS19 shS19 S19 ⟨qS19, x20, uS19, h⟩
          subst uS19
          rw [qS19]
          refine r_istore_n (pc := 95) (hk := rfl) (hd := d_Py_worth_95) (hi := by decide) (ls2 := [.ref i0, .int i1, .int i2, .int x20, .int i4, .int i5, .int x4, .int x17]) (h2 := rfl) ?_
          refine r_aload_n (pc := 96) d_Py_worth_96 (x := i0) rfl ?_
          refine r_iload (pc := 97) d_Py_worth_97 (x := x4) rfl ?_
          refine r_callV (pc := 99) (k := i0) (As := [.int x4]) (rest := []) (mc' := 0) (ms' := 0) lk_Py_37 in_Gr_takeBack se_Gr_takeBack s2 rfl d_Py_worth_99 k_Gr_takeBack rfl rfl (Nat.le_of_ble_eq_true rfl) (by decide) (by decide) (Sp.mono h ?_)
          rintro rS21 shS21 S21 ⟨qS21, uS21, h⟩
          subst uS21
          rw [qS21]
          refine r_iinc (pc := 102) d_Py_worth_102 (hi := by decide) (x := i5) rfl (v := i5 + 1) rfl (ls2 := [.ref i0, .int i1, .int i2, .int x20, .int i4, .int (i5 + 1), .int x4, .int x17]) rfl ?_
          refine r_goto (pc := 105) d_Py_worth_105 (tgt := 37) (by decide) ?_
          exact r_weak (ls2 := [.ref i0, .int i1, .int i2, .int x20, .int i4, .int (i5 + 1), .null, .null]) ⟨Or.inr rfl, Or.inr rfl, Or.inr rfl, Or.inr rfl, Or.inr rfl, Or.inr rfl, Or.inl rfl, Or.inl rfl, trivial⟩ h
        · replace h := h.2 c18
          refine r_iload_n (pc := 80) d_Py_worth_80 (x := i3) rfl ?_
          refine r_iload (pc := 81) d_Py_worth_81 (x := x17) rfl ?_
          refine r_callS (pc := 83) (k := 0) (As := [.int i3, .int x17]) (rest := []) (mc' := 0) (ms' := 0) lk_Py_28 st_Ma_max d_Py_worth_83 k_Ma_max rfl rfl (Nat.le_of_ble_eq_true rfl) (by decide) (by decide) (Sp.mono h ?_)
          rintro rS22 shS22 S22 ⟨qS22, x23, uS22, h⟩
          subst uS22
          rw [qS22]
          refine r_goto (pc := 86) d_Py_worth_86 (tgt := 95) (by decide) ?_
          refine r_istore_n (pc := 95) (hk := rfl) (hd := d_Py_worth_95) (hi := by decide) (ls2 := [.ref i0, .int i1, .int i2, .int x23, .int i4, .int i5, .int x4, .int x17]) (h2 := rfl) ?_
          refine r_aload_n (pc := 96) d_Py_worth_96 (x := i0) rfl ?_
          refine r_iload (pc := 97) d_Py_worth_97 (x := x4) rfl ?_
          refine r_callV (pc := 99) (k := i0) (As := [.int x4]) (rest := []) (mc' := 0) (ms' := 0) lk_Py_37 in_Gr_takeBack se_Gr_takeBack s2 rfl d_Py_worth_99 k_Gr_takeBack rfl rfl (Nat.le_of_ble_eq_true rfl) (by decide) (by decide) (Sp.mono h ?_)
          rintro rS24 shS24 S24 ⟨qS24, uS24, h⟩
          subst uS24
          rw [qS24]
          refine r_iinc (pc := 102) d_Py_worth_102 (hi := by decide) (x := i5) rfl (v := i5 + 1) rfl (ls2 := [.ref i0, .int i1, .int i2, .int x23, .int i4, .int (i5 + 1), .int x4, .int x17]) rfl ?_
          refine r_goto (pc := 105) d_Py_worth_105 (tgt := 37) (by decide) ?_
          exact r_weak (ls2 := [.ref i0, .int i1, .int i2, .int x23, .int i4, .int (i5 + 1), .null, .null]) ⟨Or.inr rfl, Or.inr rfl, Or.inr rfl, Or.inr rfl, Or.inr rfl, Or.inr rfl, Or.inl rfl, Or.inl rfl, trivial⟩ h
set_option maxRecDepth 4000 in
theorem e_Py_opening {l : Launch} {d : Nat} {sh : aw_SH} {S : aw_S} {P : Int32 → aw_S → Prop} {p0 : Nat} {p1 : Int32} (h : sh[p0]? = some (0, 2) ∧ Sp l m_Gr_gaps d 0 0 [.ref p0] sh S (gI sh (fun x3 S2 => AW l m_Py_opening (d + 1) 0 0 (gI sh P) 0 0 15 [.ref p0, .int p1, .int (-1), .int (-1), .int ((2 : Int32) * x3), .int 0, .null, .null] [] sh S2))) : Sp l m_Py_opening (d + 1) 0 0 [.ref p0, .int p1] sh S (gI sh P) := by
  refine Sp.of k_Py_opening (ls := [.ref p0, .int p1, .null, .null, .null, .null, .null, .null]) rfl (Nat.le_of_ble_eq_true rfl) ?_
  refine r_iconst (pc := 0) d_Py_opening_0 (v := (-1)) (by decide) ?_
  refine r_istore_n (pc := 1) (hk := rfl) (hd := d_Py_opening_1) (hi := by decide) (ls2 := [.ref p0, .int p1, .int (-1), .null, .null, .null, .null, .null]) (h2 := rfl) ?_
  refine r_iconst (pc := 2) d_Py_opening_2 (v := (-1)) (by decide) ?_
  refine r_istore_n (pc := 3) (hk := rfl) (hd := d_Py_opening_3) (hi := by decide) (ls2 := [.ref p0, .int p1, .int (-1), .int (-1), .null, .null, .null, .null]) (h2 := rfl) ?_
  refine r_iconst (pc := 4) d_Py_opening_4 (v := 2) (by decide) ?_
  refine r_aload_n (pc := 5) d_Py_opening_5 (x := p0) rfl ?_
  obtain ⟨s1, h⟩ := h
  refine r_callV (pc := 6) (k := p0) (As := []) (rest := [.int 2]) (mc' := 0) (ms' := 0) lk_Py_21 in_Gr_gaps se_Gr_gaps s1 rfl d_Py_opening_6 k_Gr_gaps rfl rfl (Nat.le_of_ble_eq_true rfl) (by decide) (by decide) (Sp.mono h ?_)
  rintro rS2 shS2 S2 ⟨qS2, x3, uS2, h⟩
  subst uS2
  rw [qS2]
  refine r_imul (pc := 9) d_Py_opening_9 ?_
  refine r_istore (pc := 10) (hd := d_Py_opening_10) (hi := by decide) (ls2 := [.ref p0, .int p1, .int (-1), .int (-1), .int ((2 : Int32) * x3), .null, .null, .null]) (h2 := rfl) ?_
  refine r_iconst (pc := 12) d_Py_opening_12 (v := 0) (by decide) ?_
  refine r_istore (pc := 13) (hd := d_Py_opening_13) (hi := by decide) (ls2 := [.ref p0, .int p1, .int (-1), .int (-1), .int ((2 : Int32) * x3), .int 0, .null, .null]) (h2 := rfl) ?_
  exact h
set_option maxRecDepth 4000 in
theorem s_Py_opening_15 {l : Launch} {d : Nat} {sh : aw_SH} {S : aw_S} {P : Int32 → aw_S → Prop} {i0 : Nat} {i1 : Int32} {i2 : Int32} {i3 : Int32} {i4 : Int32} {i5 : Int32} (h : ((i4 ≤ i5 → Sp l m_Py_worth d 0 0 [.ref i0, .int (i1 - (1 : Int32)), .int 0] sh S (gI sh (fun x3 S2 => ((x3 ≤ i2 → P i3 S2) ∧ (¬ x3 ≤ i2 → P (-1) S2))))) ∧ (¬ i4 ≤ i5 → sh[i0]? = some (0, 2) ∧ Sp l m_Gr_makePass d 0 0 [.ref i0, .int i5] sh S (gI sh (fun x7 S6 => ((x7 = (-1) → AW l m_Py_opening (d + 1) 0 0 (gI sh P) 0 0 15 [.ref i0, .int i1, .int i2, .int i3, .int i4, .int (i5 + 1), .null, .null] [] sh S6) ∧ (¬ x7 = (-1) → Sp l m_Py_worth d 0 0 [.ref i0, .int (i1 - (1 : Int32)), .int 0] sh S6 (gI sh (fun x10 S9 => Sp l m_Gr_takeBack d 0 0 [.ref i0, .int x7] sh S9 (gV sh (fun S11 => ((x10 ≤ i2 → AW l m_Py_opening (d + 1) 0 0 (gI sh P) 0 0 15 [.ref i0, .int i1, .int i2, .int i3, .int i4, .int (i5 + 1), .null, .null] [] sh S11) ∧ (¬ x10 ≤ i2 → AW l m_Py_opening (d + 1) 0 0 (gI sh P) 0 0 15 [.ref i0, .int i1, .int x10, .int i5, .int i4, .int (i5 + 1), .null, .null] [] sh S11))))))))))))) : AW l m_Py_opening (d + 1) 0 0 (gI sh P) 0 0 15 [.ref i0, .int i1, .int i2, .int i3, .int i4, .int i5, .null, .null] [] sh S := by
  refine r_iload (pc := 15) d_Py_opening_15 (x := i5) rfl ?_
  refine r_iload (pc := 17) d_Py_opening_17 (x := i4) rfl ?_
  refine r_icmp_ge (pc := 19) d_Py_opening_19 (tgt := 70) (by decide) (fun c1 => ?_) (fun c1 => ?_)
  · replace h := h.1 c1
    refine r_aload_n (pc := 70) d_Py_opening_70 (x := i0) rfl ?_
    refine r_iload_n (pc := 71) d_Py_opening_71 (x := i1) rfl ?_
    refine r_iconst (pc := 72) d_Py_opening_72 (v := 1) (by decide) ?_
    refine r_isub (pc := 73) d_Py_opening_73 ?_
    refine r_iconst (pc := 74) d_Py_opening_74 (v := 0) (by decide) ?_
    refine r_callS (pc := 75) (k := 0) (As := [.ref i0, .int (i1 - (1 : Int32)), .int 0]) (rest := []) (mc' := 0) (ms' := 0) lk_Py_15 st_Py_worth d_Py_opening_75 k_Py_worth rfl rfl (Nat.le_of_ble_eq_true rfl) (by decide) (by decide) (Sp.mono h ?_)
    rintro rS2 shS2 S2 ⟨qS2, x3, uS2, h⟩
    subst uS2
    rw [qS2]
    refine r_iload_n (pc := 78) d_Py_opening_78 (x := i2) rfl ?_
    refine r_icmp_le (pc := 79) d_Py_opening_79 (tgt := 86) (by decide) (fun c4 => ?_) (fun c4 => ?_)
    · replace h := h.1 c4
      refine r_iload_n (pc := 86) d_Py_opening_86 (x := i3) rfl ?_
      exact r_ireturn (pc := 87) d_Py_opening_87 rfl rfl (Nat.le_refl _) ⟨rfl, _, rfl, h⟩
    · replace h := h.2 c4
      refine r_iconst (pc := 82) d_Py_opening_82 (v := (-1)) (by decide) ?_
      refine r_goto (pc := 83) d_Py_opening_83 (tgt := 87) (by decide) ?_
      exact r_ireturn (pc := 87) d_Py_opening_87 rfl rfl (Nat.le_refl _) ⟨rfl, _, rfl, h⟩
  · replace h := h.2 c1
    refine r_aload_n (pc := 22) d_Py_opening_22 (x := i0) rfl ?_
    refine r_iload (pc := 23) d_Py_opening_23 (x := i5) rfl ?_
    obtain ⟨s5, h⟩ := h
    refine r_callV (pc := 25) (k := i0) (As := [.int i5]) (rest := []) (mc' := 0) (ms' := 0) lk_Py_24 in_Gr_makePass se_Gr_makePass s5 rfl d_Py_opening_25 k_Gr_makePass rfl rfl (Nat.le_of_ble_eq_true rfl) (by decide) (by decide) (Sp.mono h ?_)
    rintro rS6 shS6 S6 ⟨qS6, x7, uS6, h⟩
    subst uS6
    rw [qS6]
    refine r_istore (pc := 28) (hd := d_Py_opening_28) (hi := by decide) (ls2 := [.ref i0, .int i1, .int i2, .int i3, .int i4, .int i5, .int x7, .null]) (h2 := rfl) ?_
    refine r_iload (pc := 30) d_Py_opening_30 (x := x7) rfl ?_
    refine r_iconst (pc := 32) d_Py_opening_32 (v := (-1)) (by decide) ?_
    refine r_icmp_eq (pc := 33) d_Py_opening_33 (tgt := 64) (by decide) (fun c8 => ?_) (fun c8 => ?_)
    · replace h := h.1 c8
      refine r_iinc (pc := 64) d_Py_opening_64 (hi := by decide) (x := i5) rfl (v := i5 + 1) rfl (ls2 := [.ref i0, .int i1, .int i2, .int i3, .int i4, .int (i5 + 1), .int x7, .null]) rfl ?_
      refine r_goto (pc := 67) d_Py_opening_67 (tgt := 15) (by decide) ?_
      exact r_weak (ls2 := [.ref i0, .int i1, .int i2, .int i3, .int i4, .int (i5 + 1), .null, .null]) ⟨Or.inr rfl, Or.inr rfl, Or.inr rfl, Or.inr rfl, Or.inr rfl, Or.inr rfl, Or.inl rfl, Or.inl rfl, trivial⟩ h
    · replace h := h.2 c8
      refine r_aload_n (pc := 36) d_Py_opening_36 (x := i0) rfl ?_
      refine r_iload_n (pc := 37) d_Py_opening_37 (x := i1) rfl ?_
      refine r_iconst (pc := 38) d_Py_opening_38 (v := 1) (by decide) ?_
      refine r_isub (pc := 39) d_Py_opening_39 ?_
      refine r_iconst (pc := 40) d_Py_opening_40 (v := 0) (by decide) ?_
      refine r_callS (pc := 41) (k := 0) (As := [.ref i0, .int (i1 - (1 : Int32)), .int 0]) (rest := []) (mc' := 0) (ms' := 0) lk_Py_15 st_Py_worth d_Py_opening_41 k_Py_worth rfl rfl (Nat.le_of_ble_eq_true rfl) (by decide) (by decide) (Sp.mono h ?_)
      rintro rS9 shS9 S9 ⟨qS9, x10, uS9, h⟩
      subst uS9
      rw [qS9]
      refine r_istore (pc := 44) (hd := d_Py_opening_44) (hi := by decide) (ls2 := [.ref i0, .int i1, .int i2, .int i3, .int i4, .int i5, .int x7, .int x10]) (h2 := rfl) ?_
      refine r_aload_n (pc := 46) d_Py_opening_46 (x := i0) rfl ?_
      refine r_iload (pc := 47) d_Py_opening_47 (x := x7) rfl ?_
      refine r_callV (pc := 49) (k := i0) (As := [.int x7]) (rest := []) (mc' := 0) (ms' := 0) lk_Py_37 in_Gr_takeBack se_Gr_takeBack s5 rfl d_Py_opening_49 k_Gr_takeBack rfl rfl (Nat.le_of_ble_eq_true rfl) (by decide) (by decide) (Sp.mono h ?_)
      rintro rS11 shS11 S11 ⟨qS11, uS11, h⟩
      subst uS11
      rw [qS11]
      refine r_iload (pc := 52) d_Py_opening_52 (x := x10) rfl ?_
      refine r_iload_n (pc := 54) d_Py_opening_54 (x := i2) rfl ?_
      refine r_icmp_le (pc := 55) d_Py_opening_55 (tgt := 64) (by decide) (fun c12 => ?_) (fun c12 => ?_)
      · replace h := h.1 c12
        refine r_iinc (pc := 64) d_Py_opening_64 (hi := by decide) (x := i5) rfl (v := i5 + 1) rfl (ls2 := [.ref i0, .int i1, .int i2, .int i3, .int i4, .int (i5 + 1), .int x7, .int x10]) rfl ?_
        refine r_goto (pc := 67) d_Py_opening_67 (tgt := 15) (by decide) ?_
        exact r_weak (ls2 := [.ref i0, .int i1, .int i2, .int i3, .int i4, .int (i5 + 1), .null, .null]) ⟨Or.inr rfl, Or.inr rfl, Or.inr rfl, Or.inr rfl, Or.inr rfl, Or.inr rfl, Or.inl rfl, Or.inl rfl, trivial⟩ h
      · replace h := h.2 c12
        refine r_iload (pc := 58) d_Py_opening_58 (x := x10) rfl ?_
        refine r_istore_n (pc := 60) (hk := rfl) (hd := d_Py_opening_60) (hi := by decide) (ls2 := [.ref i0, .int i1, .int x10, .int i3, .int i4, .int i5, .int x7, .int x10]) (h2 := rfl) ?_
        refine r_iload (pc := 61) d_Py_opening_61 (x := i5) rfl ?_
        refine r_istore_n (pc := 63) (hk := rfl) (hd := d_Py_opening_63) (hi := by decide) (ls2 := [.ref i0, .int i1, .int x10, .int i5, .int i4, .int i5, .int x7, .int x10]) (h2 := rfl) ?_
        refine r_iinc (pc := 64) d_Py_opening_64 (hi := by decide) (x := i5) rfl (v := i5 + 1) rfl (ls2 := [.ref i0, .int i1, .int x10, .int i5, .int i4, .int (i5 + 1), .int x7, .int x10]) rfl ?_
        refine r_goto (pc := 67) d_Py_opening_67 (tgt := 15) (by decide) ?_
        exact r_weak (ls2 := [.ref i0, .int i1, .int x10, .int i5, .int i4, .int (i5 + 1), .null, .null]) ⟨Or.inr rfl, Or.inr rfl, Or.inr rfl, Or.inr rfl, Or.inr rfl, Or.inr rfl, Or.inl rfl, Or.inl rfl, trivial⟩ h
