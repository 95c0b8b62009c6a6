set_option maxRecDepth 4000 in
theorem e_Md_weaves1 {l : Launch} {d : Nat} {sh : aw_SH} {S : aw_S} {P : aw_S → Prop} {a : Nat} {p0 : Int32} {p1 : Int32} (sa : sh[a]? = some (0, 11)) (h : Sp l m_Md_danced d 0 0 [.ref a, .int p0, .int p1] sh S (gI sh (fun x2 S1 => ((¬ x2 = 1 → ((¬ x2 = 2 → P (aw_uI (aw_uI S1 a 26 ((S1.1 a 26) + (0 : Int32))) a 27 (((aw_uI S1 a 26 ((S1.1 a 26) + (0 : Int32))).1 a 27) + (0 : Int32)))) ∧ (x2 = 2 → P (aw_uI (aw_uI S1 a 26 ((S1.1 a 26) + (0 : Int32))) a 27 (((aw_uI S1 a 26 ((S1.1 a 26) + (0 : Int32))).1 a 27) + (1 : Int32)))))) ∧ (x2 = 1 → ((¬ x2 = 2 → P (aw_uI (aw_uI S1 a 26 ((S1.1 a 26) + (1 : Int32))) a 27 (((aw_uI S1 a 26 ((S1.1 a 26) + (1 : Int32))).1 a 27) + (0 : Int32)))) ∧ (x2 = 2 → P (aw_uI (aw_uI S1 a 26 ((S1.1 a 26) + (1 : Int32))) a 27 (((aw_uI S1 a 26 ((S1.1 a 26) + (1 : Int32))).1 a 27) + (1 : Int32)))))))))) : Sp l m_Md_weaves1 (d + 1) 0 0 [.ref a, .int p0, .int p1] sh S (gV sh P) := by
  refine Sp.of k_Md_weaves1 (ls := [.ref a, .int p0, .int p1, .null]) rfl (Nat.le_of_ble_eq_true rfl) ?_
  refine r_aload_n (pc := 0) d_Md_weaves1_0 (x := a) rfl ?_
  refine r_iload_n (pc := 1) d_Md_weaves1_1 (x := p0) rfl ?_
  refine r_iload_n (pc := 2) d_Md_weaves1_2 (x := p1) rfl ?_
  refine r_callV (pc := 3) (k := a) (As := [.int p0, .int p1]) (rest := []) (mc' := 0) (ms' := 0) lk_Md_352 in_Md_danced se_Md_danced sa rfl d_Md_weaves1_3 k_Md_danced rfl rfl (Nat.le_of_ble_eq_true rfl) (by decide) (by decide) (Sp.mono h ?_)
  rintro rS1 shS1 S1 ⟨qS1, x2, uS1, h⟩
  subst uS1
  rw [qS1]
  refine r_istore_n (pc := 6) (hk := rfl) (hd := d_Md_weaves1_6) (hi := by decide) (ls2 := [.ref a, .int p0, .int p1, .int x2]) (h2 := rfl) ?_
  refine r_aload_n (pc := 7) d_Md_weaves1_7 (x := a) rfl ?_
  refine r_dup (pc := 8) d_Md_weaves1_8 rfl ?_
  refine r_getI (pc := 9) d_Md_weaves1_9 f_Md_358 sa rfl ?_
  refine r_iload_n (pc := 12) d_Md_weaves1_12 (x := x2) rfl ?_
  refine r_iconst (pc := 13) d_Md_weaves1_13 (v := 1) (by decide) ?_
  refine r_icmp_ne (pc := 14) d_Md_weaves1_14 (tgt := 21) (by decide) (fun c3 => ?_) (fun c3 => ?_)
  · replace h := h.1 c3
    refine r_iconst (pc := 21) d_Md_weaves1_21 (v := 0) (by decide) ?_
    refine r_iadd (pc := 22) d_Md_weaves1_22 ?_
    refine r_putI (pc := 23) d_Md_weaves1_23 f_Md_358 sa rfl ?_
    refine r_aload_n (pc := 26) d_Md_weaves1_26 (x := a) rfl ?_
    refine r_dup (pc := 27) d_Md_weaves1_27 rfl ?_
    refine r_getI (pc := 28) d_Md_weaves1_28 f_Md_361 sa rfl ?_
    refine r_iload_n (pc := 31) d_Md_weaves1_31 (x := x2) rfl ?_
    refine r_iconst (pc := 32) d_Md_weaves1_32 (v := 2) (by decide) ?_
    refine r_icmp_ne (pc := 33) d_Md_weaves1_33 (tgt := 40) (by decide) (fun c4 => ?_) (fun c4 => ?_)
    · replace h := h.1 c4
      refine r_iconst (pc := 40) d_Md_weaves1_40 (v := 0) (by decide) ?_
      refine r_iadd (pc := 41) d_Md_weaves1_41 ?_
      refine r_putI (pc := 42) d_Md_weaves1_42 f_Md_361 sa rfl ?_
      exact r_return (pc := 45) d_Md_weaves1_45 rfl rfl (Nat.le_refl _) ⟨rfl, rfl, h⟩
    · replace h := h.2 c4
      refine r_iconst (pc := 36) d_Md_weaves1_36 (v := 1) (by decide) ?_
      refine r_goto (pc := 37) d_Md_weaves1_37 (tgt := 41) (by decide) ?_
      refine r_iadd (pc := 41) d_Md_weaves1_41 ?_
      refine r_putI (pc := 42) d_Md_weaves1_42 f_Md_361 sa rfl ?_
      exact r_return (pc := 45) d_Md_weaves1_45 rfl rfl (Nat.le_refl _) ⟨rfl, rfl, h⟩
  · replace h := h.2 c3
    refine r_iconst (pc := 17) d_Md_weaves1_17 (v := 1) (by decide) ?_
    refine r_goto (pc := 18) d_Md_weaves1_18 (tgt := 22) (by decide) ?_
    refine r_iadd (pc := 22) d_Md_weaves1_22 ?_
    refine r_putI (pc := 23) d_Md_weaves1_23 f_Md_358 sa rfl ?_
    refine r_aload_n (pc := 26) d_Md_weaves1_26 (x := a) rfl ?_
    refine r_dup (pc := 27) d_Md_weaves1_27 rfl ?_
    refine r_getI (pc := 28) d_Md_weaves1_28 f_Md_361 sa rfl ?_
    refine r_iload_n (pc := 31) d_Md_weaves1_31 (x := x2) rfl ?_
    refine r_iconst (pc := 32) d_Md_weaves1_32 (v := 2) (by decide) ?_
    refine r_icmp_ne (pc := 33) d_Md_weaves1_33 (tgt := 40) (by decide) (fun c5 => ?_) (fun c5 => ?_)
    · replace h := h.1 c5
      refine r_iconst (pc := 40) d_Md_weaves1_40 (v := 0) (by decide) ?_
      refine r_iadd (pc := 41) d_Md_weaves1_41 ?_
      refine r_putI (pc := 42) d_Md_weaves1_42 f_Md_361 sa rfl ?_
      exact r_return (pc := 45) d_Md_weaves1_45 rfl rfl (Nat.le_refl _) ⟨rfl, rfl, h⟩
    · replace h := h.2 c5
      refine r_iconst (pc := 36) d_Md_weaves1_36 (v := 1) (by decide) ?_
      refine r_goto (pc := 37) d_Md_weaves1_37 (tgt := 41) (by decide) ?_
      refine r_iadd (pc := 41) d_Md_weaves1_41 ?_
      refine r_putI (pc := 42) d_Md_weaves1_42 f_Md_361 sa rfl ?_
      exact r_return (pc := 45) d_Md_weaves1_45 rfl rfl (Nat.le_refl _) ⟨rfl, rfl, h⟩
set_option maxRecDepth 4000 in
theorem e_Md_paint {l : Launch} {d : Nat} {sh : aw_SH} {S : aw_S} {P : Int32 → aw_S → Prop} {a : Nat} {p0 : Int32} {p1 : Int32} (sa : sh[a]? = some (0, 11)) (h : Sp l m_Md_isDancer d 0 0 [.ref a, .int p0] sh S (gI sh (fun x2 S1 => ((x2 = 0 → Sp l m_Md_refuse d 0 0 [.ref a, .int 1] sh S1 (gI sh (fun x5 S4 => P x5 S4))) ∧ (¬ x2 = 0 → Sp l m_Md_isFrom d 0 0 [.long p1.toInt64, .long 0, .long 5] sh S1 (gI sh (fun x7 S6 => ((¬ x7 = 0 → ∃ r9, S6.2.2 a 0 = some r9 ∧ ∃ n11, sh[r9]? = some (3, n11) ∧ vp_in ((10 : Int32) + p0) n11 ∧ Sp l m_Md_paints d 0 0 [.ref a, .int p0, .int p1] sh S6 (gI sh (fun x14 S13 => Sp l m_Md_gives d 0 0 [.ref a, .int (S6.1 r9 ((10 : Int32) + p0 : Int32).toNatClampNeg)] sh S13 (gI sh (fun x16 S15 => P x16 S15))))) ∧ (x7 = 0 → Sp l m_Md_refuse d 0 0 [.ref a, .int 1] sh S6 (gI sh (fun x18 S17 => P x18 S17))))))))))) : Sp l m_Md_paint (d + 1) 0 0 [.ref a, .int p0, .int p1] sh S (gI sh P) := by
  refine Sp.of k_Md_paint (ls := [.ref a, .int p0, .int p1, .null]) rfl (Nat.le_of_ble_eq_true rfl) ?_
  refine r_aload_n (pc := 0) d_Md_paint_0 (x := a) rfl ?_
  refine r_iload_n (pc := 1) d_Md_paint_1 (x := p0) rfl ?_
  refine r_callV (pc := 2) (k := a) (As := [.int p0]) (rest := []) (mc' := 0) (ms' := 0) lk_Md_313 in_Md_isDancer se_Md_isDancer sa rfl d_Md_paint_2 k_Md_isDancer rfl rfl (Nat.le_of_ble_eq_true rfl) (by decide) (by decide) (Sp.mono h ?_)
  rintro rS1 shS1 S1 ⟨qS1, x2, uS1, h⟩
  subst uS1
  rw [qS1]
  refine r_if_eq (pc := 5) d_Md_paint_5 (tgt := 20) (by decide) (fun c3 => ?_) (fun c3 => ?_)
  · replace h := h.1 c3
    refine r_aload_n (pc := 20) d_Md_paint_20 (x := a) rfl ?_
    refine r_iconst (pc := 21) d_Md_paint_21 (v := 1) (by decide) ?_
    refine r_callV (pc := 22) (k := a) (As := [.int 1]) (rest := []) (mc' := 0) (ms' := 0) lk_Md_118 in_Md_refuse se_Md_refuse sa rfl d_Md_paint_22 k_Md_refuse rfl rfl (Nat.le_of_ble_eq_true rfl) (by decide) (by decide) (Sp.mono h ?_)
    rintro rS4 shS4 S4 ⟨qS4, x5, uS4, h⟩
    subst uS4
    rw [qS4]
    exact r_ireturn (pc := 25) d_Md_paint_25 rfl rfl (Nat.le_refl _) ⟨rfl, _, rfl, h⟩
  · replace h := h.2 c3
    refine r_iload_n (pc := 8) d_Md_paint_8 (x := p1) rfl ?_
    refine r_i2l (pc := 9) d_Md_paint_9 ?_
    refine r_lconst (pc := 10) d_Md_paint_10 (v := 0) (by decide) ?_
    refine r_ldc2 (pc := 11) d_Md_paint_11 cl_Md_370 ?_
    refine r_callS (pc := 14) (k := 0) (As := [.long p1.toInt64, .long 0, .long 5]) (rest := []) (mc' := 0) (ms' := 0) lk_Md_372 st_Md_isFrom d_Md_paint_14 k_Md_isFrom rfl rfl (Nat.le_of_ble_eq_true rfl) (by decide) (by decide) (Sp.mono h ?_)
    rintro rS6 shS6 S6 ⟨qS6, x7, uS6, h⟩
    subst uS6
    rw [qS6]
    refine r_if_ne (pc := 17) d_Md_paint_17 (tgt := 26) (by decide) (fun c8 => ?_) (fun c8 => ?_)
    · replace h := h.1 c8
      refine r_aload_n (pc := 26) d_Md_paint_26 (x := a) rfl ?_
      obtain ⟨r9, er9, h⟩ := h
      refine r_getR (pc := 27) d_Md_paint_27 f_Md_7 sa (Or.inr ⟨_, rfl⟩) (r := r9) er9 ?_
      refine r_bipush (pc := 30) d_Md_paint_30 (v := 10) (by decide) ?_
      refine r_iload_n (pc := 32) d_Md_paint_32 (x := p0) rfl ?_
      refine r_iadd (pc := 33) d_Md_paint_33 ?_
      obtain ⟨n11, s10, h⟩ := h
      obtain ⟨g12, h⟩ := h
      refine r_iald (pc := 34) d_Md_paint_34 s10 g12 ?_
      refine r_istore_n (pc := 35) (hk := rfl) (hd := d_Md_paint_35) (hi := by decide) (ls2 := [.ref a, .int p0, .int p1, .int (S6.1 r9 ((10 : Int32) + p0 : Int32).toNatClampNeg)]) (h2 := rfl) ?_
      refine r_aload_n (pc := 36) d_Md_paint_36 (x := a) rfl ?_
      refine r_iload_n (pc := 37) d_Md_paint_37 (x := p0) rfl ?_
      refine r_iload_n (pc := 38) d_Md_paint_38 (x := p1) rfl ?_
      refine r_callV (pc := 39) (k := a) (As := [.int p0, .int p1]) (rest := []) (mc' := 0) (ms' := 0) lk_Md_376 in_Md_paints se_Md_paints sa rfl d_Md_paint_39 k_Md_paints rfl rfl (Nat.le_of_ble_eq_true rfl) (by decide) (by decide) (Sp.mono h ?_)
      rintro rS13 shS13 S13 ⟨qS13, x14, uS13, h⟩
      subst uS13
      rw [qS13]
      refine r_pop (pc := 42) d_Md_paint_42 rfl ?_
      refine r_aload_n (pc := 43) d_Md_paint_43 (x := a) rfl ?_
      refine r_iload_n (pc := 44) d_Md_paint_44 (x := (S6.1 r9 ((10 : Int32) + p0 : Int32).toNatClampNeg)) rfl ?_
      refine r_callV (pc := 45) (k := a) (As := [.int (S6.1 r9 ((10 : Int32) + p0 : Int32).toNatClampNeg)]) (rest := []) (mc' := 0) (ms' := 0) lk_Md_122 in_Md_gives se_Md_gives sa rfl d_Md_paint_45 k_Md_gives rfl rfl (Nat.le_of_ble_eq_true rfl) (by decide) (by decide) (Sp.mono h ?_)
      rintro rS15 shS15 S15 ⟨qS15, x16, uS15, h⟩
      subst uS15
      rw [qS15]
      exact r_ireturn (pc := 48) d_Md_paint_48 rfl rfl (Nat.le_refl _) ⟨rfl, _, rfl, h⟩
    · replace h := h.2 c8
      refine r_aload_n (pc := 20) d_Md_paint_20 (x := a) rfl ?_
      refine r_iconst (pc := 21) d_Md_paint_21 (v := 1) (by decide) ?_
      refine r_callV (pc := 22) (k := a) (As := [.int 1]) (rest := []) (mc' := 0) (ms' := 0) lk_Md_118 in_Md_refuse se_Md_refuse sa rfl d_Md_paint_22 k_Md_refuse rfl rfl (Nat.le_of_ble_eq_true rfl) (by decide) (by decide) (Sp.mono h ?_)
      rintro rS17 shS17 S17 ⟨qS17, x18, uS17, h⟩
      subst uS17
      rw [qS17]
      exact r_ireturn (pc := 25) d_Md_paint_25 rfl rfl (Nat.le_refl _) ⟨rfl, _, rfl, h⟩
set_option maxRecDepth 4000 in
theorem e_Md_isFrom {l : Launch} {d : Nat} {sh : aw_SH} {S : aw_S} {P : Int32 → aw_S → Prop} {p0 : Int64} {p1 : Int64} {p2 : Int64} (h : (((lg_cmp p0 p1) < 0 → P 0 S) ∧ (¬ (lg_cmp p0 p1) < 0 → ((0 < (lg_cmp p0 p2) → P 0 S) ∧ (¬ 0 < (lg_cmp p0 p2) → P 1 S))))) : Sp l m_Md_isFrom (d + 1) 0 0 [.long p0, .long p1, .long p2] sh S (gI sh P) := by
  refine Sp.of k_Md_isFrom (ls := [.long p0, .null, .long p1, .null, .long p2, .null]) rfl (Nat.le_of_ble_eq_true rfl) ?_
  refine r_lload_n (pc := 0) d_Md_isFrom_0 (x := p0) rfl ?_
  refine r_lload_n (pc := 1) d_Md_isFrom_1 (x := p1) rfl ?_
  refine r_lcmp (pc := 2) d_Md_isFrom_2 ?_
  refine r_if_lt (pc := 3) d_Md_isFrom_3 (tgt := 17) (by decide) (fun c1 => ?_) (fun c1 => ?_)
  · replace h := h.1 c1
    refine r_iconst (pc := 17) d_Md_isFrom_17 (v := 0) (by decide) ?_
    exact r_zreturn (pc := 18) d_Md_isFrom_18 (v := 0) rfl (by decide) rfl (Nat.le_refl _) ⟨rfl, _, rfl, h⟩
  · replace h := h.2 c1
    refine r_lload_n (pc := 6) d_Md_isFrom_6 (x := p0) rfl ?_
    refine r_lload (pc := 7) d_Md_isFrom_7 (x := p2) rfl ?_
    refine r_lcmp (pc := 9) d_Md_isFrom_9 ?_
    refine r_if_gt (pc := 10) d_Md_isFrom_10 (tgt := 17) (by decide) (fun c2 => ?_) (fun c2 => ?_)
    · replace h := h.1 c2
      refine r_iconst (pc := 17) d_Md_isFrom_17 (v := 0) (by decide) ?_
      exact r_zreturn (pc := 18) d_Md_isFrom_18 (v := 0) rfl (by decide) rfl (Nat.le_refl _) ⟨rfl, _, rfl, h⟩
    · replace h := h.2 c2
      refine r_iconst (pc := 13) d_Md_isFrom_13 (v := 1) (by decide) ?_
      refine r_goto (pc := 14) d_Md_isFrom_14 (tgt := 18) (by decide) ?_
      exact r_zreturn (pc := 18) d_Md_isFrom_18 (v := 1) rfl (by decide) rfl (Nat.le_refl _) ⟨rfl, _, rfl, h⟩
set_option maxRecDepth 4000 in
theorem e_Md_paints {l : Launch} {d : Nat} {sh : aw_SH} {S : aw_S} {P : Int32 → aw_S → Prop} {a : Nat} {p0 : Int32} {p1 : Int32} (sa : sh[a]? = some (0, 11)) (h : ∃ r1, S.2.2 a 0 = some r1 ∧ ∃ n3, sh[r1]? = some (3, n3) ∧ vp_in ((10 : Int32) + p0) n3 ∧ (((S.1 r1 ((10 : Int32) + p0 : Int32).toNatClampNeg) = p1 → vp_in ((10 : Int32) + p0) n3 ∧ P 0 (aw_uI S r1 (((10 : Int32) + p0 : Int32).toNatClampNeg) p1)) ∧ (¬ (S.1 r1 ((10 : Int32) + p0 : Int32).toNatClampNeg) = p1 → vp_in ((10 : Int32) + p0) n3 ∧ P 1 (aw_uI S r1 (((10 : Int32) + p0 : Int32).toNatClampNeg) p1)))) : Sp l m_Md_paints (d + 1) 0 0 [.ref a, .int p0, .int p1] sh S (gI sh P) := by
  refine Sp.of k_Md_paints (ls := [.ref a, .int p0, .int p1, .null]) rfl (Nat.le_of_ble_eq_true rfl) ?_
  refine r_aload_n (pc := 0) d_Md_paints_0 (x := a) rfl ?_
  obtain ⟨r1, er1, h⟩ := h
  refine r_getR (pc := 1) d_Md_paints_1 f_Md_7 sa (Or.inr ⟨_, rfl⟩) (r := r1) er1 ?_
  refine r_bipush (pc := 4) d_Md_paints_4 (v := 10) (by decide) ?_
  refine r_iload_n (pc := 6) d_Md_paints_6 (x := p0) rfl ?_
  refine r_iadd (pc := 7) d_Md_paints_7 ?_
  obtain ⟨n3, s2, h⟩ := h
  obtain ⟨g4, h⟩ := h
  refine r_iald (pc := 8) d_Md_paints_8 s2 g4 ?_
  refine r_iload_n (pc := 9) d_Md_paints_9 (x := p1) rfl ?_
  refine r_icmp_eq (pc := 10) d_Md_paints_10 (tgt := 17) (by decide) (fun c5 => ?_) (fun c5 => ?_)
  · replace h := h.1 c5
    refine r_iconst (pc := 17) d_Md_paints_17 (v := 0) (by decide) ?_
    refine r_istore_n (pc := 18) (hk := rfl) (hd := d_Md_paints_18) (hi := by decide) (ls2 := [.ref a, .int p0, .int p1, .int 0]) (h2 := rfl) ?_
    refine r_aload_n (pc := 19) d_Md_paints_19 (x := a) rfl ?_
    refine r_getR (pc := 20) d_Md_paints_20 f_Md_7 sa (Or.inr ⟨_, rfl⟩) (r := r1) er1 ?_
    refine r_bipush (pc := 23) d_Md_paints_23 (v := 10) (by decide) ?_
    refine r_iload_n (pc := 25) d_Md_paints_25 (x := p0) rfl ?_
    refine r_iadd (pc := 26) d_Md_paints_26 ?_
    refine r_iload_n (pc := 27) d_Md_paints_27 (x := p1) rfl ?_
    obtain ⟨g6, h⟩ := h
    refine r_iast (pc := 28) d_Md_paints_28 s2 g6 ?_
    refine r_iload_n (pc := 29) d_Md_paints_29 (x := 0) rfl ?_
    exact r_zreturn (pc := 30) d_Md_paints_30 (v := 0) rfl (by decide) rfl (Nat.le_refl _) ⟨rfl, _, rfl, h⟩
  · replace h := h.2 c5
    refine r_iconst (pc := 13) d_Md_paints_13 (v := 1) (by decide) ?_
    refine r_goto (pc := 14) d_Md_paints_14 (tgt := 18) (by decide) ?_
    refine r_istore_n (pc := 18) (hk := rfl) (hd := d_Md_paints_18) (hi := by decide) (ls2 := [.ref a, .int p0, .int p1, .int 1]) (h2 := rfl) ?_
    refine r_aload_n (pc := 19) d_Md_paints_19 (x := a) rfl ?_
    refine r_getR (pc := 20) d_Md_paints_20 f_Md_7 sa (Or.inr ⟨_, rfl⟩) (r := r1) er1 ?_
    refine r_bipush (pc := 23) d_Md_paints_23 (v := 10) (by decide) ?_
    refine r_iload_n (pc := 25) d_Md_paints_25 (x := p0) rfl ?_
    refine r_iadd (pc := 26) d_Md_paints_26 ?_
    refine r_iload_n (pc := 27) d_Md_paints_27 (x := p1) rfl ?_
    obtain ⟨g7, h⟩ := h
    refine r_iast (pc := 28) d_Md_paints_28 s2 g7 ?_
    refine r_iload_n (pc := 29) d_Md_paints_29 (x := 1) rfl ?_
    exact r_zreturn (pc := 30) d_Md_paints_30 (v := 1) rfl (by decide) rfl (Nat.le_refl _) ⟨rfl, _, rfl, h⟩
set_option maxRecDepth 4000 in
theorem e_Md_trade {l : Launch} {d : Nat} {sh : aw_SH} {S : aw_S} {P : Int32 → aw_S → Prop} {a : Nat} {p0 : Int32} {p1 : Int32} (sa : sh[a]? = some (0, 11)) (h : Sp l m_Md_areTwo d 0 0 [.ref a, .int p0, .int p1] sh S (gI sh (fun x2 S1 => ((¬ x2 = 0 → ∃ r4, S1.2.2 a 0 = some r4 ∧ ∃ n6, sh[r4]? = some (3, n6) ∧ vp_in ((10 : Int32) + p0) n6 ∧ vp_in ((10 : Int32) + p1) n6 ∧ ((¬ (S1.1 r4 ((10 : Int32) + p0 : Int32).toNatClampNeg) = (S1.1 r4 ((10 : Int32) + p1 : Int32).toNatClampNeg) → vp_in ((10 : Int32) + p1) n6 ∧ vp_in ((10 : Int32) + p0) n6 ∧ vp_in ((10 : Int32) + p1) n6 ∧ Sp l m_Md_is d 0 0 [.ref a, .int 0] sh (aw_uI (aw_uI S1 r4 (((10 : Int32) + p0 : Int32).toNatClampNeg) (S1.1 r4 ((10 : Int32) + p1 : Int32).toNatClampNeg)) r4 (((10 : Int32) + p1 : Int32).toNatClampNeg) (S1.1 r4 ((10 : Int32) + p0 : Int32).toNatClampNeg)) (gI sh (fun x14 S13 => ((x14 = 0 ∨ x14 = 1) ∧ P x14 S13)))) ∧ ((S1.1 r4 ((10 : Int32) + p0 : Int32).toNatClampNeg) = (S1.1 r4 ((10 : Int32) + p1 : Int32).toNatClampNeg) → Sp l m_Md_is d 0 0 [.ref a, .int 7] sh S1 (gI sh (fun x17 S16 => ((x17 = 0 ∨ x17 = 1) ∧ P x17 S16)))))) ∧ (x2 = 0 → Sp l m_Md_is d 0 0 [.ref a, .int 1] sh S1 (gI sh (fun x20 S19 => ((x20 = 0 ∨ x20 = 1) ∧ P x20 S19)))))))) : Sp l m_Md_trade (d + 1) 0 0 [.ref a, .int p0, .int p1] sh S (gI sh P) := by
  refine Sp.of k_Md_trade (ls := [.ref a, .int p0, .int p1, .null]) rfl (Nat.le_of_ble_eq_true rfl) ?_
  refine r_aload_n (pc := 0) d_Md_trade_0 (x := a) rfl ?_
  refine r_iload_n (pc := 1) d_Md_trade_1 (x := p0) rfl ?_
  refine r_iload_n (pc := 2) d_Md_trade_2 (x := p1) rfl ?_
  refine r_callV (pc := 3) (k := a) (As := [.int p0, .int p1]) (rest := []) (mc' := 0) (ms' := 0) lk_Md_379 in_Md_areTwo se_Md_areTwo sa rfl d_Md_trade_3 k_Md_areTwo rfl rfl (Nat.le_of_ble_eq_true rfl) (by decide) (by decide) (Sp.mono h ?_)
  rintro rS1 shS1 S1 ⟨qS1, x2, uS1, h⟩
  subst uS1
  rw [qS1]
  refine r_if_ne (pc := 6) d_Md_trade_6 (tgt := 15) (by decide) (fun c3 => ?_) (fun c3 => ?_)
  · replace h := h.1 c3
    refine r_aload_n (pc := 15) d_Md_trade_15 (x := a) rfl ?_
    obtain ⟨r4, er4, h⟩ := h
    refine r_getR (pc := 16) d_Md_trade_16 f_Md_7 sa (Or.inr ⟨_, rfl⟩) (r := r4) er4 ?_
    refine r_bipush (pc := 19) d_Md_trade_19 (v := 10) (by decide) ?_
    refine r_iload_n (pc := 21) d_Md_trade_21 (x := p0) rfl ?_
    refine r_iadd (pc := 22) d_Md_trade_22 ?_
    obtain ⟨n6, s5, h⟩ := h
    obtain ⟨g7, h⟩ := h
    refine r_iald (pc := 23) d_Md_trade_23 s5 g7 ?_
    refine r_istore_n (pc := 24) (hk := rfl) (hd := d_Md_trade_24) (hi := by decide) (ls2 := [.ref a, .int p0, .int p1, .int (S1.1 r4 ((10 : Int32) + p0 : Int32).toNatClampNeg)]) (h2 := rfl) ?_
    refine r_iload_n (pc := 25) d_Md_trade_25 (x := (S1.1 r4 ((10 : Int32) + p0 : Int32).toNatClampNeg)) rfl ?_
    refine r_aload_n (pc := 26) d_Md_trade_26 (x := a) rfl ?_
    refine r_getR (pc := 27) d_Md_trade_27 f_Md_7 sa (Or.inr ⟨_, rfl⟩) (r := r4) er4 ?_
    refine r_bipush (pc := 30) d_Md_trade_30 (v := 10) (by decide) ?_
    refine r_iload_n (pc := 32) d_Md_trade_32 (x := p1) rfl ?_
    refine r_iadd (pc := 33) d_Md_trade_33 ?_
    obtain ⟨g8, h⟩ := h
    refine r_iald (pc := 34) d_Md_trade_34 s5 g8 ?_
    refine r_icmp_ne (pc := 35) d_Md_trade_35 (tgt := 45) (by decide) (fun c9 => ?_) (fun c9 => ?_)
    · replace h := h.1 c9
      refine r_aload_n (pc := 45) d_Md_trade_45 (x := a) rfl ?_
      refine r_getR (pc := 46) d_Md_trade_46 f_Md_7 sa (Or.inr ⟨_, rfl⟩) (r := r4) er4 ?_
      refine r_bipush (pc := 49) d_Md_trade_49 (v := 10) (by decide) ?_
      refine r_iload_n (pc := 51) d_Md_trade_51 (x := p0) rfl ?_
      refine r_iadd (pc := 52) d_Md_trade_52 ?_
      refine r_aload_n (pc := 53) d_Md_trade_53 (x := a) rfl ?_
      refine r_getR (pc := 54) d_Md_trade_54 f_Md_7 sa (Or.inr ⟨_, rfl⟩) (r := r4) er4 ?_
      refine r_bipush (pc := 57) d_Md_trade_57 (v := 10) (by decide) ?_
      refine r_iload_n (pc := 59) d_Md_trade_59 (x := p1) rfl ?_
      refine r_iadd (pc := 60) d_Md_trade_60 ?_
      obtain ⟨g10, h⟩ := h
      refine r_iald (pc := 61) d_Md_trade_61 s5 g10 ?_
      obtain ⟨g11, h⟩ := h
      refine r_iast (pc := 62) d_Md_trade_62 s5 g11 ?_
      refine r_aload_n (pc := 63) d_Md_trade_63 (x := a) rfl ?_
      refine r_getR (pc := 64) d_Md_trade_64 f_Md_7 sa (Or.inr ⟨_, rfl⟩) (r := r4) er4 ?_
      refine r_bipush (pc := 67) d_Md_trade_67 (v := 10) (by decide) ?_
      refine r_iload_n (pc := 69) d_Md_trade_69 (x := p1) rfl ?_
      refine r_iadd (pc := 70) d_Md_trade_70 ?_
      refine r_iload_n (pc := 71) d_Md_trade_71 (x := (S1.1 r4 ((10 : Int32) + p0 : Int32).toNatClampNeg)) rfl ?_
      obtain ⟨g12, h⟩ := h
      refine r_iast (pc := 72) d_Md_trade_72 s5 g12 ?_
      refine r_aload_n (pc := 73) d_Md_trade_73 (x := a) rfl ?_
      refine r_iconst (pc := 74) d_Md_trade_74 (v := 0) (by decide) ?_
      refine r_callV (pc := 75) (k := a) (As := [.int 0]) (rest := []) (mc' := 0) (ms' := 0) lk_Md_125 in_Md_is se_Md_is sa rfl d_Md_trade_75 k_Md_is rfl rfl (Nat.le_of_ble_eq_true rfl) (by decide) (by decide) (Sp.mono h ?_)
      rintro rS13 shS13 S13 ⟨qS13, x14, uS13, h⟩
      subst uS13
      rw [qS13]
      obtain ⟨g15, h⟩ := h
      exact r_zreturn (pc := 78) d_Md_trade_78 rfl (aw_nb g15) rfl (Nat.le_refl _) ⟨rfl, _, rfl, h⟩
    · replace h := h.2 c9
      refine r_aload_n (pc := 38) d_Md_trade_38 (x := a) rfl ?_
      refine r_bipush (pc := 39) d_Md_trade_39 (v := 7) (by decide) ?_
      refine r_callV (pc := 41) (k := a) (As := [.int 7]) (rest := []) (mc' := 0) (ms' := 0) lk_Md_125 in_Md_is se_Md_is sa rfl d_Md_trade_41 k_Md_is rfl rfl (Nat.le_of_ble_eq_true rfl) (by decide) (by decide) (Sp.mono h ?_)
      rintro rS16 shS16 S16 ⟨qS16, x17, uS16, h⟩
      subst uS16
      rw [qS16]
      obtain ⟨g18, h⟩ := h
      exact r_zreturn (pc := 44) d_Md_trade_44 rfl (aw_nb g18) rfl (Nat.le_refl _) ⟨rfl, _, rfl, h⟩
  · replace h := h.2 c3
    refine r_aload_n (pc := 9) d_Md_trade_9 (x := a) rfl ?_
    refine r_iconst (pc := 10) d_Md_trade_10 (v := 1) (by decide) ?_
    refine r_callV (pc := 11) (k := a) (As := [.int 1]) (rest := []) (mc' := 0) (ms' := 0) lk_Md_125 in_Md_is se_Md_is sa rfl d_Md_trade_11 k_Md_is rfl rfl (Nat.le_of_ble_eq_true rfl) (by decide) (by decide) (Sp.mono h ?_)
    rintro rS19 shS19 S19 ⟨qS19, x20, uS19, h⟩
    subst uS19
    rw [qS19]
    obtain ⟨g21, h⟩ := h
    exact r_zreturn (pc := 14) d_Md_trade_14 rfl (aw_nb g21) rfl (Nat.le_refl _) ⟨rfl, _, rfl, h⟩
set_option maxRecDepth 4000 in
theorem e_Md_areTwo {l : Launch} {d : Nat} {sh : aw_SH} {S : aw_S} {P : Int32 → aw_S → Prop} {a : Nat} {p0 : Int32} {p1 : Int32} (sa : sh[a]? = some (0, 11)) (h : Sp l m_Md_isDancer d 0 0 [.ref a, .int p0] sh S (gI sh (fun x2 S1 => ((x2 = 0 → P 0 S1) ∧ (¬ x2 = 0 → Sp l m_Md_isDancer d 0 0 [.ref a, .int p1] sh S1 (gI sh (fun x5 S4 => ((x5 = 0 → P 0 S4) ∧ (¬ x5 = 0 → ((p0 = p1 → P 0 S4) ∧ (¬ p0 = p1 → P 1 S4))))))))))) : Sp l m_Md_areTwo (d + 1) 0 0 [.ref a, .int p0, .int p1] sh S (gI sh P) := by
  refine Sp.of k_Md_areTwo (ls := [.ref a, .int p0, .int p1]) rfl (Nat.le_of_ble_eq_true rfl) ?_
  refine r_aload_n (pc := 0) d_Md_areTwo_0 (x := a) rfl ?_
  refine r_iload_n (pc := 1) d_Md_areTwo_1 (x := p0) rfl ?_
  refine r_callV (pc := 2) (k := a) (As := [.int p0]) (rest := []) (mc' := 0) (ms' := 0) lk_Md_313 in_Md_isDancer se_Md_isDancer sa rfl d_Md_areTwo_2 k_Md_isDancer rfl rfl (Nat.le_of_ble_eq_true rfl) (by decide) (by decide) (Sp.mono h ?_)
  rintro rS1 shS1 S1 ⟨qS1, x2, uS1, h⟩
  subst uS1
  rw [qS1]
  refine r_if_eq (pc := 5) d_Md_areTwo_5 (tgt := 25) (by decide) (fun c3 => ?_) (fun c3 => ?_)
  · replace h := h.1 c3
    refine r_iconst (pc := 25) d_Md_areTwo_25 (v := 0) (by decide) ?_
    exact r_zreturn (pc := 26) d_Md_areTwo_26 (v := 0) rfl (by decide) rfl (Nat.le_refl _) ⟨rfl, _, rfl, h⟩
  · replace h := h.2 c3
    refine r_aload_n (pc := 8) d_Md_areTwo_8 (x := a) rfl ?_
    refine r_iload_n (pc := 9) d_Md_areTwo_9 (x := p1) rfl ?_
    refine r_callV (pc := 10) (k := a) (As := [.int p1]) (rest := []) (mc' := 0) (ms' := 0) lk_Md_313 in_Md_isDancer se_Md_isDancer sa rfl d_Md_areTwo_10 k_Md_isDancer rfl rfl (Nat.le_of_ble_eq_true rfl) (by decide) (by decide) (Sp.mono h ?_)
    rintro rS4 shS4 S4 ⟨qS4, x5, uS4, h⟩
    subst uS4
    rw [qS4]
    refine r_if_eq (pc := 13) d_Md_areTwo_13 (tgt := 25) (by decide) (fun c6 => ?_) (fun c6 => ?_)
    · replace h := h.1 c6
      refine r_iconst (pc := 25) d_Md_areTwo_25 (v := 0) (by decide) ?_
      exact r_zreturn (pc := 26) d_Md_areTwo_26 (v := 0) rfl (by decide) rfl (Nat.le_refl _) ⟨rfl, _, rfl, h⟩
    · replace h := h.2 c6
      refine r_iload_n (pc := 16) d_Md_areTwo_16 (x := p0) rfl ?_
      refine r_iload_n (pc := 17) d_Md_areTwo_17 (x := p1) rfl ?_
      refine r_icmp_eq (pc := 18) d_Md_areTwo_18 (tgt := 25) (by decide) (fun c7 => ?_) (fun c7 => ?_)
      · replace h := h.1 c7
        refine r_iconst (pc := 25) d_Md_areTwo_25 (v := 0) (by decide) ?_
        exact r_zreturn (pc := 26) d_Md_areTwo_26 (v := 0) rfl (by decide) rfl (Nat.le_refl _) ⟨rfl, _, rfl, h⟩
      · replace h := h.2 c7
        refine r_iconst (pc := 21) d_Md_areTwo_21 (v := 1) (by decide) ?_
        refine r_goto (pc := 22) d_Md_areTwo_22 (tgt := 26) (by decide) ?_
        exact r_zreturn (pc := 26) d_Md_areTwo_26 (v := 1) rfl (by decide) rfl (Nat.le_refl _) ⟨rfl, _, rfl, h⟩
set_option maxRecDepth 4000 in
theorem e_Md_come {l : Launch} {d : Nat} {sh : aw_SH} {S : aw_S} {P : Int32 → aw_S → Prop} {a : Nat} {p0 : Int32} (sa : sh[a]? = some (0, 11)) (h : Sp l m_Md_isFrom d 0 0 [.long p0.toInt64, .long 0, .long 5] sh S (gI sh (fun x2 S1 => ((¬ x2 = 0 → ∃ r4, S1.2.2 a 0 = some r4 ∧ ∃ n6, sh[r4]? = some (3, n6) ∧ vp_in 0 n6 ∧ ((¬ (S1.1 r4 (0 : Int32).toNatClampNeg) = 7 → vp_in 3 n6 ∧ ((0 < (S1.1 r4 (3 : Int32).toNatClampNeg) → Sp l m_Md_refuse d 0 0 [.ref a, .int 7] sh S1 (gI sh (fun x12 S11 => P x12 S11))) ∧ (¬ 0 < (S1.1 r4 (3 : Int32).toNatClampNeg) → Sp l m_Md_atHome d 0 0 [.ref a] sh S1 (gI sh (fun x14 S13 => Sp l m_Md_bits d 0 0 [.int x14] sh S13 (gI sh (fun x16 S15 => ((x16 = (S1.1 r4 (0 : Int32).toNatClampNeg) → ∃ r18, S15.2.2 a 0 = some r18 ∧ ∃ n20, sh[r18]? = some (3, n20) ∧ vp_in ((10 : Int32) + (S1.1 r4 (0 : Int32).toNatClampNeg)) n20 ∧ vp_in ((17 : Int32) + (S1.1 r4 (0 : Int32).toNatClampNeg)) n20 ∧ ∃ r23, (aw_uI (aw_uI S15 r18 (((10 : Int32) + (S1.1 r4 (0 : Int32).toNatClampNeg) : Int32).toNatClampNeg) p0) r18 (((17 : Int32) + (S1.1 r4 (0 : Int32).toNatClampNeg) : Int32).toNatClampNeg) (S1.1 r4 (0 : Int32).toNatClampNeg)).2.2 a 1 = some r23 ∧ ∃ n25, sh[r23]? = some (4, n25) ∧ vp_in (S1.1 r4 (0 : Int32).toNatClampNeg) n25 ∧ vp_in 0 n20 ∧ vp_in 0 n20 ∧ Sp l m_Md_gives d 0 0 [.ref a, .int (S1.1 r4 (0 : Int32).toNatClampNeg)] sh (aw_uI (aw_uL (aw_uI (aw_uI S15 r18 (((10 : Int32) + (S1.1 r4 (0 : Int32).toNatClampNeg) : Int32).toNatClampNeg) p0) r18 (((17 : Int32) + (S1.1 r4 (0 : Int32).toNatClampNeg) : Int32).toNatClampNeg) (S1.1 r4 (0 : Int32).toNatClampNeg)) r23 ((S1.1 r4 (0 : Int32).toNatClampNeg : Int32).toNatClampNeg) 0) r18 ((0 : Int32).toNatClampNeg) (((aw_uL (aw_uI (aw_uI S15 r18 (((10 : Int32) + (S1.1 r4 (0 : Int32).toNatClampNeg) : Int32).toNatClampNeg) p0) r18 (((17 : Int32) + (S1.1 r4 (0 : Int32).toNatClampNeg) : Int32).toNatClampNeg) (S1.1 r4 (0 : Int32).toNatClampNeg)) r23 ((S1.1 r4 (0 : Int32).toNatClampNeg : Int32).toNatClampNeg) 0).1 r18 (0 : Int32).toNatClampNeg) + (1 : Int32))) (gI sh (fun x30 S29 => P x30 S29))) ∧ (¬ x16 = (S1.1 r4 (0 : Int32).toNatClampNeg) → Sp l m_Md_refuse d 0 0 [.ref a, .int 7] sh S15 (gI sh (fun x32 S31 => P x32 S31))))))))))) ∧ ((S1.1 r4 (0 : Int32).toNatClampNeg) = 7 → Sp l m_Md_refuse d 0 0 [.ref a, .int 4] sh S1 (gI sh (fun x34 S33 => P x34 S33))))) ∧ (x2 = 0 → Sp l m_Md_refuse d 0 0 [.ref a, .int 1] sh S1 (gI sh (fun x36 S35 => P x36 S35))))))) : Sp l m_Md_come (d + 1) 0 0 [.ref a, .int p0] sh S (gI sh P) := by
  refine Sp.of k_Md_come (ls := [.ref a, .int p0, .null]) rfl (Nat.le_of_ble_eq_true rfl) ?_
  refine r_iload_n (pc := 0) d_Md_come_0 (x := p0) rfl ?_
  refine r_i2l (pc := 1) d_Md_come_1 ?_
  refine r_lconst (pc := 2) d_Md_come_2 (v := 0) (by decide) ?_
  refine r_ldc2 (pc := 3) d_Md_come_3 cl_Md_370 ?_
  refine r_callS (pc := 6) (k := 0) (As := [.long p0.toInt64, .long 0, .long 5]) (rest := []) (mc' := 0) (ms' := 0) lk_Md_372 st_Md_isFrom d_Md_come_6 k_Md_isFrom rfl rfl (Nat.le_of_ble_eq_true rfl) (by decide) (by decide) (Sp.mono h ?_)
  rintro rS1 shS1 S1 ⟨qS1, x2, uS1, h⟩
  subst uS1
  rw [qS1]
  refine r_if_ne (pc := 9) d_Md_come_9 (tgt := 18) (by decide) (fun c3 => ?_) (fun c3 => ?_)
  · replace h := h.1 c3
    refine r_aload_n (pc := 18) d_Md_come_18 (x := a) rfl ?_
    obtain ⟨r4, er4, h⟩ := h
    refine r_getR (pc := 19) d_Md_come_19 f_Md_7 sa (Or.inr ⟨_, rfl⟩) (r := r4) er4 ?_
    refine r_iconst (pc := 22) d_Md_come_22 (v := 0) (by decide) ?_
    obtain ⟨n6, s5, h⟩ := h
    obtain ⟨g7, h⟩ := h
    refine r_iald (pc := 23) d_Md_come_23 s5 g7 ?_
    refine r_istore_n (pc := 24) (hk := rfl) (hd := d_Md_come_24) (hi := by decide) (ls2 := [.ref a, .int p0, .int (S1.1 r4 (0 : Int32).toNatClampNeg)]) (h2 := rfl) ?_
    refine r_iload_n (pc := 25) d_Md_come_25 (x := (S1.1 r4 (0 : Int32).toNatClampNeg)) rfl ?_
    refine r_bipush (pc := 26) d_Md_come_26 (v := 7) (by decide) ?_
    refine r_icmp_ne (pc := 28) d_Md_come_28 (tgt := 37) (by decide) (fun c8 => ?_) (fun c8 => ?_)
    · replace h := h.1 c8
      refine r_aload_n (pc := 37) d_Md_come_37 (x := a) rfl ?_
      refine r_getR (pc := 38) d_Md_come_38 f_Md_7 sa (Or.inr ⟨_, rfl⟩) (r := r4) er4 ?_
      refine r_iconst (pc := 41) d_Md_come_41 (v := 3) (by decide) ?_
      obtain ⟨g9, h⟩ := h
      refine r_iald (pc := 42) d_Md_come_42 s5 g9 ?_
      refine r_if_gt (pc := 43) d_Md_come_43 (tgt := 57) (by decide) (fun c10 => ?_) (fun c10 => ?_)
      · replace h := h.1 c10
        refine r_aload_n (pc := 57) d_Md_come_57 (x := a) rfl ?_
        refine r_bipush (pc := 58) d_Md_come_58 (v := 7) (by decide) ?_
        refine r_callV (pc := 60) (k := a) (As := [.int 7]) (rest := []) (mc' := 0) (ms' := 0) lk_Md_118 in_Md_refuse se_Md_refuse sa rfl d_Md_come_60 k_Md_refuse rfl rfl (Nat.le_of_ble_eq_true rfl) (by decide) (by decide) (Sp.mono h ?_)
        rintro rS11 shS11 S11 ⟨qS11, x12, uS11, h⟩
        subst uS11
        rw [qS11]
        exact r_ireturn (pc := 63) d_Md_come_63 rfl rfl (Nat.le_refl _) ⟨rfl, _, rfl, h⟩
      · replace h := h.2 c10
        refine r_aload_n (pc := 46) d_Md_come_46 (x := a) rfl ?_
        refine r_callV (pc := 47) (k := a) (As := []) (rest := []) (mc' := 0) (ms' := 0) lk_Md_328 in_Md_atHome se_Md_atHome sa rfl d_Md_come_47 k_Md_atHome rfl rfl (Nat.le_of_ble_eq_true rfl) (by decide) (by decide) (Sp.mono h ?_)
        rintro rS13 shS13 S13 ⟨qS13, x14, uS13, h⟩
        subst uS13
        rw [qS13]
        refine r_callS (pc := 50) (k := 0) (As := [.int x14]) (rest := []) (mc' := 0) (ms' := 0) lk_Md_322 st_Md_bits d_Md_come_50 k_Md_bits rfl rfl (Nat.le_of_ble_eq_true rfl) (by decide) (by decide) (Sp.mono h ?_)
        rintro rS15 shS15 S15 ⟨qS15, x16, uS15, h⟩
        subst uS15
        rw [qS15]
        refine r_iload_n (pc := 53) d_Md_come_53 (x := (S1.1 r4 (0 : Int32).toNatClampNeg)) rfl ?_
        refine r_icmp_eq (pc := 54) d_Md_come_54 (tgt := 64) (by decide) (fun c17 => ?_) (fun c17 => ?_)
        · replace h := h.1 c17
          refine r_aload_n (pc := 64) d_Md_come_64 (x := a) rfl ?_
          obtain ⟨r18, er18, h⟩ := h
          refine r_getR (pc := 65) d_Md_come_65 f_Md_7 sa (Or.inr ⟨_, rfl⟩) (r := r18) er18 ?_
          refine r_bipush (pc := 68) d_Md_come_68 (v := 10) (by decide) ?_
          refine r_iload_n (pc := 70) d_Md_come_70 (x := (S1.1 r4 (0 : Int32).toNatClampNeg)) rfl ?_
          refine r_iadd (pc := 71) d_Md_come_71 ?_
          refine r_iload_n (pc := 72) d_Md_come_72 (x := p0) rfl ?_
          obtain ⟨n20, s19, h⟩ := h
          obtain ⟨g21, h⟩ := h
          refine r_iast (pc := 73) d_Md_come_73 s19 g21 ?_
          refine r_aload_n (pc := 74) d_Md_come_74 (x := a) rfl ?_
          refine r_getR (pc := 75) d_Md_come_75 f_Md_7 sa (Or.inr ⟨_, rfl⟩) (r := r18) er18 ?_
          refine r_bipush (pc := 78) d_Md_come_78 (v := 17) (by decide) ?_
          refine r_iload_n (pc := 80) d_Md_come_80 (x := (S1.1 r4 (0 : Int32).toNatClampNeg)) rfl ?_
          refine r_iadd (pc := 81) d_Md_come_81 ?_
          refine r_iload_n (pc := 82) d_Md_come_82 (x := (S1.1 r4 (0 : Int32).toNatClampNeg)) rfl ?_
          obtain ⟨g22, h⟩ := h
          refine r_iast (pc := 83) d_Md_come_83 s19 g22 ?_
          refine r_aload_n (pc := 84) d_Md_come_84 (x := a) rfl ?_
          obtain ⟨r23, er23, h⟩ := h
          refine r_getR (pc := 85) d_Md_come_85 f_Md_13 sa (Or.inr ⟨_, rfl⟩) (r := r23) er23 ?_
          refine r_iload_n (pc := 88) d_Md_come_88 (x := (S1.1 r4 (0 : Int32).toNatClampNeg)) rfl ?_
          refine r_lconst (pc := 89) d_Md_come_89 (v := 0) (by decide) ?_
          obtain ⟨n25, s24, h⟩ := h
          obtain ⟨g26, h⟩ := h
          refine r_last (pc := 90) d_Md_come_90 s24 g26 ?_
          refine r_aload_n (pc := 91) d_Md_come_91 (x := a) rfl ?_
          refine r_getR (pc := 92) d_Md_come_92 f_Md_7 sa (Or.inr ⟨_, rfl⟩) (r := r18) er18 ?_
          refine r_iconst (pc := 95) d_Md_come_95 (v := 0) (by decide) ?_
          refine r_dup2 (pc := 96) d_Md_come_96 rfl rfl ?_
          obtain ⟨g27, h⟩ := h
          refine r_iald (pc := 97) d_Md_come_97 s19 g27 ?_
          refine r_iconst (pc := 98) d_Md_come_98 (v := 1) (by decide) ?_
          refine r_iadd (pc := 99) d_Md_come_99 ?_
          obtain ⟨g28, h⟩ := h
          refine r_iast (pc := 100) d_Md_come_100 s19 g28 ?_
          refine r_aload_n (pc := 101) d_Md_come_101 (x := a) rfl ?_
          refine r_iload_n (pc := 102) d_Md_come_102 (x := (S1.1 r4 (0 : Int32).toNatClampNeg)) rfl ?_
          refine r_callV (pc := 103) (k := a) (As := [.int (S1.1 r4 (0 : Int32).toNatClampNeg)]) (rest := []) (mc' := 0) (ms' := 0) lk_Md_122 in_Md_gives se_Md_gives sa rfl d_Md_come_103 k_Md_gives rfl rfl (Nat.le_of_ble_eq_true rfl) (by decide) (by decide) (Sp.mono h ?_)
          rintro rS29 shS29 S29 ⟨qS29, x30, uS29, h⟩
          subst uS29
          rw [qS29]
          exact r_ireturn (pc := 106) d_Md_come_106 rfl rfl (Nat.le_refl _) ⟨rfl, _, rfl, h⟩
        · replace h := h.2 c17
          refine r_aload_n (pc := 57) d_Md_come_57 (x := a) rfl ?_
          refine r_bipush (pc := 58) d_Md_come_58 (v := 7) (by decide) ?_
          refine r_callV (pc := 60) (k := a) (As := [.int 7]) (rest := []) (mc' := 0) (ms' := 0) lk_Md_118 in_Md_refuse se_Md_refuse sa rfl d_Md_come_60 k_Md_refuse rfl rfl (Nat.le_of_ble_eq_true rfl) (by decide) (by decide) (Sp.mono h ?_)
          rintro rS31 shS31 S31 ⟨qS31, x32, uS31, h⟩
          subst uS31
          rw [qS31]
          exact r_ireturn (pc := 63) d_Md_come_63 rfl rfl (Nat.le_refl _) ⟨rfl, _, rfl, h⟩
    · replace h := h.2 c8
      refine r_aload_n (pc := 31) d_Md_come_31 (x := a) rfl ?_
      refine r_iconst (pc := 32) d_Md_come_32 (v := 4) (by decide) ?_
      refine r_callV (pc := 33) (k := a) (As := [.int 4]) (rest := []) (mc' := 0) (ms' := 0) lk_Md_118 in_Md_refuse se_Md_refuse sa rfl d_Md_come_33 k_Md_refuse rfl rfl (Nat.le_of_ble_eq_true rfl) (by decide) (by decide) (Sp.mono h ?_)
      rintro rS33 shS33 S33 ⟨qS33, x34, uS33, h⟩
      subst uS33
      rw [qS33]
      exact r_ireturn (pc := 36) d_Md_come_36 rfl rfl (Nat.le_refl _) ⟨rfl, _, rfl, h⟩
  · replace h := h.2 c3
    refine r_aload_n (pc := 12) d_Md_come_12 (x := a) rfl ?_
    refine r_iconst (pc := 13) d_Md_come_13 (v := 1) (by decide) ?_
    refine r_callV (pc := 14) (k := a) (As := [.int 1]) (rest := []) (mc' := 0) (ms' := 0) lk_Md_118 in_Md_refuse se_Md_refuse sa rfl d_Md_come_14 k_Md_refuse rfl rfl (Nat.le_of_ble_eq_true rfl) (by decide) (by decide) (Sp.mono h ?_)
    rintro rS35 shS35 S35 ⟨qS35, x36, uS35, h⟩
    subst uS35
    rw [qS35]
    exact r_ireturn (pc := 17) d_Md_come_17 rfl rfl (Nat.le_refl _) ⟨rfl, _, rfl, h⟩
set_option maxRecDepth 4000 in
theorem e_Md_rule {l : Launch} {d : Nat} {sh : aw_SH} {S : aw_S} {P : Int32 → aw_S → Prop} {a : Nat} {p0 : Int32} {p1 : Int32} (sa : sh[a]? = some (0, 11)) (h : ((p0 = 3 → ((¬ p0 = 3 → ((¬ p0 = 3 → Sp l m_Md_isFrom d 0 0 [.long p1.toInt64, .long 1, .long 40] sh S (gI sh (fun x5 S4 => ((¬ x5 = 0 → ∃ r7, S4.2.2 a 0 = some r7 ∧ ((¬ p0 = 3 → ∃ n10, sh[r7]? = some (3, n10) ∧ vp_in 2 n10 ∧ Sp l m_Md_is d 0 0 [.ref a, .int 0] sh (aw_uI S4 r7 ((2 : Int32).toNatClampNeg) p1) (gI sh (fun x13 S12 => ((x13 = 0 ∨ x13 = 1) ∧ P x13 S12)))) ∧ (p0 = 3 → ∃ n16, sh[r7]? = some (3, n16) ∧ vp_in 1 n16 ∧ Sp l m_Md_is d 0 0 [.ref a, .int 0] sh (aw_uI S4 r7 ((1 : Int32).toNatClampNeg) p1) (gI sh (fun x19 S18 => ((x19 = 0 ∨ x19 = 1) ∧ P x19 S18)))))) ∧ (x5 = 0 → Sp l m_Md_is d 0 0 [.ref a, .int 1] sh S4 (gI sh (fun x22 S21 => ((x22 = 0 ∨ x22 = 1) ∧ P x22 S21)))))))) ∧ (p0 = 3 → Sp l m_Md_isFrom d 0 0 [.long p1.toInt64, .long 1, .long 16] sh S (gI sh (fun x25 S24 => ((¬ x25 = 0 → ∃ r27, S24.2.2 a 0 = some r27 ∧ ((¬ p0 = 3 → ∃ n30, sh[r27]? = some (3, n30) ∧ vp_in 2 n30 ∧ Sp l m_Md_is d 0 0 [.ref a, .int 0] sh (aw_uI S24 r27 ((2 : Int32).toNatClampNeg) p1) (gI sh (fun x33 S32 => ((x33 = 0 ∨ x33 = 1) ∧ P x33 S32)))) ∧ (p0 = 3 → ∃ n36, sh[r27]? = some (3, n36) ∧ vp_in 1 n36 ∧ Sp l m_Md_is d 0 0 [.ref a, .int 0] sh (aw_uI S24 r27 ((1 : Int32).toNatClampNeg) p1) (gI sh (fun x39 S38 => ((x39 = 0 ∨ x39 = 1) ∧ P x39 S38)))))) ∧ (x25 = 0 → Sp l m_Md_is d 0 0 [.ref a, .int 1] sh S24 (gI sh (fun x42 S41 => ((x42 = 0 ∨ x42 = 1) ∧ P x42 S41)))))))))) ∧ (p0 = 3 → ((¬ p0 = 3 → Sp l m_Md_isFrom d 0 0 [.long p1.toInt64, .long 0, .long 40] sh S (gI sh (fun x46 S45 => ((¬ x46 = 0 → ∃ r48, S45.2.2 a 0 = some r48 ∧ ((¬ p0 = 3 → ∃ n51, sh[r48]? = some (3, n51) ∧ vp_in 2 n51 ∧ Sp l m_Md_is d 0 0 [.ref a, .int 0] sh (aw_uI S45 r48 ((2 : Int32).toNatClampNeg) p1) (gI sh (fun x54 S53 => ((x54 = 0 ∨ x54 = 1) ∧ P x54 S53)))) ∧ (p0 = 3 → ∃ n57, sh[r48]? = some (3, n57) ∧ vp_in 1 n57 ∧ Sp l m_Md_is d 0 0 [.ref a, .int 0] sh (aw_uI S45 r48 ((1 : Int32).toNatClampNeg) p1) (gI sh (fun x60 S59 => ((x60 = 0 ∨ x60 = 1) ∧ P x60 S59)))))) ∧ (x46 = 0 → Sp l m_Md_is d 0 0 [.ref a, .int 1] sh S45 (gI sh (fun x63 S62 => ((x63 = 0 ∨ x63 = 1) ∧ P x63 S62)))))))) ∧ (p0 = 3 → Sp l m_Md_isFrom d 0 0 [.long p1.toInt64, .long 0, .long 16] sh S (gI sh (fun x66 S65 => ((¬ x66 = 0 → ∃ r68, S65.2.2 a 0 = some r68 ∧ ((¬ p0 = 3 → ∃ n71, sh[r68]? = some (3, n71) ∧ vp_in 2 n71 ∧ Sp l m_Md_is d 0 0 [.ref a, .int 0] sh (aw_uI S65 r68 ((2 : Int32).toNatClampNeg) p1) (gI sh (fun x74 S73 => ((x74 = 0 ∨ x74 = 1) ∧ P x74 S73)))) ∧ (p0 = 3 → ∃ n77, sh[r68]? = some (3, n77) ∧ vp_in 1 n77 ∧ Sp l m_Md_is d 0 0 [.ref a, .int 0] sh (aw_uI S65 r68 ((1 : Int32).toNatClampNeg) p1) (gI sh (fun x80 S79 => ((x80 = 0 ∨ x80 = 1) ∧ P x80 S79)))))) ∧ (x66 = 0 → Sp l m_Md_is d 0 0 [.ref a, .int 1] sh S65 (gI sh (fun x83 S82 => ((x83 = 0 ∨ x83 = 1) ∧ P x83 S82)))))))))))) ∧ (¬ p0 = 3 → ((¬ p0 = 4 → Sp l m_Md_is d 0 0 [.ref a, .int 1] sh S (gI sh (fun x87 S86 => ((x87 = 0 ∨ x87 = 1) ∧ P x87 S86)))) ∧ (p0 = 4 → ((¬ p0 = 3 → ((¬ p0 = 3 → Sp l m_Md_isFrom d 0 0 [.long p1.toInt64, .long 1, .long 40] sh S (gI sh (fun x92 S91 => ((¬ x92 = 0 → ∃ r94, S91.2.2 a 0 = some r94 ∧ ((¬ p0 = 3 → ∃ n97, sh[r94]? = some (3, n97) ∧ vp_in 2 n97 ∧ Sp l m_Md_is d 0 0 [.ref a, .int 0] sh (aw_uI S91 r94 ((2 : Int32).toNatClampNeg) p1) (gI sh (fun x100 S99 => ((x100 = 0 ∨ x100 = 1) ∧ P x100 S99)))) ∧ (p0 = 3 → ∃ n103, sh[r94]? = some (3, n103) ∧ vp_in 1 n103 ∧ Sp l m_Md_is d 0 0 [.ref a, .int 0] sh (aw_uI S91 r94 ((1 : Int32).toNatClampNeg) p1) (gI sh (fun x106 S105 => ((x106 = 0 ∨ x106 = 1) ∧ P x106 S105)))))) ∧ (x92 = 0 → Sp l m_Md_is d 0 0 [.ref a, .int 1] sh S91 (gI sh (fun x109 S108 => ((x109 = 0 ∨ x109 = 1) ∧ P x109 S108)))))))) ∧ (p0 = 3 → Sp l m_Md_isFrom d 0 0 [.long p1.toInt64, .long 1, .long 16] sh S (gI sh (fun x112 S111 => ((¬ x112 = 0 → ∃ r114, S111.2.2 a 0 = some r114 ∧ ((¬ p0 = 3 → ∃ n117, sh[r114]? = some (3, n117) ∧ vp_in 2 n117 ∧ Sp l m_Md_is d 0 0 [.ref a, .int 0] sh (aw_uI S111 r114 ((2 : Int32).toNatClampNeg) p1) (gI sh (fun x120 S119 => ((x120 = 0 ∨ x120 = 1) ∧ P x120 S119)))) ∧ (p0 = 3 → ∃ n123, sh[r114]? = some (3, n123) ∧ vp_in 1 n123 ∧ Sp l m_Md_is d 0 0 [.ref a, .int 0] sh (aw_uI S111 r114 ((1 : Int32).toNatClampNeg) p1) (gI sh (fun x126 S125 => ((x126 = 0 ∨ x126 = 1) ∧ P x126 S125)))))) ∧ (x112 = 0 → Sp l m_Md_is d 0 0 [.ref a, .int 1] sh S111 (gI sh (fun x129 S128 => ((x129 = 0 ∨ x129 = 1) ∧ P x129 S128)))))))))) ∧ (p0 = 3 → ((¬ p0 = 3 → Sp l m_Md_isFrom d 0 0 [.long p1.toInt64, .long 0, .long 40] sh S (gI sh (fun x133 S132 => ((¬ x133 = 0 → ∃ r135, S132.2.2 a 0 = some r135 ∧ ((¬ p0 = 3 → ∃ n138, sh[r135]? = some (3, n138) ∧ vp_in 2 n138 ∧ Sp l m_Md_is d 0 0 [.ref a, .int 0] sh (aw_uI S132 r135 ((2 : Int32).toNatClampNeg) p1) (gI sh (fun x141 S140 => ((x141 = 0 ∨ x141 = 1) ∧ P x141 S140)))) ∧ (p0 = 3 → ∃ n144, sh[r135]? = some (3, n144) ∧ vp_in 1 n144 ∧ Sp l m_Md_is d 0 0 [.ref a, .int 0] sh (aw_uI S132 r135 ((1 : Int32).toNatClampNeg) p1) (gI sh (fun x147 S146 => ((x147 = 0 ∨ x147 = 1) ∧ P x147 S146)))))) ∧ (x133 = 0 → Sp l m_Md_is d 0 0 [.ref a, .int 1] sh S132 (gI sh (fun x150 S149 => ((x150 = 0 ∨ x150 = 1) ∧ P x150 S149)))))))) ∧ (p0 = 3 → Sp l m_Md_isFrom d 0 0 [.long p1.toInt64, .long 0, .long 16] sh S (gI sh (fun x153 S152 => ((¬ x153 = 0 → ∃ r155, S152.2.2 a 0 = some r155 ∧ ((¬ p0 = 3 → ∃ n158, sh[r155]? = some (3, n158) ∧ vp_in 2 n158 ∧ Sp l m_Md_is d 0 0 [.ref a, .int 0] sh (aw_uI S152 r155 ((2 : Int32).toNatClampNeg) p1) (gI sh (fun x161 S160 => ((x161 = 0 ∨ x161 = 1) ∧ P x161 S160)))) ∧ (p0 = 3 → ∃ n164, sh[r155]? = some (3, n164) ∧ vp_in 1 n164 ∧ Sp l m_Md_is d 0 0 [.ref a, .int 0] sh (aw_uI S152 r155 ((1 : Int32).toNatClampNeg) p1) (gI sh (fun x167 S166 => ((x167 = 0 ∨ x167 = 1) ∧ P x167 S166)))))) ∧ (x153 = 0 → Sp l m_Md_is d 0 0 [.ref a, .int 1] sh S152 (gI sh (fun x170 S169 => ((x170 = 0 ∨ x170 = 1) ∧ P x170 S169)))))))))))))))) : Sp l m_Md_rule (d + 1) 0 0 [.ref a, .int p0, .int p1] sh S (gI sh P) := by
  refine Sp.of k_Md_rule (ls := [.ref a, .int p0, .int p1]) rfl (Nat.le_of_ble_eq_true rfl) ?_
  refine r_iload_n (pc := 0) d_Md_rule_0 (x := p0) rfl ?_
  refine r_iconst (pc := 1) d_Md_rule_1 (v := 3) (by decide) ?_
  refine r_icmp_eq (pc := 2) d_Md_rule_2 (tgt := 10) (by decide) (fun c1 => ?_) (fun c1 => ?_)
  · replace h := h.1 c1
    refine r_iload_n (pc := 10) d_Md_rule_10 (x := p1) rfl ?_
    refine r_i2l (pc := 11) d_Md_rule_11 ?_
    refine r_iload_n (pc := 12) d_Md_rule_12 (x := p0) rfl ?_
    refine r_iconst (pc := 13) d_Md_rule_13 (v := 3) (by decide) ?_
    refine r_icmp_ne (pc := 14) d_Md_rule_14 (tgt := 21) (by decide) (fun c2 => ?_) (fun c2 => ?_)
    · replace h := h.1 c2
      refine r_lconst (pc := 21) d_Md_rule_21 (v := 1) (by decide) ?_
      refine r_iload_n (pc := 22) d_Md_rule_22 (x := p0) rfl ?_
      refine r_iconst (pc := 23) d_Md_rule_23 (v := 3) (by decide) ?_
      refine r_icmp_ne (pc := 24) d_Md_rule_24 (tgt := 33) (by decide) (fun c3 => ?_) (fun c3 => ?_)
      · replace h := h.1 c3
        refine r_ldc2 (pc := 33) d_Md_rule_33 cl_Md_384 ?_
        refine r_callS (pc := 36) (k := 0) (As := [.long p1.toInt64, .long 1, .long 40]) (rest := []) (mc' := 0) (ms' := 0) lk_Md_372 st_Md_isFrom d_Md_rule_36 k_Md_isFrom rfl rfl (Nat.le_of_ble_eq_true rfl) (by decide) (by decide) (Sp.mono h ?_)
        rintro rS4 shS4 S4 ⟨qS4, x5, uS4, h⟩
        subst uS4
        rw [qS4]
        refine r_if_ne (pc := 39) d_Md_rule_39 (tgt := 48) (by decide) (fun c6 => ?_) (fun c6 => ?_)
        · replace h := h.1 c6
          refine r_aload_n (pc := 48) d_Md_rule_48 (x := a) rfl ?_
          obtain ⟨r7, er7, h⟩ := h
          refine r_getR (pc := 49) d_Md_rule_49 f_Md_7 sa (Or.inr ⟨_, rfl⟩) (r := r7) er7 ?_
          refine r_iload_n (pc := 52) d_Md_rule_52 (x := p0) rfl ?_
          refine r_iconst (pc := 53) d_Md_rule_53 (v := 3) (by decide) ?_
          refine r_icmp_ne (pc := 54) d_Md_rule_54 (tgt := 61) (by decide) (fun c8 => ?_) (fun c8 => ?_)
          · replace h := h.1 c8
            refine r_iconst (pc := 61) d_Md_rule_61 (v := 2) (by decide) ?_
            refine r_iload_n (pc := 62) d_Md_rule_62 (x := p1) rfl ?_
            obtain ⟨n10, s9, h⟩ := h
            obtain ⟨g11, h⟩ := h
            refine r_iast (pc := 63) d_Md_rule_63 s9 g11 ?_
            refine r_aload_n (pc := 64) d_Md_rule_64 (x := a) rfl ?_
            refine r_iconst (pc := 65) d_Md_rule_65 (v := 0) (by decide) ?_
            refine r_callV (pc := 66) (k := a) (As := [.int 0]) (rest := []) (mc' := 0) (ms' := 0) lk_Md_125 in_Md_is se_Md_is sa rfl d_Md_rule_66 k_Md_is rfl rfl (Nat.le_of_ble_eq_true rfl) (by decide) (by decide) (Sp.mono h ?_)
            rintro rS12 shS12 S12 ⟨qS12, x13, uS12, h⟩
            subst uS12
            rw [qS12]
            obtain ⟨g14, h⟩ := h
            exact r_zreturn (pc := 69) d_Md_rule_69 rfl (aw_nb g14) rfl (Nat.le_refl _) ⟨rfl, _, rfl, h⟩
          · replace h := h.2 c8
            refine r_iconst (pc := 57) d_Md_rule_57 (v := 1) (by decide) ?_
            refine r_goto (pc := 58) d_Md_rule_58 (tgt := 62) (by decide) ?_
            refine r_iload_n (pc := 62) d_Md_rule_62 (x := p1) rfl ?_
            obtain ⟨n16, s15, h⟩ := h
            obtain ⟨g17, h⟩ := h
            refine r_iast (pc := 63) d_Md_rule_63 s15 g17 ?_
            refine r_aload_n (pc := 64) d_Md_rule_64 (x := a) rfl ?_
            refine r_iconst (pc := 65) d_Md_rule_65 (v := 0) (by decide) ?_
            refine r_callV (pc := 66) (k := a) (As := [.int 0]) (rest := []) (mc' := 0) (ms' := 0) lk_Md_125 in_Md_is se_Md_is sa rfl d_Md_rule_66 k_Md_is rfl rfl (Nat.le_of_ble_eq_true rfl) (by decide) (by decide) (Sp.mono h ?_)
            rintro rS18 shS18 S18 ⟨qS18, x19, uS18, h⟩
            subst uS18
            rw [qS18]
            obtain ⟨g20, h⟩ := h
            exact r_zreturn (pc := 69) d_Md_rule_69 rfl (aw_nb g20) rfl (Nat.le_refl _) ⟨rfl, _, rfl, h⟩
        · replace h := h.2 c6
          refine r_aload_n (pc := 42) d_Md_rule_42 (x := a) rfl ?_
          refine r_iconst (pc := 43) d_Md_rule_43 (v := 1) (by decide) ?_
          refine r_callV (pc := 44) (k := a) (As := [.int 1]) (rest := []) (mc' := 0) (ms' := 0) lk_Md_125 in_Md_is se_Md_is sa rfl d_Md_rule_44 k_Md_is rfl rfl (Nat.le_of_ble_eq_true rfl) (by decide) (by decide) (Sp.mono h ?_)
          rintro rS21 shS21 S21 ⟨qS21, x22, uS21, h⟩
          subst uS21
          rw [qS21]
          obtain ⟨g23, h⟩ := h
          exact r_zreturn (pc := 47) d_Md_rule_47 rfl (aw_nb g23) rfl (Nat.le_refl _) ⟨rfl, _, rfl, h⟩
      · replace h := h.2 c3
        refine r_ldc2 (pc := 27) d_Md_rule_27 cl_Md_382 ?_
        refine r_goto (pc := 30) d_Md_rule_30 (tgt := 36) (by decide) ?_
        refine r_callS (pc := 36) (k := 0) (As := [.long p1.toInt64, .long 1, .long 16]) (rest := []) (mc' := 0) (ms' := 0) lk_Md_372 st_Md_isFrom d_Md_rule_36 k_Md_isFrom rfl rfl (Nat.le_of_ble_eq_true rfl) (by decide) (by decide) (Sp.mono h ?_)
        rintro rS24 shS24 S24 ⟨qS24, x25, uS24, h⟩
        subst uS24
        rw [qS24]
        refine r_if_ne (pc := 39) d_Md_rule_39 (tgt := 48) (by decide) (fun c26 => ?_) (fun c26 => ?_)
        · replace h := h.1 c26
          refine r_aload_n (pc := 48) d_Md_rule_48 (x := a) rfl ?_
          obtain ⟨r27, er27, h⟩ := h
          refine r_getR (pc := 49) d_Md_rule_49 f_Md_7 sa (Or.inr ⟨_, rfl⟩) (r := r27) er27 ?_
          refine r_iload_n (pc := 52) d_Md_rule_52 (x := p0) rfl ?_
          refine r_iconst (pc := 53) d_Md_rule_53 (v := 3) (by decide) ?_
          refine r_icmp_ne (pc := 54) d_Md_rule_54 (tgt := 61) (by decide) (fun c28 => ?_) (fun c28 => ?_)
          · replace h := h.1 c28
            refine r_iconst (pc := 61) d_Md_rule_61 (v := 2) (by decide) ?_
            refine r_iload_n (pc := 62) d_Md_rule_62 (x := p1) rfl ?_
            obtain ⟨n30, s29, h⟩ := h
            obtain ⟨g31, h⟩ := h
            refine r_iast (pc := 63) d_Md_rule_63 s29 g31 ?_
            refine r_aload_n (pc := 64) d_Md_rule_64 (x := a) rfl ?_
            refine r_iconst (pc := 65) d_Md_rule_65 (v := 0) (by decide) ?_
            refine r_callV (pc := 66) (k := a) (As := [.int 0]) (rest := []) (mc' := 0) (ms' := 0) lk_Md_125 in_Md_is se_Md_is sa rfl d_Md_rule_66 k_Md_is rfl rfl (Nat.le_of_ble_eq_true rfl) (by decide) (by decide) (Sp.mono h ?_)
            rintro rS32 shS32 S32 ⟨qS32, x33, uS32, h⟩
            subst uS32
            rw [qS32]
            obtain ⟨g34, h⟩ := h
            exact r_zreturn (pc := 69) d_Md_rule_69 rfl (aw_nb g34) rfl (Nat.le_refl _) ⟨rfl, _, rfl, h⟩
          · replace h := h.2 c28
            refine r_iconst (pc := 57) d_Md_rule_57 (v := 1) (by decide) ?_
            refine r_goto (pc := 58) d_Md_rule_58 (tgt := 62) (by decide) ?_
            refine r_iload_n (pc := 62) d_Md_rule_62 (x := p1) rfl ?_
            obtain ⟨n36, s35, h⟩ := h
            obtain ⟨g37, h⟩ := h
            refine r_iast (pc := 63) d_Md_rule_63 s35 g37 ?_
            refine r_aload_n (pc := 64) d_Md_rule_64 (x := a) rfl ?_
            refine r_iconst (pc := 65) d_Md_rule_65 (v := 0) (by decide) ?_
            refine r_callV (pc := 66) (k := a) (As := [.int 0]) (rest := []) (mc' := 0) (ms' := 0) lk_Md_125 in_Md_is se_Md_is sa rfl d_Md_rule_66 k_Md_is rfl rfl (Nat.le_of_ble_eq_true rfl) (by decide) (by decide) (Sp.mono h ?_)
            rintro rS38 shS38 S38 ⟨qS38, x39, uS38, h⟩
            subst uS38
            rw [qS38]
            obtain ⟨g40, h⟩ := h
            exact r_zreturn (pc := 69) d_Md_rule_69 rfl (aw_nb g40) rfl (Nat.le_refl _) ⟨rfl, _, rfl, h⟩
        · replace h := h.2 c26
          refine r_aload_n (pc := 42) d_Md_rule_42 (x := a) rfl ?_
          refine r_iconst (pc := 43) d_Md_rule_43 (v := 1) (by decide) ?_
          refine r_callV (pc := 44) (k := a) (As := [.int 1]) (rest := []) (mc' := 0) (ms' := 0) lk_Md_125 in_Md_is se_Md_is sa rfl d_Md_rule_44 k_Md_is rfl rfl (Nat.le_of_ble_eq_true rfl) (by decide) (by decide) (Sp.mono h ?_)
          rintro rS41 shS41 S41 ⟨qS41, x42, uS41, h⟩
          subst uS41
          rw [qS41]
          obtain ⟨g43, h⟩ := h
          exact r_zreturn (pc := 47) d_Md_rule_47 rfl (aw_nb g43) rfl (Nat.le_refl _) ⟨rfl, _, rfl, h⟩
    · replace h := h.2 c2
      refine r_lconst (pc := 17) d_Md_rule_17 (v := 0) (by decide) ?_
      refine r_goto (pc := 18) d_Md_rule_18 (tgt := 22) (by decide) ?_
      refine r_iload_n (pc := 22) d_Md_rule_22 (x := p0) rfl ?_
      refine r_iconst (pc := 23) d_Md_rule_23 (v := 3) (by decide) ?_
      refine r_icmp_ne (pc := 24) d_Md_rule_24 (tgt := 33) (by decide) (fun c44 => ?_) (fun c44 => ?_)
      · replace h := h.1 c44
        refine r_ldc2 (pc := 33) d_Md_rule_33 cl_Md_384 ?_
        refine r_callS (pc := 36) (k := 0) (As := [.long p1.toInt64, .long 0, .long 40]) (rest := []) (mc' := 0) (ms' := 0) lk_Md_372 st_Md_isFrom d_Md_rule_36 k_Md_isFrom rfl rfl (Nat.le_of_ble_eq_true rfl) (by decide) (by decide) (Sp.mono h ?_)
        rintro rS45 shS45 S45 ⟨qS45, x46, uS45, h⟩
        subst uS45
        rw [qS45]
        refine r_if_ne (pc := 39) d_Md_rule_39 (tgt := 48) (by decide) (fun c47 => ?_) (fun c47 => ?_)
        · replace h := h.1 c47
          refine r_aload_n (pc := 48) d_Md_rule_48 (x := a) rfl ?_
          obtain ⟨r48, er48, h⟩ := h
          refine r_getR (pc := 49) d_Md_rule_49 f_Md_7 sa (Or.inr ⟨_, rfl⟩) (r := r48) er48 ?_
          refine r_iload_n (pc := 52) d_Md_rule_52 (x := p0) rfl ?_
          refine r_iconst (pc := 53) d_Md_rule_53 (v := 3) (by decide) ?_
          refine r_icmp_ne (pc := 54) d_Md_rule_54 (tgt := 61) (by decide) (fun c49 => ?_) (fun c49 => ?_)
          · replace h := h.1 c49
            refine r_iconst (pc := 61) d_Md_rule_61 (v := 2) (by decide) ?_
            refine r_iload_n (pc := 62) d_Md_rule_62 (x := p1) rfl ?_
            obtain ⟨n51, s50, h⟩ := h
            obtain ⟨g52, h⟩ := h
            refine r_iast (pc := 63) d_Md_rule_63 s50 g52 ?_
            refine r_aload_n (pc := 64) d_Md_rule_64 (x := a) rfl ?_
            refine r_iconst (pc := 65) d_Md_rule_65 (v := 0) (by decide) ?_
            refine r_callV (pc := 66) (k := a) (As := [.int 0]) (rest := []) (mc' := 0) (ms' := 0) lk_Md_125 in_Md_is se_Md_is sa rfl d_Md_rule_66 k_Md_is rfl rfl (Nat.le_of_ble_eq_true rfl) (by decide) (by decide) (Sp.mono h ?_)
            rintro rS53 shS53 S53 ⟨qS53, x54, uS53, h⟩
            subst uS53
            rw [qS53]
            obtain ⟨g55, h⟩ := h
            exact r_zreturn (pc := 69) d_Md_rule_69 rfl (aw_nb g55) rfl (Nat.le_refl _) ⟨rfl, _, rfl, h⟩
          · replace h := h.2 c49
            refine r_iconst (pc := 57) d_Md_rule_57 (v := 1) (by decide) ?_
            refine r_goto (pc := 58) d_Md_rule_58 (tgt := 62) (by decide) ?_
            refine r_iload_n (pc := 62) d_Md_rule_62 (x := p1) rfl ?_
            obtain ⟨n57, s56, h⟩ := h
            obtain ⟨g58, h⟩ := h
            refine r_iast (pc := 63) d_Md_rule_63 s56 g58 ?_
            refine r_aload_n (pc := 64) d_Md_rule_64 (x := a) rfl ?_
            refine r_iconst (pc := 65) d_Md_rule_65 (v := 0) (by decide) ?_
            refine r_callV (pc := 66) (k := a) (As := [.int 0]) (rest := []) (mc' := 0) (ms' := 0) lk_Md_125 in_Md_is se_Md_is sa rfl d_Md_rule_66 k_Md_is rfl rfl (Nat.le_of_ble_eq_true rfl) (by decide) (by decide) (Sp.mono h ?_)
            rintro rS59 shS59 S59 ⟨qS59, x60, uS59, h⟩
            subst uS59
            rw [qS59]
            obtain ⟨g61, h⟩ := h
            exact r_zreturn (pc := 69) d_Md_rule_69 rfl (aw_nb g61) rfl (Nat.le_refl _) ⟨rfl, _, rfl, h⟩
        · replace h := h.2 c47
          refine r_aload_n (pc := 42) d_Md_rule_42 (x := a) rfl ?_
          refine r_iconst (pc := 43) d_Md_rule_43 (v := 1) (by decide) ?_
          refine r_callV (pc := 44) (k := a) (As := [.int 1]) (rest := []) (mc' := 0) (ms' := 0) lk_Md_125 in_Md_is se_Md_is sa rfl d_Md_rule_44 k_Md_is rfl rfl (Nat.le_of_ble_eq_true rfl) (by decide) (by decide) (Sp.mono h ?_)
          rintro rS62 shS62 S62 ⟨qS62, x63, uS62, h⟩
          subst uS62
          rw [qS62]
          obtain ⟨g64, h⟩ := h
          exact r_zreturn (pc := 47) d_Md_rule_47 rfl (aw_nb g64) rfl (Nat.le_refl _) ⟨rfl, _, rfl, h⟩
      · replace h := h.2 c44
        refine r_ldc2 (pc := 27) d_Md_rule_27 cl_Md_382 ?_
        refine r_goto (pc := 30) d_Md_rule_30 (tgt := 36) (by decide) ?_
        refine r_callS (pc := 36) (k := 0) (As := [.long p1.toInt64, .long 0, .long 16]) (rest := []) (mc' := 0) (ms' := 0) lk_Md_372 st_Md_isFrom d_Md_rule_36 k_Md_isFrom rfl rfl (Nat.le_of_ble_eq_true rfl) (by decide) (by decide) (Sp.mono h ?_)
        rintro rS65 shS65 S65 ⟨qS65, x66, uS65, h⟩
        subst uS65
        rw [qS65]
        refine r_if_ne (pc := 39) d_Md_rule_39 (tgt := 48) (by decide) (fun c67 => ?_) (fun c67 => ?_)
        · replace h := h.1 c67
          refine r_aload_n (pc := 48) d_Md_rule_48 (x := a) rfl ?_
          obtain ⟨r68, er68, h⟩ := h
          refine r_getR (pc := 49) d_Md_rule_49 f_Md_7 sa (Or.inr ⟨_, rfl⟩) (r := r68) er68 ?_
          refine r_iload_n (pc := 52) d_Md_rule_52 (x := p0) rfl ?_
          refine r_iconst (pc := 53) d_Md_rule_53 (v := 3) (by decide) ?_
          refine r_icmp_ne (pc := 54) d_Md_rule_54 (tgt := 61) (by decide) (fun c69 => ?_) (fun c69 => ?_)
          · replace h := h.1 c69
            refine r_iconst (pc := 61) d_Md_rule_61 (v := 2) (by decide) ?_
            refine r_iload_n (pc := 62) d_Md_rule_62 (x := p1) rfl ?_
            obtain ⟨n71, s70, h⟩ := h
            obtain ⟨g72, h⟩ := h
            refine r_iast (pc := 63) d_Md_rule_63 s70 g72 ?_
            refine r_aload_n (pc := 64) d_Md_rule_64 (x := a) rfl ?_
            refine r_iconst (pc := 65) d_Md_rule_65 (v := 0) (by decide) ?_
            refine r_callV (pc := 66) (k := a) (As := [.int 0]) (rest := []) (mc' := 0) (ms' := 0) lk_Md_125 in_Md_is se_Md_is sa rfl d_Md_rule_66 k_Md_is rfl rfl (Nat.le_of_ble_eq_true rfl) (by decide) (by decide) (Sp.mono h ?_)
            rintro rS73 shS73 S73 ⟨qS73, x74, uS73, h⟩
            subst uS73
            rw [qS73]
            obtain ⟨g75, h⟩ := h
            exact r_zreturn (pc := 69) d_Md_rule_69 rfl (aw_nb g75) rfl (Nat.le_refl _) ⟨rfl, _, rfl, h⟩
          · replace h := h.2 c69
            refine r_iconst (pc := 57) d_Md_rule_57 (v := 1) (by decide) ?_
            refine r_goto (pc := 58) d_Md_rule_58 (tgt := 62) (by decide) ?_
            refine r_iload_n (pc := 62) d_Md_rule_62 (x := p1) rfl ?_
            obtain ⟨n77, s76, h⟩ := h
            obtain ⟨g78, h⟩ := h
            refine r_iast (pc := 63) d_Md_rule_63 s76 g78 ?_
            refine r_aload_n (pc := 64) d_Md_rule_64 (x := a) rfl ?_
            refine r_iconst (pc := 65) d_Md_rule_65 (v := 0) (by decide) ?_
            refine r_callV (pc := 66) (k := a) (As := [.int 0]) (rest := []) (mc' := 0) (ms' := 0) lk_Md_125 in_Md_is se_Md_is sa rfl d_Md_rule_66 k_Md_is rfl rfl (Nat.le_of_ble_eq_true rfl) (by decide) (by decide) (Sp.mono h ?_)
            rintro rS79 shS79 S79 ⟨qS79, x80, uS79, h⟩
            subst uS79
            rw [qS79]
            obtain ⟨g81, h⟩ := h
            exact r_zreturn (pc := 69) d_Md_rule_69 rfl (aw_nb g81) rfl (Nat.le_refl _) ⟨rfl, _, rfl, h⟩
        · replace h := h.2 c67
          refine r_aload_n (pc := 42) d_Md_rule_42 (x := a) rfl ?_
          refine r_iconst (pc := 43) d_Md_rule_43 (v := 1) (by decide) ?_
          refine r_callV (pc := 44) (k := a) (As := [.int 1]) (rest := []) (mc' := 0) (ms' := 0) lk_Md_125 in_Md_is se_Md_is sa rfl d_Md_rule_44 k_Md_is rfl rfl (Nat.le_of_ble_eq_true rfl) (by decide) (by decide) (Sp.mono h ?_)
          rintro rS82 shS82 S82 ⟨qS82, x83, uS82, h⟩
          subst uS82
          rw [qS82]
          obtain ⟨g84, h⟩ := h
          exact r_zreturn (pc := 47) d_Md_rule_47 rfl (aw_nb g84) rfl (Nat.le_refl _) ⟨rfl, _, rfl, h⟩
  · replace h := h.2 c1
    refine r_iload_n (pc := 5) d_Md_rule_5 (x := p0) rfl ?_
    refine r_iconst (pc := 6) d_Md_rule_6 (v := 4) (by decide) ?_
    refine r_icmp_ne (pc := 7) d_Md_rule_7 (tgt := 42) (by decide) (fun c85 => ?_) (fun c85 => ?_)
    · replace h := h.1 c85
      refine r_aload_n (pc := 42) d_Md_rule_42 (x := a) rfl ?_
      refine r_iconst (pc := 43) d_Md_rule_43 (v := 1) (by decide) ?_
      refine r_callV (pc := 44) (k := a) (As := [.int 1]) (rest := []) (mc' := 0) (ms' := 0) lk_Md_125 in_Md_is se_Md_is sa rfl d_Md_rule_44 k_Md_is rfl rfl (Nat.le_of_ble_eq_true rfl) (by decide) (by decide) (Sp.mono h ?_)
      rintro rS86 shS86 S86 ⟨qS86, x87, uS86, h⟩
      subst uS86
      rw [qS86]
      obtain ⟨g88, h⟩ := h
      exact r_zreturn (pc := 47) d_Md_rule_47 rfl (aw_nb g88) rfl (Nat.le_refl _) ⟨rfl, _, rfl, h⟩
    · replace h := h.2 c85
      refine r_iload_n (pc := 10) d_Md_rule_10 (x := p1) rfl ?_
      refine r_i2l (pc := 11) d_Md_rule_11 ?_
      refine r_iload_n (pc := 12) d_Md_rule_12 (x := p0) rfl ?_
      refine r_iconst (pc := 13) d_Md_rule_13 (v := 3) (by decide) ?_
      refine r_icmp_ne (pc := 14) d_Md_rule_14 (tgt := 21) (by decide) (fun c89 => ?_) (fun c89 => ?_)
      · replace h := h.1 c89
        refine r_lconst (pc := 21) d_Md_rule_21 (v := 1) (by decide) ?_
        refine r_iload_n (pc := 22) d_Md_rule_22 (x := p0) rfl ?_
        refine r_iconst (pc := 23) d_Md_rule_23 (v := 3) (by decide) ?_
        refine r_icmp_ne (pc := 24) d_Md_rule_24 (tgt := 33) (by decide) (fun c90 => ?_) (fun c90 => ?_)
        · replace h := h.1 c90
          refine r_ldc2 (pc := 33) d_Md_rule_33 cl_Md_384 ?_
          refine r_callS (pc := 36) (k := 0) (As := [.long p1.toInt64, .long 1, .long 40]) (rest := []) (mc' := 0) (ms' := 0) lk_Md_372 st_Md_isFrom d_Md_rule_36 k_Md_isFrom rfl rfl (Nat.le_of_ble_eq_true rfl) (by decide) (by decide) (Sp.mono h ?_)
          rintro rS91 shS91 S91 ⟨qS91, x92, uS91, h⟩
          subst uS91
          rw [qS91]
          refine r_if_ne (pc := 39) d_Md_rule_39 (tgt := 48) (by decide) (fun c93 => ?_) (fun c93 => ?_)
          · replace h := h.1 c93
            refine r_aload_n (pc := 48) d_Md_rule_48 (x := a) rfl ?_
            obtain ⟨r94, er94, h⟩ := h
            refine r_getR (pc := 49) d_Md_rule_49 f_Md_7 sa (Or.inr ⟨_, rfl⟩) (r := r94) er94 ?_
            refine r_iload_n (pc := 52) d_Md_rule_52 (x := p0) rfl ?_
            refine r_iconst (pc := 53) d_Md_rule_53 (v := 3) (by decide) ?_
            refine r_icmp_ne (pc := 54) d_Md_rule_54 (tgt := 61) (by decide) (fun c95 => ?_) (fun c95 => ?_)
            · replace h := h.1 c95
              refine r_iconst (pc := 61) d_Md_rule_61 (v := 2) (by decide) ?_
              refine r_iload_n (pc := 62) d_Md_rule_62 (x := p1) rfl ?_
              obtain ⟨n97, s96, h⟩ := h
              obtain ⟨g98, h⟩ := h
              refine r_iast (pc := 63) d_Md_rule_63 s96 g98 ?_
              refine r_aload_n (pc := 64) d_Md_rule_64 (x := a) rfl ?_
              refine r_iconst (pc := 65) d_Md_rule_65 (v := 0) (by decide) ?_
              refine r_callV (pc := 66) (k := a) (As := [.int 0]) (rest := []) (mc' := 0) (ms' := 0) lk_Md_125 in_Md_is se_Md_is sa rfl d_Md_rule_66 k_Md_is rfl rfl (Nat.le_of_ble_eq_true rfl) (by decide) (by decide) (Sp.mono h ?_)
              rintro rS99 shS99 S99 ⟨qS99, x100, uS99, h⟩
              subst uS99
              rw [qS99]
              obtain ⟨g101, h⟩ := h
              exact r_zreturn (pc := 69) d_Md_rule_69 rfl (aw_nb g101) rfl (Nat.le_refl _) ⟨rfl, _, rfl, h⟩
            · replace h := h.2 c95
              refine r_iconst (pc := 57) d_Md_rule_57 (v := 1) (by decide) ?_
              refine r_goto (pc := 58) d_Md_rule_58 (tgt := 62) (by decide) ?_
              refine r_iload_n (pc := 62) d_Md_rule_62 (x := p1) rfl ?_
              obtain ⟨n103, s102, h⟩ := h
              obtain ⟨g104, h⟩ := h
              refine r_iast (pc := 63) d_Md_rule_63 s102 g104 ?_
              refine r_aload_n (pc := 64) d_Md_rule_64 (x := a) rfl ?_
              refine r_iconst (pc := 65) d_Md_rule_65 (v := 0) (by decide) ?_
              refine r_callV (pc := 66) (k := a) (As := [.int 0]) (rest := []) (mc' := 0) (ms' := 0) lk_Md_125 in_Md_is se_Md_is sa rfl d_Md_rule_66 k_Md_is rfl rfl (Nat.le_of_ble_eq_true rfl) (by decide) (by decide) (Sp.mono h ?_)
              rintro rS105 shS105 S105 ⟨qS105, x106, uS105, h⟩
              subst uS105
              rw [qS105]
              obtain ⟨g107, h⟩ := h
              exact r_zreturn (pc := 69) d_Md_rule_69 rfl (aw_nb g107) rfl (Nat.le_refl _) ⟨rfl, _, rfl, h⟩
          · replace h := h.2 c93
            refine r_aload_n (pc := 42) d_Md_rule_42 (x := a) rfl ?_
            refine r_iconst (pc := 43) d_Md_rule_43 (v := 1) (by decide) ?_
            refine r_callV (pc := 44) (k := a) (As := [.int 1]) (rest := []) (mc' := 0) (ms' := 0) lk_Md_125 in_Md_is se_Md_is sa rfl d_Md_rule_44 k_Md_is rfl rfl (Nat.le_of_ble_eq_true rfl) (by decide) (by decide) (Sp.mono h ?_)
            rintro rS108 shS108 S108 ⟨qS108, x109, uS108, h⟩
            subst uS108
            rw [qS108]
            obtain ⟨g110, h⟩ := h
            exact r_zreturn (pc := 47) d_Md_rule_47 rfl (aw_nb g110) rfl (Nat.le_refl _) ⟨rfl, _, rfl, h⟩
        · replace h := h.2 c90
          refine r_ldc2 (pc := 27) d_Md_rule_27 cl_Md_382 ?_
          refine r_goto (pc := 30) d_Md_rule_30 (tgt := 36) (by decide) ?_
          refine r_callS (pc := 36) (k := 0) (As := [.long p1.toInt64, .long 1, .long 16]) (rest := []) (mc' := 0) (ms' := 0) lk_Md_372 st_Md_isFrom d_Md_rule_36 k_Md_isFrom rfl rfl (Nat.le_of_ble_eq_true rfl) (by decide) (by decide) (Sp.mono h ?_)
          rintro rS111 shS111 S111 ⟨qS111, x112, uS111, h⟩
          subst uS111
          rw [qS111]
          refine r_if_ne (pc := 39) d_Md_rule_39 (tgt := 48) (by decide) (fun c113 => ?_) (fun c113 => ?_)
          · replace h := h.1 c113
            refine r_aload_n (pc := 48) d_Md_rule_48 (x := a) rfl ?_
            obtain ⟨r114, er114, h⟩ := h
            refine r_getR (pc := 49) d_Md_rule_49 f_Md_7 sa (Or.inr ⟨_, rfl⟩) (r := r114) er114 ?_
            refine r_iload_n (pc := 52) d_Md_rule_52 (x := p0) rfl ?_
            refine r_iconst (pc := 53) d_Md_rule_53 (v := 3) (by decide) ?_
            refine r_icmp_ne (pc := 54) d_Md_rule_54 (tgt := 61) (by decide) (fun c115 => ?_) (fun c115 => ?_)
            · replace h := h.1 c115
              refine r_iconst (pc := 61) d_Md_rule_61 (v := 2) (by decide) ?_
              refine r_iload_n (pc := 62) d_Md_rule_62 (x := p1) rfl ?_
              obtain ⟨n117, s116, h⟩ := h
              obtain ⟨g118, h⟩ := h
              refine r_iast (pc := 63) d_Md_rule_63 s116 g118 ?_
              refine r_aload_n (pc := 64) d_Md_rule_64 (x := a) rfl ?_
              refine r_iconst (pc := 65) d_Md_rule_65 (v := 0) (by decide) ?_
              refine r_callV (pc := 66) (k := a) (As := [.int 0]) (rest := []) (mc' := 0) (ms' := 0) lk_Md_125 in_Md_is se_Md_is sa rfl d_Md_rule_66 k_Md_is rfl rfl (Nat.le_of_ble_eq_true rfl) (by decide) (by decide) (Sp.mono h ?_)
              rintro rS119 shS119 S119 ⟨qS119, x120, uS119, h⟩
              subst uS119
              rw [qS119]
              obtain ⟨g121, h⟩ := h
              exact r_zreturn (pc := 69) d_Md_rule_69 rfl (aw_nb g121) rfl (Nat.le_refl _) ⟨rfl, _, rfl, h⟩
            · replace h := h.2 c115
              refine r_iconst (pc := 57) d_Md_rule_57 (v := 1) (by decide) ?_
              refine r_goto (pc := 58) d_Md_rule_58 (tgt := 62) (by decide) ?_
              refine r_iload_n (pc := 62) d_Md_rule_62 (x := p1) rfl ?_
              obtain ⟨n123, s122, h⟩ := h
              obtain ⟨g124, h⟩ := h
              refine r_iast (pc := 63) d_Md_rule_63 s122 g124 ?_
              refine r_aload_n (pc := 64) d_Md_rule_64 (x := a) rfl ?_
              refine r_iconst (pc := 65) d_Md_rule_65 (v := 0) (by decide) ?_
              refine r_callV (pc := 66) (k := a) (As := [.int 0]) (rest := []) (mc' := 0) (ms' := 0) lk_Md_125 in_Md_is se_Md_is sa rfl d_Md_rule_66 k_Md_is rfl rfl (Nat.le_of_ble_eq_true rfl) (by decide) (by decide) (Sp.mono h ?_)
              rintro rS125 shS125 S125 ⟨qS125, x126, uS125, h⟩
              subst uS125
              rw [qS125]
              obtain ⟨g127, h⟩ := h
              exact r_zreturn (pc := 69) d_Md_rule_69 rfl (aw_nb g127) rfl (Nat.le_refl _) ⟨rfl, _, rfl, h⟩
          · replace h := h.2 c113
            refine r_aload_n (pc := 42) d_Md_rule_42 (x := a) rfl ?_
            refine r_iconst (pc := 43) d_Md_rule_43 (v := 1) (by decide) ?_
            refine r_callV (pc := 44) (k := a) (As := [.int 1]) (rest := []) (mc' := 0) (ms' := 0) lk_Md_125 in_Md_is se_Md_is sa rfl d_Md_rule_44 k_Md_is rfl rfl (Nat.le_of_ble_eq_true rfl) (by decide) (by decide) (Sp.mono h ?_)
            rintro rS128 shS128 S128 ⟨qS128, x129, uS128, h⟩
            subst uS128
            rw [qS128]
            obtain ⟨g130, h⟩ := h
            exact r_zreturn (pc := 47) d_Md_rule_47 rfl (aw_nb g130) rfl (Nat.le_refl _) ⟨rfl, _, rfl, h⟩
      · replace h := h.2 c89
        refine r_lconst (pc := 17) d_Md_rule_17 (v := 0) (by decide) ?_
        refine r_goto (pc := 18) d_Md_rule_18 (tgt := 22) (by decide) ?_
        refine r_iload_n (pc := 22) d_Md_rule_22 (x := p0) rfl ?_
        refine r_iconst (pc := 23) d_Md_rule_23 (v := 3) (by decide) ?_
        refine r_icmp_ne (pc := 24) d_Md_rule_24 (tgt := 33) (by decide) (fun c131 => ?_) (fun c131 => ?_)
        · replace h := h.1 c131
          refine r_ldc2 (pc := 33) d_Md_rule_33 cl_Md_384 ?_
          refine r_callS (pc := 36) (k := 0) (As := [.long p1.toInt64, .long 0, .long 40]) (rest := []) (mc' := 0) (ms' := 0) lk_Md_372 st_Md_isFrom d_Md_rule_36 k_Md_isFrom rfl rfl (Nat.le_of_ble_eq_true rfl) (by decide) (by decide) (Sp.mono h ?_)
          rintro rS132 shS132 S132 ⟨qS132, x133, uS132, h⟩
          subst uS132
          rw [qS132]
          refine r_if_ne (pc := 39) d_Md_rule_39 (tgt := 48) (by decide) (fun c134 => ?_) (fun c134 => ?_)
          · replace h := h.1 c134
            refine r_aload_n (pc := 48) d_Md_rule_48 (x := a) rfl ?_
            obtain ⟨r135, er135, h⟩ := h
            refine r_getR (pc := 49) d_Md_rule_49 f_Md_7 sa (Or.inr ⟨_, rfl⟩) (r := r135) er135 ?_
            refine r_iload_n (pc := 52) d_Md_rule_52 (x := p0) rfl ?_
            refine r_iconst (pc := 53) d_Md_rule_53 (v := 3) (by decide) ?_
            refine r_icmp_ne (pc := 54) d_Md_rule_54 (tgt := 61) (by decide) (fun c136 => ?_) (fun c136 => ?_)
            · replace h := h.1 c136
              refine r_iconst (pc := 61) d_Md_rule_61 (v := 2) (by decide) ?_
              refine r_iload_n (pc := 62) d_Md_rule_62 (x := p1) rfl ?_
              obtain ⟨n138, s137, h⟩ := h
              obtain ⟨g139, h⟩ := h
              refine r_iast (pc := 63) d_Md_rule_63 s137 g139 ?_
              refine r_aload_n (pc := 64) d_Md_rule_64 (x := a) rfl ?_
              refine r_iconst (pc := 65) d_Md_rule_65 (v := 0) (by decide) ?_
              refine r_callV (pc := 66) (k := a) (As := [.int 0]) (rest := []) (mc' := 0) (ms' := 0) lk_Md_125 in_Md_is se_Md_is sa rfl d_Md_rule_66 k_Md_is rfl rfl (Nat.le_of_ble_eq_true rfl) (by decide) (by decide) (Sp.mono h ?_)
              rintro rS140 shS140 S140 ⟨qS140, x141, uS140, h⟩
              subst uS140
              rw [qS140]
              obtain ⟨g142, h⟩ := h
              exact r_zreturn (pc := 69) d_Md_rule_69 rfl (aw_nb g142) rfl (Nat.le_refl _) ⟨rfl, _, rfl, h⟩
            · replace h := h.2 c136
              refine r_iconst (pc := 57) d_Md_rule_57 (v := 1) (by decide) ?_
              refine r_goto (pc := 58) d_Md_rule_58 (tgt := 62) (by decide) ?_
              refine r_iload_n (pc := 62) d_Md_rule_62 (x := p1) rfl ?_
              obtain ⟨n144, s143, h⟩ := h
              obtain ⟨g145, h⟩ := h
              refine r_iast (pc := 63) d_Md_rule_63 s143 g145 ?_
              refine r_aload_n (pc := 64) d_Md_rule_64 (x := a) rfl ?_
              refine r_iconst (pc := 65) d_Md_rule_65 (v := 0) (by decide) ?_
              refine r_callV (pc := 66) (k := a) (As := [.int 0]) (rest := []) (mc' := 0) (ms' := 0) lk_Md_125 in_Md_is se_Md_is sa rfl d_Md_rule_66 k_Md_is rfl rfl (Nat.le_of_ble_eq_true rfl) (by decide) (by decide) (Sp.mono h ?_)
              rintro rS146 shS146 S146 ⟨qS146, x147, uS146, h⟩
              subst uS146
              rw [qS146]
              obtain ⟨g148, h⟩ := h
              exact r_zreturn (pc := 69) d_Md_rule_69 rfl (aw_nb g148) rfl (Nat.le_refl _) ⟨rfl, _, rfl, h⟩
          · replace h := h.2 c134
            refine r_aload_n (pc := 42) d_Md_rule_42 (x := a) rfl ?_
            refine r_iconst (pc := 43) d_Md_rule_43 (v := 1) (by decide) ?_
            refine r_callV (pc := 44) (k := a) (As := [.int 1]) (rest := []) (mc' := 0) (ms' := 0) lk_Md_125 in_Md_is se_Md_is sa rfl d_Md_rule_44 k_Md_is rfl rfl (Nat.le_of_ble_eq_true rfl) (by decide) (by decide) (Sp.mono h ?_)
            rintro rS149 shS149 S149 ⟨qS149, x150, uS149, h⟩
            subst uS149
            rw [qS149]
            obtain ⟨g151, h⟩ := h
            exact r_zreturn (pc := 47) d_Md_rule_47 rfl (aw_nb g151) rfl (Nat.le_refl _) ⟨rfl, _, rfl, h⟩
        · replace h := h.2 c131
          refine r_ldc2 (pc := 27) d_Md_rule_27 cl_Md_382 ?_
          refine r_goto (pc := 30) d_Md_rule_30 (tgt := 36) (by decide) ?_
          refine r_callS (pc := 36) (k := 0) (As := [.long p1.toInt64, .long 0, .long 16]) (rest := []) (mc' := 0) (ms' := 0) lk_Md_372 st_Md_isFrom d_Md_rule_36 k_Md_isFrom rfl rfl (Nat.le_of_ble_eq_true rfl) (by decide) (by decide) (Sp.mono h ?_)
          rintro rS152 shS152 S152 ⟨qS152, x153, uS152, h⟩
          subst uS152
          rw [qS152]
          refine r_if_ne (pc := 39) d_Md_rule_39 (tgt := 48) (by decide) (fun c154 => ?_) (fun c154 => ?_)
          · replace h := h.1 c154
            refine r_aload_n (pc := 48) d_Md_rule_48 (x := a) rfl ?_
            obtain ⟨r155, er155, h⟩ := h
            refine r_getR (pc := 49) d_Md_rule_49 f_Md_7 sa (Or.inr ⟨_, rfl⟩) (r := r155) er155 ?_
            refine r_iload_n (pc := 52) d_Md_rule_52 (x := p0) rfl ?_
            refine r_iconst (pc := 53) d_Md_rule_53 (v := 3) (by decide) ?_
            refine r_icmp_ne (pc := 54) d_Md_rule_54 (tgt := 61) (by decide) (fun c156 => ?_) (fun c156 => ?_)
            · replace h := h.1 c156
              refine r_iconst (pc := 61) d_Md_rule_61 (v := 2) (by decide) ?_
              refine r_iload_n (pc := 62) d_Md_rule_62 (x := p1) rfl ?_
              obtain ⟨n158, s157, h⟩ := h
              obtain ⟨g159, h⟩ := h
              refine r_iast (pc := 63) d_Md_rule_63 s157 g159 ?_
              refine r_aload_n (pc := 64) d_Md_rule_64 (x := a) rfl ?_
              refine r_iconst (pc := 65) d_Md_rule_65 (v := 0) (by decide) ?_
              refine r_callV (pc := 66) (k := a) (As := [.int 0]) (rest := []) (mc' := 0) (ms' := 0) lk_Md_125 in_Md_is se_Md_is sa rfl d_Md_rule_66 k_Md_is rfl rfl (Nat.le_of_ble_eq_true rfl) (by decide) (by decide) (Sp.mono h ?_)
              rintro rS160 shS160 S160 ⟨qS160, x161, uS160, h⟩
              subst uS160
              rw [qS160]
              obtain ⟨g162, h⟩ := h
              exact r_zreturn (pc := 69) d_Md_rule_69 rfl (aw_nb g162) rfl (Nat.le_refl _) ⟨rfl, _, rfl, h⟩
            · replace h := h.2 c156
              refine r_iconst (pc := 57) d_Md_rule_57 (v := 1) (by decide) ?_
              refine r_goto (pc := 58) d_Md_rule_58 (tgt := 62) (by decide) ?_
              refine r_iload_n (pc := 62) d_Md_rule_62 (x := p1) rfl ?_
              obtain ⟨n164, s163, h⟩ := h
              obtain ⟨g165, h⟩ := h
              refine r_iast (pc := 63) d_Md_rule_63 s163 g165 ?_
              refine r_aload_n (pc := 64) d_Md_rule_64 (x := a) rfl ?_
              refine r_iconst (pc := 65) d_Md_rule_65 (v := 0) (by decide) ?_
              refine r_callV (pc := 66) (k := a) (As := [.int 0]) (rest := []) (mc' := 0) (ms' := 0) lk_Md_125 in_Md_is se_Md_is sa rfl d_Md_rule_66 k_Md_is rfl rfl (Nat.le_of_ble_eq_true rfl) (by decide) (by decide) (Sp.mono h ?_)
              rintro rS166 shS166 S166 ⟨qS166, x167, uS166, h⟩
              subst uS166
              rw [qS166]
              obtain ⟨g168, h⟩ := h
              exact r_zreturn (pc := 69) d_Md_rule_69 rfl (aw_nb g168) rfl (Nat.le_refl _) ⟨rfl, _, rfl, h⟩
          · replace h := h.2 c154
            refine r_aload_n (pc := 42) d_Md_rule_42 (x := a) rfl ?_
            refine r_iconst (pc := 43) d_Md_rule_43 (v := 1) (by decide) ?_
            refine r_callV (pc := 44) (k := a) (As := [.int 1]) (rest := []) (mc' := 0) (ms' := 0) lk_Md_125 in_Md_is se_Md_is sa rfl d_Md_rule_44 k_Md_is rfl rfl (Nat.le_of_ble_eq_true rfl) (by decide) (by decide) (Sp.mono h ?_)
            rintro rS169 shS169 S169 ⟨qS169, x170, uS169, h⟩
            subst uS169
            rw [qS169]
            obtain ⟨g171, h⟩ := h
            exact r_zreturn (pc := 47) d_Md_rule_47 rfl (aw_nb g171) rfl (Nat.le_refl _) ⟨rfl, _, rfl, h⟩
set_option maxRecDepth 4000 in
theorem e_Md_bound {l : Launch} {d : Nat} {sh : aw_SH} {S : aw_S} {P : Int32 → aw_S → Prop} {a : Nat} {p0 : Int32} (sa : sh[a]? = some (0, 11)) (h : Sp l m_Md_isDancer d 0 0 [.ref a, .int p0] sh S (gI sh (fun x2 S1 => ((¬ x2 = 0 → AW l m_Md_bound (d + 1) 0 0 (gI sh P) 0 0 16 [.ref a, .int p0, .int 0] [] sh S1) ∧ (x2 = 0 → Sp l m_Md_refuse d 0 0 [.ref a, .int 1] sh S1 (gI sh (fun x5 S4 => P x5 S4))))))) : Sp l m_Md_bound (d + 1) 0 0 [.ref a, .int p0] sh S (gI sh P) := by
  refine Sp.of k_Md_bound (ls := [.ref a, .int p0, .null]) rfl (Nat.le_of_ble_eq_true rfl) ?_
  refine r_aload_n (pc := 0) d_Md_bound_0 (x := a) rfl ?_
  refine r_iload_n (pc := 1) d_Md_bound_1 (x := p0) rfl ?_
  refine r_callV (pc := 2) (k := a) (As := [.int p0]) (rest := []) (mc' := 0) (ms' := 0) lk_Md_313 in_Md_isDancer se_Md_isDancer sa rfl d_Md_bound_2 k_Md_isDancer rfl rfl (Nat.le_of_ble_eq_true rfl) (by decide) (by decide) (Sp.mono h ?_)
  rintro rS1 shS1 S1 ⟨qS1, x2, uS1, h⟩
  subst uS1
  rw [qS1]
  refine r_if_ne (pc := 5) d_Md_bound_5 (tgt := 14) (by decide) (fun c3 => ?_) (fun c3 => ?_)
  · replace h := h.1 c3
    refine r_iconst (pc := 14) d_Md_bound_14 (v := 0) (by decide) ?_
    refine r_istore_n (pc := 15) (hk := rfl) (hd := d_Md_bound_15) (hi := by decide) (ls2 := [.ref a, .int p0, .int 0]) (h2 := rfl) ?_
    exact h
  · replace h := h.2 c3
    refine r_aload_n (pc := 8) d_Md_bound_8 (x := a) rfl ?_
    refine r_iconst (pc := 9) d_Md_bound_9 (v := 1) (by decide) ?_
    refine r_callV (pc := 10) (k := a) (As := [.int 1]) (rest := []) (mc' := 0) (ms' := 0) lk_Md_118 in_Md_refuse se_Md_refuse sa rfl d_Md_bound_10 k_Md_refuse rfl rfl (Nat.le_of_ble_eq_true rfl) (by decide) (by decide) (Sp.mono h ?_)
    rintro rS4 shS4 S4 ⟨qS4, x5, uS4, h⟩
    subst uS4
    rw [qS4]
    exact r_ireturn (pc := 13) d_Md_bound_13 rfl rfl (Nat.le_refl _) ⟨rfl, _, rfl, h⟩
set_option maxRecDepth 4000 in
theorem s_Md_bound_16 {l : Launch} {d : Nat} {sh : aw_SH} {S : aw_S} {P : Int32 → aw_S → Prop} {a : Nat} {i1 : Int32} {i2 : Int32} (sa : sh[a]? = some (0, 11)) (h : ((40 ≤ i2 → Sp l m_Md_laysHeld d 0 0 [.ref a] sh S (gI sh (fun x3 S2 => Sp l m_Md_gives d 0 0 [.ref a, .int x3] sh S2 (gI sh (fun x5 S4 => P x5 S4))))) ∧ (¬ 40 ≤ i2 → ∃ r6, S.2.2 a 25 = some r6 ∧ ∃ r7, S.2.2 a 0 = some r7 ∧ ∃ n9, sh[r7]? = some (3, n9) ∧ vp_in 3 n9 ∧ (((S.1 r7 (3 : Int32).toNatClampNeg) ≤ i2 → ∃ n13, sh[r6]? = some (2, n13) ∧ vp_in i2 n13 ∧ AW l m_Md_bound (d + 1) 0 0 (gI sh P) 0 0 16 [.ref a, .int i1, .int (i2 + 1)] [] sh (aw_uI S r6 i2.toNatClampNeg (vp_nar .boolean 0))) ∧ (¬ (S.1 r7 (3 : Int32).toNatClampNeg) ≤ i2 → Sp l m_Md_passOf d 0 0 [.ref a, .int i2, .int 2] sh S (gI sh (fun x16 S15 => ((x16 = i1 → ∃ n19, sh[r6]? = some (2, n19) ∧ vp_in i2 n19 ∧ AW l m_Md_bound (d + 1) 0 0 (gI sh P) 0 0 16 [.ref a, .int i1, .int (i2 + 1)] [] sh (aw_uI S15 r6 i2.toNatClampNeg (vp_nar .boolean 1))) ∧ (¬ x16 = i1 → Sp l m_Md_passOf d 0 0 [.ref a, .int i2, .int 3] sh S15 (gI sh (fun x22 S21 => ((¬ x22 = i1 → ∃ n25, sh[r6]? = some (2, n25) ∧ vp_in i2 n25 ∧ AW l m_Md_bound (d + 1) 0 0 (gI sh P) 0 0 16 [.ref a, .int i1, .int (i2 + 1)] [] sh (aw_uI S21 r6 i2.toNatClampNeg (vp_nar .boolean 0))) ∧ (x22 = i1 → ∃ n28, sh[r6]? = some (2, n28) ∧ vp_in i2 n28 ∧ AW l m_Md_bound (d + 1) 0 0 (gI sh P) 0 0 16 [.ref a, .int i1, .int (i2 + 1)] [] sh (aw_uI S21 r6 i2.toNatClampNeg (vp_nar .boolean 1))))))))))))))) : AW l m_Md_bound (d + 1) 0 0 (gI sh P) 0 0 16 [.ref a, .int i1, .int i2] [] sh S := by
  refine r_iload_n (pc := 16) d_Md_bound_16 (x := i2) rfl ?_
  refine r_bipush (pc := 17) d_Md_bound_17 (v := 40) (by decide) ?_
  refine r_icmp_ge (pc := 19) d_Md_bound_19 (tgt := 69) (by decide) (fun c1 => ?_) (fun c1 => ?_)
  · replace h := h.1 c1
    refine r_aload_n (pc := 69) d_Md_bound_69 (x := a) rfl ?_
    refine r_aload_n (pc := 70) d_Md_bound_70 (x := a) rfl ?_
    refine r_callV (pc := 71) (k := a) (As := []) (rest := [.ref a]) (mc' := 0) (ms' := 0) lk_Md_343 in_Md_laysHeld se_Md_laysHeld sa rfl d_Md_bound_71 k_Md_laysHeld rfl rfl (Nat.le_of_ble_eq_true rfl) (by decide) (by decide) (Sp.mono h ?_)
    rintro rS2 shS2 S2 ⟨qS2, x3, uS2, h⟩
    subst uS2
    rw [qS2]
    refine r_callV (pc := 74) (k := a) (As := [.int x3]) (rest := []) (mc' := 0) (ms' := 0) lk_Md_122 in_Md_gives se_Md_gives sa rfl d_Md_bound_74 k_Md_gives rfl rfl (Nat.le_of_ble_eq_true rfl) (by decide) (by decide) (Sp.mono h ?_)
    rintro rS4 shS4 S4 ⟨qS4, x5, uS4, h⟩
    subst uS4
    rw [qS4]
    exact r_ireturn (pc := 77) d_Md_bound_77 rfl rfl (Nat.le_refl _) ⟨rfl, _, rfl, h⟩
  · replace h := h.2 c1
    refine r_aload_n (pc := 22) d_Md_bound_22 (x := a) rfl ?_
    obtain ⟨r6, er6, h⟩ := h
    refine r_getR (pc := 23) d_Md_bound_23 f_Md_50 sa (Or.inr ⟨_, rfl⟩) (r := r6) er6 ?_
    refine r_iload_n (pc := 26) d_Md_bound_26 (x := i2) rfl ?_
    refine r_iload_n (pc := 27) d_Md_bound_27 (x := i2) rfl ?_
    refine r_aload_n (pc := 28) d_Md_bound_28 (x := a) rfl ?_
    obtain ⟨r7, er7, h⟩ := h
    refine r_getR (pc := 29) d_Md_bound_29 f_Md_7 sa (Or.inr ⟨_, rfl⟩) (r := r7) er7 ?_
    refine r_iconst (pc := 32) d_Md_bound_32 (v := 3) (by decide) ?_
    obtain ⟨n9, s8, h⟩ := h
    obtain ⟨g10, h⟩ := h
    refine r_iald (pc := 33) d_Md_bound_33 s8 g10 ?_
    refine r_icmp_ge (pc := 34) d_Md_bound_34 (tgt := 61) (by decide) (fun c11 => ?_) (fun c11 => ?_)
    · replace h := h.1 c11
      refine r_iconst (pc := 61) d_Md_bound_61 (v := 0) (by decide) ?_
      obtain ⟨n13, s12, h⟩ := h
      obtain ⟨g14, h⟩ := h
      refine r_zast (pc := 62) d_Md_bound_62 s12 g14 ?_
      refine r_iinc (pc := 63) d_Md_bound_63 (hi := by decide) (x := i2) rfl (v := i2 + 1) rfl (ls2 := [.ref a, .int i1, .int (i2 + 1)]) rfl ?_
      refine r_goto (pc := 66) d_Md_bound_66 (tgt := 16) (by decide) ?_
      exact h
    · replace h := h.2 c11
      refine r_aload_n (pc := 37) d_Md_bound_37 (x := a) rfl ?_
      refine r_iload_n (pc := 38) d_Md_bound_38 (x := i2) rfl ?_
      refine r_iconst (pc := 39) d_Md_bound_39 (v := 2) (by decide) ?_
      refine r_callV (pc := 40) (k := a) (As := [.int i2, .int 2]) (rest := [.int i2, .ref r6]) (mc' := 0) (ms' := 0) lk_Md_316 in_Md_passOf se_Md_passOf sa rfl d_Md_bound_40 k_Md_passOf rfl rfl (Nat.le_of_ble_eq_true rfl) (by decide) (by decide) (Sp.mono h ?_)
      rintro rS15 shS15 S15 ⟨qS15, x16, uS15, h⟩
      subst uS15
      rw [qS15]
      refine r_iload_n (pc := 43) d_Md_bound_43 (x := i1) rfl ?_
      refine r_icmp_eq (pc := 44) d_Md_bound_44 (tgt := 57) (by decide) (fun c17 => ?_) (fun c17 => ?_)
      · replace h := h.1 c17
        refine r_iconst (pc := 57) d_Md_bound_57 (v := 1) (by decide) ?_
        refine r_goto (pc := 58) d_Md_bound_58 (tgt := 62) (by decide) ?_
        obtain ⟨n19, s18, h⟩ := h
        obtain ⟨g20, h⟩ := h
        refine r_zast (pc := 62) d_Md_bound_62 s18 g20 ?_
        refine r_iinc (pc := 63) d_Md_bound_63 (hi := by decide) (x := i2) rfl (v := i2 + 1) rfl (ls2 := [.ref a, .int i1, .int (i2 + 1)]) rfl ?_
        refine r_goto (pc := 66) d_Md_bound_66 (tgt := 16) (by decide) ?_
        exact h
      · replace h := h.2 c17
        refine r_aload_n (pc := 47) d_Md_bound_47 (x := a) rfl ?_
        refine r_iload_n (pc := 48) d_Md_bound_48 (x := i2) rfl ?_
        refine r_iconst (pc := 49) d_Md_bound_49 (v := 3) (by decide) ?_
        refine r_callV (pc := 50) (k := a) (As := [.int i2, .int 3]) (rest := [.int i2, .ref r6]) (mc' := 0) (ms' := 0) lk_Md_316 in_Md_passOf se_Md_passOf sa rfl d_Md_bound_50 k_Md_passOf rfl rfl (Nat.le_of_ble_eq_true rfl) (by decide) (by decide) (Sp.mono h ?_)
        rintro rS21 shS21 S21 ⟨qS21, x22, uS21, h⟩
        subst uS21
        rw [qS21]
        refine r_iload_n (pc := 53) d_Md_bound_53 (x := i1) rfl ?_
        refine r_icmp_ne (pc := 54) d_Md_bound_54 (tgt := 61) (by decide) (fun c23 => ?_) (fun c23 => ?_)
        · replace h := h.1 c23
          refine r_iconst (pc := 61) d_Md_bound_61 (v := 0) (by decide) ?_
          obtain ⟨n25, s24, h⟩ := h
          obtain ⟨g26, h⟩ := h
          refine r_zast (pc := 62) d_Md_bound_62 s24 g26 ?_
          refine r_iinc (pc := 63) d_Md_bound_63 (hi := by decide) (x := i2) rfl (v := i2 + 1) rfl (ls2 := [.ref a, .int i1, .int (i2 + 1)]) rfl ?_
          refine r_goto (pc := 66) d_Md_bound_66 (tgt := 16) (by decide) ?_
          exact h
        · replace h := h.2 c23
          refine r_iconst (pc := 57) d_Md_bound_57 (v := 1) (by decide) ?_
          refine r_goto (pc := 58) d_Md_bound_58 (tgt := 62) (by decide) ?_
          obtain ⟨n28, s27, h⟩ := h
          obtain ⟨g29, h⟩ := h
          refine r_zast (pc := 62) d_Md_bound_62 s27 g29 ?_
          refine r_iinc (pc := 63) d_Md_bound_63 (hi := by decide) (x := i2) rfl (v := i2 + 1) rfl (ls2 := [.ref a, .int i1, .int (i2 + 1)]) rfl ?_
          refine r_goto (pc := 66) d_Md_bound_66 (tgt := 16) (by decide) ?_
          exact h
set_option maxRecDepth 4000 in
theorem e_Md_homeward {l : Launch} {d : Nat} {sh : aw_SH} {S : aw_S} {P : Int32 → aw_S → Prop} {a : Nat} (sa : sh[a]? = some (0, 11)) (h : Sp l m_Md_laysHome d 0 0 [.ref a] sh S (gV sh (fun S1 => ∃ r2, S1.2.2 a 28 = some r2 ∧ Sp l m_Md_orderNow d 0 0 [.ref a] sh S1 (gI sh (fun x4 S3 => ∃ n6, sh[r2]? = some (3, n6) ∧ vp_in x4 n6 ∧ Sp l m_Md_gives d 0 0 [.ref a, .int (S3.1 r2 x4.toNatClampNeg)] sh S3 (gI sh (fun x9 S8 => P x9 S8))))))) : Sp l m_Md_homeward (d + 1) 0 0 [.ref a] sh S (gI sh P) := by
  refine Sp.of k_Md_homeward (ls := [.ref a]) rfl (Nat.le_of_ble_eq_true rfl) ?_
  refine r_aload_n (pc := 0) d_Md_homeward_0 (x := a) rfl ?_
  refine r_callV (pc := 1) (k := a) (As := []) (rest := []) (mc' := 0) (ms' := 0) lk_Md_399 in_Md_laysHome se_Md_laysHome sa rfl d_Md_homeward_1 k_Md_laysHome rfl rfl (Nat.le_of_ble_eq_true rfl) (by decide) (by decide) (Sp.mono h ?_)
  rintro rS1 shS1 S1 ⟨qS1, uS1, h⟩
  subst uS1
  rw [qS1]
  refine r_aload_n (pc := 4) d_Md_homeward_4 (x := a) rfl ?_
  refine r_aload_n (pc := 5) d_Md_homeward_5 (x := a) rfl ?_
  obtain ⟨r2, er2, h⟩ := h
  refine r_getR (pc := 6) d_Md_homeward_6 f_Md_54 sa (Or.inr ⟨_, rfl⟩) (r := r2) er2 ?_
  refine r_aload_n (pc := 9) d_Md_homeward_9 (x := a) rfl ?_
  refine r_callV (pc := 10) (k := a) (As := []) (rest := [.ref r2, .ref a]) (mc' := 0) (ms' := 0) lk_Md_402 in_Md_orderNow se_Md_orderNow sa rfl d_Md_homeward_10 k_Md_orderNow rfl rfl (Nat.le_of_ble_eq_true rfl) (by decide) (by decide) (Sp.mono h ?_)
  rintro rS3 shS3 S3 ⟨qS3, x4, uS3, h⟩
  subst uS3
  rw [qS3]
  obtain ⟨n6, s5, h⟩ := h
  obtain ⟨g7, h⟩ := h
  refine r_iald (pc := 13) d_Md_homeward_13 s5 g7 ?_
  refine r_callV (pc := 14) (k := a) (As := [.int (S3.1 r2 x4.toNatClampNeg)]) (rest := []) (mc' := 0) (ms' := 0) lk_Md_122 in_Md_gives se_Md_gives sa rfl d_Md_homeward_14 k_Md_gives rfl rfl (Nat.le_of_ble_eq_true rfl) (by decide) (by decide) (Sp.mono h ?_)
  rintro rS8 shS8 S8 ⟨qS8, x9, uS8, h⟩
  subst uS8
  rw [qS8]
  exact r_ireturn (pc := 17) d_Md_homeward_17 rfl rfl (Nat.le_refl _) ⟨rfl, _, rfl, h⟩
set_option maxRecDepth 4000 in
theorem e_Md_laysHome {l : Launch} {d : Nat} {sh : aw_SH} {S : aw_S} {P : aw_S → Prop} {a : Nat} (sa : sh[a]? = some (0, 11)) (h : ∃ r1, S.2.2 a 0 = some r1 ∧ ∃ n3, sh[r1]? = some (3, n3) ∧ vp_in 0 n3 ∧ Sp l m_Md_ordersOf d 0 0 [.int (S.1 r1 (0 : Int32).toNatClampNeg)] sh S (gI sh (fun x6 S5 => AW l m_Md_laysHome (d + 1) 0 0 (gV sh P) 0 0 12 [.ref a, .int x6, .int 0, .null, .null, .null] [] sh S5))) : Sp l m_Md_laysHome (d + 1) 0 0 [.ref a] sh S (gV sh P) := by
  refine Sp.of k_Md_laysHome (ls := [.ref a, .null, .null, .null, .null, .null]) rfl (Nat.le_of_ble_eq_true rfl) ?_
  refine r_aload_n (pc := 0) d_Md_laysHome_0 (x := a) rfl ?_
  obtain ⟨r1, er1, h⟩ := h
  refine r_getR (pc := 1) d_Md_laysHome_1 f_Md_7 sa (Or.inr ⟨_, rfl⟩) (r := r1) er1 ?_
  refine r_iconst (pc := 4) d_Md_laysHome_4 (v := 0) (by decide) ?_
  obtain ⟨n3, s2, h⟩ := h
  obtain ⟨g4, h⟩ := h
  refine r_iald (pc := 5) d_Md_laysHome_5 s2 g4 ?_
  refine r_callS (pc := 6) (k := 0) (As := [.int (S.1 r1 (0 : Int32).toNatClampNeg)]) (rest := []) (mc' := 0) (ms' := 0) lk_Md_386 st_Md_ordersOf d_Md_laysHome_6 k_Md_ordersOf rfl rfl (Nat.le_of_ble_eq_true rfl) (by decide) (by decide) (Sp.mono h ?_)
  rintro rS5 shS5 S5 ⟨qS5, x6, uS5, h⟩
  subst uS5
  rw [qS5]
  refine r_istore_n (pc := 9) (hk := rfl) (hd := d_Md_laysHome_9) (hi := by decide) (ls2 := [.ref a, .int x6, .null, .null, .null, .null]) (h2 := rfl) ?_
  refine r_iconst (pc := 10) d_Md_laysHome_10 (v := 0) (by decide) ?_
  refine r_istore_n (pc := 11) (hk := rfl) (hd := d_Md_laysHome_11) (hi := by decide) (ls2 := [.ref a, .int x6, .int 0, .null, .null, .null]) (h2 := rfl) ?_
  exact h
set_option maxRecDepth 4000 in
theorem s_Md_laysHome_12 {l : Launch} {d : Nat} {sh : aw_SH} {S : aw_S} {P : aw_S → Prop} {a : Nat} {i1 : Int32} {i2 : Int32} (sa : sh[a]? = some (0, 11)) (h : ((i1 ≤ i2 → ∃ r2, S.2.2 a 28 = some r2 ∧ ∃ n4, sh[r2]? = some (3, n4) ∧ vp_in 0 n4 ∧ ∃ r6, (aw_uI S r2 ((0 : Int32).toNatClampNeg) 0).2.2 a 29 = some r6 ∧ ∃ n8, sh[r6]? = some (3, n8) ∧ vp_in 0 n8 ∧ AW l m_Md_laysHome (d + 1) 0 0 (gV sh P) 0 0 50 [.ref a, .null, .int 1, .int 0, .null, .null] [] sh (aw_uI (aw_uI S r2 ((0 : Int32).toNatClampNeg) 0) r6 ((0 : Int32).toNatClampNeg) 0)) ∧ (¬ i1 ≤ i2 → ∃ r10, S.2.2 a 28 = some r10 ∧ ∃ n12, sh[r10]? = some (3, n12) ∧ vp_in i2 n12 ∧ AW l m_Md_laysHome (d + 1) 0 0 (gV sh P) 0 0 12 [.ref a, .int i1, .int (i2 + 1), .null, .null, .null] [] sh (aw_uI S r10 i2.toNatClampNeg 1000000)))) : AW l m_Md_laysHome (d + 1) 0 0 (gV sh P) 0 0 12 [.ref a, .int i1, .int i2, .null, .null, .null] [] sh S := by
  refine r_iload_n (pc := 12) d_Md_laysHome_12 (x := i2) rfl ?_
  refine r_iload_n (pc := 13) d_Md_laysHome_13 (x := i1) rfl ?_
  refine r_icmp_ge (pc := 14) d_Md_laysHome_14 (tgt := 32) (by decide) (fun c1 => ?_) (fun c1 => ?_)
  · replace h := h.1 c1
    refine r_aload_n (pc := 32) d_Md_laysHome_32 (x := a) rfl ?_
    obtain ⟨r2, er2, h⟩ := h
    refine r_getR (pc := 33) d_Md_laysHome_33 f_Md_54 sa (Or.inr ⟨_, rfl⟩) (r := r2) er2 ?_
    refine r_iconst (pc := 36) d_Md_laysHome_36 (v := 0) (by decide) ?_
    refine r_iconst (pc := 37) d_Md_laysHome_37 (v := 0) (by decide) ?_
    obtain ⟨n4, s3, h⟩ := h
    obtain ⟨g5, h⟩ := h
    refine r_iast (pc := 38) d_Md_laysHome_38 s3 g5 ?_
    refine r_aload_n (pc := 39) d_Md_laysHome_39 (x := a) rfl ?_
    obtain ⟨r6, er6, h⟩ := h
    refine r_getR (pc := 40) d_Md_laysHome_40 f_Md_57 sa (Or.inr ⟨_, rfl⟩) (r := r6) er6 ?_
    refine r_iconst (pc := 43) d_Md_laysHome_43 (v := 0) (by decide) ?_
    refine r_iconst (pc := 44) d_Md_laysHome_44 (v := 0) (by decide) ?_
    obtain ⟨n8, s7, h⟩ := h
    obtain ⟨g9, h⟩ := h
    refine r_iast (pc := 45) d_Md_laysHome_45 s7 g9 ?_
    refine r_iconst (pc := 46) d_Md_laysHome_46 (v := 1) (by decide) ?_
    refine r_istore_n (pc := 47) (hk := rfl) (hd := d_Md_laysHome_47) (hi := by decide) (ls2 := [.ref a, .int i1, .int 1, .null, .null, .null]) (h2 := rfl) ?_
    refine r_iconst (pc := 48) d_Md_laysHome_48 (v := 0) (by decide) ?_
    refine r_istore_n (pc := 49) (hk := rfl) (hd := d_Md_laysHome_49) (hi := by decide) (ls2 := [.ref a, .int i1, .int 1, .int 0, .null, .null]) (h2 := rfl) ?_
    exact r_weak (ls2 := [.ref a, .null, .int 1, .int 0, .null, .null]) ⟨Or.inr rfl, Or.inl rfl, Or.inr rfl, Or.inr rfl, Or.inl rfl, Or.inl rfl, trivial⟩ h
  · replace h := h.2 c1
    refine r_aload_n (pc := 17) d_Md_laysHome_17 (x := a) rfl ?_
    obtain ⟨r10, er10, h⟩ := h
    refine r_getR (pc := 18) d_Md_laysHome_18 f_Md_54 sa (Or.inr ⟨_, rfl⟩) (r := r10) er10 ?_
    refine r_iload_n (pc := 21) d_Md_laysHome_21 (x := i2) rfl ?_
    refine r_ldcw (pc := 22) d_Md_laysHome_22 cc_Md_389 ?_
    obtain ⟨n12, s11, h⟩ := h
    obtain ⟨g13, h⟩ := h
    refine r_iast (pc := 25) d_Md_laysHome_25 s11 g13 ?_
    refine r_iinc (pc := 26) d_Md_laysHome_26 (hi := by decide) (x := i2) rfl (v := i2 + 1) rfl (ls2 := [.ref a, .int i1, .int (i2 + 1), .null, .null, .null]) rfl ?_
    refine r_goto (pc := 29) d_Md_laysHome_29 (tgt := 12) (by decide) ?_
    exact h
set_option maxRecDepth 4000 in
theorem s_Md_laysHome_50 {l : Launch} {d : Nat} {sh : aw_SH} {S : aw_S} {P : aw_S → Prop} {a : Nat} {i2 : Int32} {i3 : Int32} (sa : sh[a]? = some (0, 11)) (h : ((i2 ≤ i3 → P S) ∧ (¬ i2 ≤ i3 → ∃ r2, S.2.2 a 29 = some r2 ∧ ∃ n4, sh[r2]? = some (3, n4) ∧ vp_in i3 n4 ∧ Sp l m_Md_laysOrder d 0 0 [.ref a, .int (S.1 r2 i3.toNatClampNeg)] sh S (gV sh (fun S6 => AW l m_Md_laysHome (d + 1) 0 0 (gV sh P) 0 0 68 [.ref a, .null, .int i2, .int i3, .int 0, .null] [] sh S6))))) : AW l m_Md_laysHome (d + 1) 0 0 (gV sh P) 0 0 50 [.ref a, .null, .int i2, .int i3, .null, .null] [] sh S := by
  refine r_iload_n (pc := 50) d_Md_laysHome_50 (x := i3) rfl ?_
  refine r_iload_n (pc := 51) d_Md_laysHome_51 (x := i2) rfl ?_
  refine r_icmp_ge (pc := 52) d_Md_laysHome_52 (tgt := 155) (by decide) (fun c1 => ?_) (fun c1 => ?_)
  · replace h := h.1 c1
    exact r_return (pc := 155) d_Md_laysHome_155 rfl rfl (Nat.le_refl _) ⟨rfl, rfl, h⟩
  · replace h := h.2 c1
    refine r_aload_n (pc := 55) d_Md_laysHome_55 (x := a) rfl ?_
    refine r_aload_n (pc := 56) d_Md_laysHome_56 (x := a) rfl ?_
    obtain ⟨r2, er2, h⟩ := h
    refine r_getR (pc := 57) d_Md_laysHome_57 f_Md_57 sa (Or.inr ⟨_, rfl⟩) (r := r2) er2 ?_
    refine r_iload_n (pc := 60) d_Md_laysHome_60 (x := i3) rfl ?_
    obtain ⟨n4, s3, h⟩ := h
    obtain ⟨g5, h⟩ := h
    refine r_iald (pc := 61) d_Md_laysHome_61 s3 g5 ?_
    refine r_callV (pc := 62) (k := a) (As := [.int (S.1 r2 i3.toNatClampNeg)]) (rest := []) (mc' := 0) (ms' := 0) lk_Md_390 in_Md_laysOrder se_Md_laysOrder sa rfl d_Md_laysHome_62 k_Md_laysOrder rfl rfl (Nat.le_of_ble_eq_true rfl) (by decide) (by decide) (Sp.mono h ?_)
    rintro rS6 shS6 S6 ⟨qS6, uS6, h⟩
    subst uS6
    rw [qS6]
    refine r_iconst (pc := 65) d_Md_laysHome_65 (v := 0) (by decide) ?_
    refine r_istore (pc := 66) (hd := d_Md_laysHome_66) (hi := by decide) (ls2 := [.ref a, .null, .int i2, .int i3, .int 0, .null]) (h2 := rfl) ?_
    exact h
set_option maxRecDepth 4000 in
theorem s_Md_laysHome_68 {l : Launch} {d : Nat} {sh : aw_SH} {S : aw_S} {P : aw_S → Prop} {a : Nat} {i2 : Int32} {i3 : Int32} {i4 : Int32} (sa : sh[a]? = some (0, 11)) (h : Sp l m_Md_gapsOf d 0 0 [.ref a, .int 0] sh S (gI sh (fun x2 S1 => ((x2 ≤ i4 → AW l m_Md_laysHome (d + 1) 0 0 (gV sh P) 0 0 50 [.ref a, .null, .int i2, .int (i3 + 1), .null, .null] [] sh S1) ∧ (¬ x2 ≤ i4 → Sp l m_Md_turnsOrder d 0 0 [.ref a, .int i4] sh S1 (gV sh (fun S4 => Sp l m_Md_orderNumber d 0 0 [.ref a] sh S4 (gI sh (fun x6 S5 => Sp l m_Md_turnsOrder d 0 0 [.ref a, .int i4] sh S5 (gV sh (fun S7 => ∃ r8, S7.2.2 a 28 = some r8 ∧ ∃ n10, sh[r8]? = some (3, n10) ∧ vp_in x6 n10 ∧ ((1000000 ≤ (S7.1 r8 x6.toNatClampNeg) → ∃ r13, S7.2.2 a 29 = some r13 ∧ ∃ n15, sh[r13]? = some (3, n15) ∧ vp_in i3 n15 ∧ vp_in (S7.1 r13 i3.toNatClampNeg) n10 ∧ vp_in x6 n10 ∧ vp_in i2 n15 ∧ AW l m_Md_laysHome (d + 1) 0 0 (gV sh P) 0 0 68 [.ref a, .null, .int (i2 + 1), .int i3, .int (i4 + 1), .null] [] sh (aw_uI (aw_uI S7 r8 x6.toNatClampNeg ((S7.1 r8 (S7.1 r13 i3.toNatClampNeg : Int32).toNatClampNeg) + (1 : Int32))) r13 i2.toNatClampNeg x6)) ∧ (¬ 1000000 ≤ (S7.1 r8 x6.toNatClampNeg) → AW l m_Md_laysHome (d + 1) 0 0 (gV sh P) 0 0 68 [.ref a, .null, .int i2, .int i3, .int (i4 + 1), .null] [] sh S7))))))))))))) : AW l m_Md_laysHome (d + 1) 0 0 (gV sh P) 0 0 68 [.ref a, .null, .int i2, .int i3, .int i4, .null] [] sh S := by
  refine r_iload (pc := 68) d_Md_laysHome_68 (x := i4) rfl ?_
  refine r_aload_n (pc := 70) d_Md_laysHome_70 (x := a) rfl ?_
  refine r_iconst (pc := 71) d_Md_laysHome_71 (v := 0) (by decide) ?_
  refine r_callV (pc := 72) (k := a) (As := [.int 0]) (rest := [.int i4]) (mc' := 0) (ms' := 0) lk_Md_260 in_Md_gapsOf se_Md_gapsOf sa rfl d_Md_laysHome_72 k_Md_gapsOf rfl rfl (Nat.le_of_ble_eq_true rfl) (by decide) (by decide) (Sp.mono h ?_)
  rintro rS1 shS1 S1 ⟨qS1, x2, uS1, h⟩
  subst uS1
  rw [qS1]
  refine r_icmp_ge (pc := 75) d_Md_laysHome_75 (tgt := 149) (by decide) (fun c3 => ?_) (fun c3 => ?_)
  · replace h := h.1 c3
    refine r_iinc (pc := 149) d_Md_laysHome_149 (hi := by decide) (x := i3) rfl (v := i3 + 1) rfl (ls2 := [.ref a, .null, .int i2, .int (i3 + 1), .int i4, .null]) rfl ?_
    refine r_goto (pc := 152) d_Md_laysHome_152 (tgt := 50) (by decide) ?_
    exact r_weak (ls2 := [.ref a, .null, .int i2, .int (i3 + 1), .null, .null]) ⟨Or.inr rfl, Or.inl rfl, Or.inr rfl, Or.inr rfl, Or.inl rfl, Or.inl rfl, trivial⟩ h
  · replace h := h.2 c3
    refine r_aload_n (pc := 78) d_Md_laysHome_78 (x := a) rfl ?_
    refine r_iload (pc := 79) d_Md_laysHome_79 (x := i4) rfl ?_
    refine r_callV (pc := 81) (k := a) (As := [.int i4]) (rest := []) (mc' := 0) (ms' := 0) lk_Md_393 in_Md_turnsOrder se_Md_turnsOrder sa rfl d_Md_laysHome_81 k_Md_turnsOrder rfl rfl (Nat.le_of_ble_eq_true rfl) (by decide) (by decide) (Sp.mono h ?_)
    rintro rS4 shS4 S4 ⟨qS4, uS4, h⟩
    subst uS4
    rw [qS4]
    refine r_aload_n (pc := 84) d_Md_laysHome_84 (x := a) rfl ?_
    refine r_callV (pc := 85) (k := a) (As := []) (rest := []) (mc' := 0) (ms' := 0) lk_Md_396 in_Md_orderNumber se_Md_orderNumber sa rfl d_Md_laysHome_85 k_Md_orderNumber rfl rfl (Nat.le_of_ble_eq_true rfl) (by decide) (by decide) (Sp.mono h ?_)
    rintro rS5 shS5 S5 ⟨qS5, x6, uS5, h⟩
    subst uS5
    rw [qS5]
    refine r_istore (pc := 88) (hd := d_Md_laysHome_88) (hi := by decide) (ls2 := [.ref a, .null, .int i2, .int i3, .int i4, .int x6]) (h2 := rfl) ?_
    refine r_aload_n (pc := 90) d_Md_laysHome_90 (x := a) rfl ?_
    refine r_iload (pc := 91) d_Md_laysHome_91 (x := i4) rfl ?_
    refine r_callV (pc := 93) (k := a) (As := [.int i4]) (rest := []) (mc' := 0) (ms' := 0) lk_Md_393 in_Md_turnsOrder se_Md_turnsOrder sa rfl d_Md_laysHome_93 k_Md_turnsOrder rfl rfl (Nat.le_of_ble_eq_true rfl) (by decide) (by decide) (Sp.mono h ?_)
    rintro rS7 shS7 S7 ⟨qS7, uS7, h⟩
    subst uS7
    rw [qS7]
    refine r_aload_n (pc := 96) d_Md_laysHome_96 (x := a) rfl ?_
    obtain ⟨r8, er8, h⟩ := h
    refine r_getR (pc := 97) d_Md_laysHome_97 f_Md_54 sa (Or.inr ⟨_, rfl⟩) (r := r8) er8 ?_
    refine r_iload (pc := 100) d_Md_laysHome_100 (x := x6) rfl ?_
    obtain ⟨n10, s9, h⟩ := h
    obtain ⟨g11, h⟩ := h
    refine r_iald (pc := 102) d_Md_laysHome_102 s9 g11 ?_
    refine r_ldcw (pc := 103) d_Md_laysHome_103 cc_Md_389 ?_
    refine r_icmp_ge (pc := 106) d_Md_laysHome_106 (tgt := 112) (by decide) (fun c12 => ?_) (fun c12 => ?_)
    · replace h := h.1 c12
      refine r_aload_n (pc := 112) d_Md_laysHome_112 (x := a) rfl ?_
      refine r_getR (pc := 113) d_Md_laysHome_113 f_Md_54 sa (Or.inr ⟨_, rfl⟩) (r := r8) er8 ?_
      refine r_iload (pc := 116) d_Md_laysHome_116 (x := x6) rfl ?_
      refine r_aload_n (pc := 118) d_Md_laysHome_118 (x := a) rfl ?_
      refine r_getR (pc := 119) d_Md_laysHome_119 f_Md_54 sa (Or.inr ⟨_, rfl⟩) (r := r8) er8 ?_
      refine r_aload_n (pc := 122) d_Md_laysHome_122 (x := a) rfl ?_
      obtain ⟨r13, er13, h⟩ := h
      refine r_getR (pc := 123) d_Md_laysHome_123 f_Md_57 sa (Or.inr ⟨_, rfl⟩) (r := r13) er13 ?_
      refine r_iload_n (pc := 126) d_Md_laysHome_126 (x := i3) rfl ?_
      obtain ⟨n15, s14, h⟩ := h
      obtain ⟨g16, h⟩ := h
      refine r_iald (pc := 127) d_Md_laysHome_127 s14 g16 ?_
      obtain ⟨g17, h⟩ := h
      refine r_iald (pc := 128) d_Md_laysHome_128 s9 g17 ?_
      refine r_iconst (pc := 129) d_Md_laysHome_129 (v := 1) (by decide) ?_
      refine r_iadd (pc := 130) d_Md_laysHome_130 ?_
      obtain ⟨g18, h⟩ := h
      refine r_iast (pc := 131) d_Md_laysHome_131 s9 g18 ?_
      refine r_aload_n (pc := 132) d_Md_laysHome_132 (x := a) rfl ?_
      refine r_getR (pc := 133) d_Md_laysHome_133 f_Md_57 sa (Or.inr ⟨_, rfl⟩) (r := r13) er13 ?_
      refine r_iload_n (pc := 136) d_Md_laysHome_136 (x := i2) rfl ?_
      refine r_iload (pc := 137) d_Md_laysHome_137 (x := x6) rfl ?_
      obtain ⟨g19, h⟩ := h
      refine r_iast (pc := 139) d_Md_laysHome_139 s14 g19 ?_
      refine r_iinc (pc := 140) d_Md_laysHome_140 (hi := by decide) (x := i2) rfl (v := i2 + 1) rfl (ls2 := [.ref a, .null, .int (i2 + 1), .int i3, .int i4, .int x6]) rfl ?_
      refine r_iinc (pc := 143) d_Md_laysHome_143 (hi := by decide) (x := i4) rfl (v := i4 + 1) rfl (ls2 := [.ref a, .null, .int (i2 + 1), .int i3, .int (i4 + 1), .int x6]) rfl ?_
      refine r_goto (pc := 146) d_Md_laysHome_146 (tgt := 68) (by decide) ?_
      exact r_weak (ls2 := [.ref a, .null, .int (i2 + 1), .int i3, .int (i4 + 1), .null]) ⟨Or.inr rfl, Or.inl rfl, Or.inr rfl, Or.inr rfl, Or.inr rfl, Or.inl rfl, trivial⟩ h
    · replace h := h.2 c12
      refine r_goto (pc := 109) d_Md_laysHome_109 (tgt := 143) (by decide) ?_
      refine r_iinc (pc := 143) d_Md_laysHome_143 (hi := by decide) (x := i4) rfl (v := i4 + 1) rfl (ls2 := [.ref a, .null, .int i2, .int i3, .int (i4 + 1), .int x6]) rfl ?_
      refine r_goto (pc := 146) d_Md_laysHome_146 (tgt := 68) (by decide) ?_
      exact r_weak (ls2 := [.ref a, .null, .int i2, .int i3, .int (i4 + 1), .null]) ⟨Or.inr rfl, Or.inl rfl, Or.inr rfl, Or.inr rfl, Or.inr rfl, Or.inl rfl, trivial⟩ h
set_option maxRecDepth 4000 in
theorem e_Md_ordersOf {l : Launch} {d : Nat} {sh : aw_SH} {S : aw_S} {P : Int32 → aw_S → Prop} {p0 : Int32} (h : AW l m_Md_ordersOf (d + 1) 0 0 (gI sh P) 0 0 4 [.int p0, .int 1, .int 2] [] sh S) : Sp l m_Md_ordersOf (d + 1) 0 0 [.int p0] sh S (gI sh P) := by
  refine Sp.of k_Md_ordersOf (ls := [.int p0, .null, .null]) rfl (Nat.le_of_ble_eq_true rfl) ?_
  refine r_iconst (pc := 0) d_Md_ordersOf_0 (v := 1) (by decide) ?_
  refine r_istore_n (pc := 1) (hk := rfl) (hd := d_Md_ordersOf_1) (hi := by decide) (ls2 := [.int p0, .int 1, .null]) (h2 := rfl) ?_
  refine r_iconst (pc := 2) d_Md_ordersOf_2 (v := 2) (by decide) ?_
  refine r_istore_n (pc := 3) (hk := rfl) (hd := d_Md_ordersOf_3) (hi := by decide) (ls2 := [.int p0, .int 1, .int 2]) (h2 := rfl) ?_
  exact h
set_option maxRecDepth 4000 in
theorem s_Md_ordersOf_4 {l : Launch} {d : Nat} {sh : aw_SH} {S : aw_S} {P : Int32 → aw_S → Prop} {i0 : Int32} {i1 : Int32} {i2 : Int32} (h : ((i0 < i2 → P i1 S) ∧ (¬ i0 < i2 → AW l m_Md_ordersOf (d + 1) 0 0 (gI sh P) 0 0 4 [.int i0, .int (i1 * i2), .int (i2 + 1)] [] sh S))) : AW l m_Md_ordersOf (d + 1) 0 0 (gI sh P) 0 0 4 [.int i0, .int i1, .int i2] [] sh S := by
  refine r_iload_n (pc := 4) d_Md_ordersOf_4 (x := i2) rfl ?_
  refine r_iload_n (pc := 5) d_Md_ordersOf_5 (x := i0) rfl ?_
  refine r_icmp_gt (pc := 6) d_Md_ordersOf_6 (tgt := 19) (by decide) (fun c1 => ?_) (fun c1 => ?_)
  · replace h := h.1 c1
    refine r_iload_n (pc := 19) d_Md_ordersOf_19 (x := i1) rfl ?_
    exact r_ireturn (pc := 20) d_Md_ordersOf_20 rfl rfl (Nat.le_refl _) ⟨rfl, _, rfl, h⟩
  · replace h := h.2 c1
    refine r_iload_n (pc := 9) d_Md_ordersOf_9 (x := i1) rfl ?_
    refine r_iload_n (pc := 10) d_Md_ordersOf_10 (x := i2) rfl ?_
    refine r_imul (pc := 11) d_Md_ordersOf_11 ?_
    refine r_istore_n (pc := 12) (hk := rfl) (hd := d_Md_ordersOf_12) (hi := by decide) (ls2 := [.int i0, .int (i1 * i2), .int i2]) (h2 := rfl) ?_
    refine r_iinc (pc := 13) d_Md_ordersOf_13 (hi := by decide) (x := i2) rfl (v := i2 + 1) rfl (ls2 := [.int i0, .int (i1 * i2), .int (i2 + 1)]) rfl ?_
    refine r_goto (pc := 16) d_Md_ordersOf_16 (tgt := 4) (by decide) ?_
    exact h
set_option maxRecDepth 4000 in
theorem e_Md_laysOrder {l : Launch} {d : Nat} {sh : aw_SH} {S : aw_S} {P : aw_S → Prop} {a : Nat} {p0 : Int32} (sa : sh[a]? = some (0, 11)) (h : ∃ r1, S.2.2 a 0 = some r1 ∧ ∃ n3, sh[r1]? = some (3, n3) ∧ vp_in 0 n3 ∧ AW l m_Md_laysOrder (d + 1) 0 0 (gV sh P) 0 0 15 [.ref a, .null, .int (S.1 r1 (0 : Int32).toNatClampNeg), .int p0, .int 0, .int 0, .null, .null, .null] [] sh S) : Sp l m_Md_laysOrder (d + 1) 0 0 [.ref a, .int p0] sh S (gV sh P) := by
  refine Sp.of k_Md_laysOrder (ls := [.ref a, .int p0, .null, .null, .null, .null, .null, .null, .null]) rfl (Nat.le_of_ble_eq_true rfl) ?_
  refine r_aload_n (pc := 0) d_Md_laysOrder_0 (x := a) rfl ?_
  obtain ⟨r1, er1, h⟩ := h
  refine r_getR (pc := 1) d_Md_laysOrder_1 f_Md_7 sa (Or.inr ⟨_, rfl⟩) (r := r1) er1 ?_
  refine r_iconst (pc := 4) d_Md_laysOrder_4 (v := 0) (by decide) ?_
  obtain ⟨n3, s2, h⟩ := h
  obtain ⟨g4, h⟩ := h
  refine r_iald (pc := 5) d_Md_laysOrder_5 s2 g4 ?_
  refine r_istore_n (pc := 6) (hk := rfl) (hd := d_Md_laysOrder_6) (hi := by decide) (ls2 := [.ref a, .int p0, .int (S.1 r1 (0 : Int32).toNatClampNeg), .null, .null, .null, .null, .null, .null]) (h2 := rfl) ?_
  refine r_iload_n (pc := 7) d_Md_laysOrder_7 (x := p0) rfl ?_
  refine r_istore_n (pc := 8) (hk := rfl) (hd := d_Md_laysOrder_8) (hi := by decide) (ls2 := [.ref a, .int p0, .int (S.1 r1 (0 : Int32).toNatClampNeg), .int p0, .null, .null, .null, .null, .null]) (h2 := rfl) ?_
  refine r_iconst (pc := 9) d_Md_laysOrder_9 (v := 0) (by decide) ?_
  refine r_istore (pc := 10) (hd := d_Md_laysOrder_10) (hi := by decide) (ls2 := [.ref a, .int p0, .int (S.1 r1 (0 : Int32).toNatClampNeg), .int p0, .int 0, .null, .null, .null, .null]) (h2 := rfl) ?_
  refine r_iconst (pc := 12) d_Md_laysOrder_12 (v := 0) (by decide) ?_
  refine r_istore (pc := 13) (hd := d_Md_laysOrder_13) (hi := by decide) (ls2 := [.ref a, .int p0, .int (S.1 r1 (0 : Int32).toNatClampNeg), .int p0, .int 0, .int 0, .null, .null, .null]) (h2 := rfl) ?_
  exact r_weak (ls2 := [.ref a, .null, .int (S.1 r1 (0 : Int32).toNatClampNeg), .int p0, .int 0, .int 0, .null, .null, .null]) ⟨Or.inr rfl, Or.inl rfl, Or.inr rfl, Or.inr rfl, Or.inr rfl, Or.inr rfl, Or.inl rfl, Or.inl rfl, Or.inl rfl, trivial⟩ h
set_option maxRecDepth 4000 in
theorem s_Md_laysOrder_15 {l : Launch} {d : Nat} {sh : aw_SH} {S : aw_S} {P : aw_S → Prop} {a : Nat} {i2 : Int32} {i3 : Int32} {i4 : Int32} {i5 : Int32} (sa : sh[a]? = some (0, 11)) (h : ((i2 ≤ i5 → P S) ∧ (¬ i2 ≤ i5 → Sp l m_Md_ordersOf d 0 0 [.int ((i2 - i5) - (1 : Int32))] sh S (gI sh (fun x3 S2 => ¬ x3 = 0 ∧ ¬ x3 = 0 ∧ AW l m_Md_laysOrder (d + 1) 0 0 (gV sh P) 0 0 46 [.ref a, .null, .int i2, .int (i3 - i3 / x3 * x3), .int i4, .int i5, .null, .int (i3 / x3), .int 0] [] sh S2))))) : AW l m_Md_laysOrder (d + 1) 0 0 (gV sh P) 0 0 15 [.ref a, .null, .int i2, .int i3, .int i4, .int i5, .null, .null, .null] [] sh S := by
  refine r_iload (pc := 15) d_Md_laysOrder_15 (x := i5) rfl ?_
  refine r_iload_n (pc := 17) d_Md_laysOrder_17 (x := i2) rfl ?_
  refine r_icmp_ge (pc := 18) d_Md_laysOrder_18 (tgt := 113) (by decide) (fun c1 => ?_) (fun c1 => ?_)
  · replace h := h.1 c1
    exact r_return (pc := 113) d_Md_laysOrder_113 rfl rfl (Nat.le_refl _) ⟨rfl, rfl, h⟩
  · replace h := h.2 c1
    refine r_iload_n (pc := 21) d_Md_laysOrder_21 (x := i2) rfl ?_
    refine r_iload (pc := 22) d_Md_laysOrder_22 (x := i5) rfl ?_
    refine r_isub (pc := 24) d_Md_laysOrder_24 ?_
    refine r_iconst (pc := 25) d_Md_laysOrder_25 (v := 1) (by decide) ?_
    refine r_isub (pc := 26) d_Md_laysOrder_26 ?_
    refine r_callS (pc := 27) (k := 0) (As := [.int ((i2 - i5) - (1 : Int32))]) (rest := []) (mc' := 0) (ms' := 0) lk_Md_386 st_Md_ordersOf d_Md_laysOrder_27 k_Md_ordersOf rfl rfl (Nat.le_of_ble_eq_true rfl) (by decide) (by decide) (Sp.mono h ?_)
    rintro rS2 shS2 S2 ⟨qS2, x3, uS2, h⟩
    subst uS2
    rw [qS2]
    refine r_istore (pc := 30) (hd := d_Md_laysOrder_30) (hi := by decide) (ls2 := [.ref a, .null, .int i2, .int i3, .int i4, .int i5, .int x3, .null, .null]) (h2 := rfl) ?_
    refine r_iload_n (pc := 32) d_Md_laysOrder_32 (x := i3) rfl ?_
    refine r_iload (pc := 33) d_Md_laysOrder_33 (x := x3) rfl ?_
    obtain ⟨g5, h⟩ := h
    refine r_idiv (pc := 35) d_Md_laysOrder_35 g5 ?_
    refine r_istore (pc := 36) (hd := d_Md_laysOrder_36) (hi := by decide) (ls2 := [.ref a, .null, .int i2, .int i3, .int i4, .int i5, .int x3, .int (i3 / x3), .null]) (h2 := rfl) ?_
    refine r_iload_n (pc := 38) d_Md_laysOrder_38 (x := i3) rfl ?_
    refine r_iload (pc := 39) d_Md_laysOrder_39 (x := x3) rfl ?_
    obtain ⟨g4, h⟩ := h
    refine r_irem (pc := 41) d_Md_laysOrder_41 g4 ?_
    refine r_istore_n (pc := 42) (hk := rfl) (hd := d_Md_laysOrder_42) (hi := by decide) (ls2 := [.ref a, .null, .int i2, .int (i3 - i3 / x3 * x3), .int i4, .int i5, .int x3, .int (i3 / x3), .null]) (h2 := rfl) ?_
    refine r_iconst (pc := 43) d_Md_laysOrder_43 (v := 0) (by decide) ?_
    refine r_istore (pc := 44) (hd := d_Md_laysOrder_44) (hi := by decide) (ls2 := [.ref a, .null, .int i2, .int (i3 - i3 / x3 * x3), .int i4, .int i5, .int x3, .int (i3 / x3), .int 0]) (h2 := rfl) ?_
    exact r_weak (ls2 := [.ref a, .null, .int i2, .int (i3 - i3 / x3 * x3), .int i4, .int i5, .null, .int (i3 / x3), .int 0]) ⟨Or.inr rfl, Or.inl rfl, Or.inr rfl, Or.inr rfl, Or.inr rfl, Or.inr rfl, Or.inl rfl, Or.inr rfl, Or.inr rfl, trivial⟩ h
set_option maxRecDepth 4000 in
theorem s_Md_laysOrder_46 {l : Launch} {d : Nat} {sh : aw_SH} {S : aw_S} {P : aw_S → Prop} {a : Nat} {i2 : Int32} {i3 : Int32} {i4 : Int32} {i5 : Int32} {i7 : Int32} {i8 : Int32} (sa : sh[a]? = some (0, 11)) (h : Sp l m_Md_isIn d 0 0 [.ref a, .int i4, .int i8] sh S (gI sh (fun x2 S1 => ((¬ x2 = 0 → Sp l m_Md_isIn d 0 0 [.ref a, .int i4, .int i8] sh S1 (gI sh (fun x5 S4 => ((x5 = 0 → AW l m_Md_laysOrder (d + 1) 0 0 (gV sh P) 0 0 46 [.ref a, .null, .int i2, .int i3, .int i4, .int i5, .null, .int (i7 - (1 : Int32)), .int (i8 + 1)] [] sh S4) ∧ (¬ x5 = 0 → AW l m_Md_laysOrder (d + 1) 0 0 (gV sh P) 0 0 46 [.ref a, .null, .int i2, .int i3, .int i4, .int i5, .null, .int (i7 - (0 : Int32)), .int (i8 + 1)] [] sh S4))))) ∧ (x2 = 0 → ((i7 ≤ 0 → ∃ r8, S1.2.2 a 30 = some r8 ∧ ∃ n10, sh[r8]? = some (3, n10) ∧ vp_in i5 n10 ∧ AW l m_Md_laysOrder (d + 1) 0 0 (gV sh P) 0 0 15 [.ref a, .null, .int i2, .int i3, .int (i4 ||| ((1 : Int32) <<< (i8 &&& 31))), .int (i5 + 1), .null, .null, .null] [] sh (aw_uI S1 r8 i5.toNatClampNeg i8)) ∧ (¬ i7 ≤ 0 → Sp l m_Md_isIn d 0 0 [.ref a, .int i4, .int i8] sh S1 (gI sh (fun x13 S12 => ((x13 = 0 → AW l m_Md_laysOrder (d + 1) 0 0 (gV sh P) 0 0 46 [.ref a, .null, .int i2, .int i3, .int i4, .int i5, .null, .int (i7 - (1 : Int32)), .int (i8 + 1)] [] sh S12) ∧ (¬ x13 = 0 → AW l m_Md_laysOrder (d + 1) 0 0 (gV sh P) 0 0 46 [.ref a, .null, .int i2, .int i3, .int i4, .int i5, .null, .int (i7 - (0 : Int32)), .int (i8 + 1)] [] sh S12))))))))))) : AW l m_Md_laysOrder (d + 1) 0 0 (gV sh P) 0 0 46 [.ref a, .null, .int i2, .int i3, .int i4, .int i5, .null, .int i7, .int i8] [] sh S := by
  refine r_aload_n (pc := 46) d_Md_laysOrder_46 (x := a) rfl ?_
  refine r_iload (pc := 47) d_Md_laysOrder_47 (x := i4) rfl ?_
  refine r_iload (pc := 49) d_Md_laysOrder_49 (x := i8) rfl ?_
  refine r_callV (pc := 51) (k := a) (As := [.int i4, .int i8]) (rest := []) (mc' := 0) (ms' := 0) lk_Md_241 in_Md_isIn se_Md_isIn sa rfl d_Md_laysOrder_51 k_Md_isIn rfl rfl (Nat.le_of_ble_eq_true rfl) (by decide) (by decide) (Sp.mono h ?_)
  rintro rS1 shS1 S1 ⟨qS1, x2, uS1, h⟩
  subst uS1
  rw [qS1]
  refine r_if_ne (pc := 54) d_Md_laysOrder_54 (tgt := 62) (by decide) (fun c3 => ?_) (fun c3 => ?_)
  · replace h := h.1 c3
    refine r_iload (pc := 62) d_Md_laysOrder_62 (x := i7) rfl ?_
    refine r_aload_n (pc := 64) d_Md_laysOrder_64 (x := a) rfl ?_
    refine r_iload (pc := 65) d_Md_laysOrder_65 (x := i4) rfl ?_
    refine r_iload (pc := 67) d_Md_laysOrder_67 (x := i8) rfl ?_
    refine r_callV (pc := 69) (k := a) (As := [.int i4, .int i8]) (rest := [.int i7]) (mc' := 0) (ms' := 0) lk_Md_241 in_Md_isIn se_Md_isIn sa rfl d_Md_laysOrder_69 k_Md_isIn rfl rfl (Nat.le_of_ble_eq_true rfl) (by decide) (by decide) (Sp.mono h ?_)
    rintro rS4 shS4 S4 ⟨qS4, x5, uS4, h⟩
    subst uS4
    rw [qS4]
    refine r_if_eq (pc := 72) d_Md_laysOrder_72 (tgt := 79) (by decide) (fun c6 => ?_) (fun c6 => ?_)
    · replace h := h.1 c6
      refine r_iconst (pc := 79) d_Md_laysOrder_79 (v := 1) (by decide) ?_
      refine r_isub (pc := 80) d_Md_laysOrder_80 ?_
      refine r_istore (pc := 81) (hd := d_Md_laysOrder_81) (hi := by decide) (ls2 := [.ref a, .null, .int i2, .int i3, .int i4, .int i5, .null, .int (i7 - (1 : Int32)), .int i8]) (h2 := rfl) ?_
      refine r_iinc (pc := 83) d_Md_laysOrder_83 (hi := by decide) (x := i8) rfl (v := i8 + 1) rfl (ls2 := [.ref a, .null, .int i2, .int i3, .int i4, .int i5, .null, .int (i7 - (1 : Int32)), .int (i8 + 1)]) rfl ?_
      refine r_goto (pc := 86) d_Md_laysOrder_86 (tgt := 46) (by decide) ?_
      exact h
    · replace h := h.2 c6
      refine r_iconst (pc := 75) d_Md_laysOrder_75 (v := 0) (by decide) ?_
      refine r_goto (pc := 76) d_Md_laysOrder_76 (tgt := 80) (by decide) ?_
      refine r_isub (pc := 80) d_Md_laysOrder_80 ?_
      refine r_istore (pc := 81) (hd := d_Md_laysOrder_81) (hi := by decide) (ls2 := [.ref a, .null, .int i2, .int i3, .int i4, .int i5, .null, .int (i7 - (0 : Int32)), .int i8]) (h2 := rfl) ?_
      refine r_iinc (pc := 83) d_Md_laysOrder_83 (hi := by decide) (x := i8) rfl (v := i8 + 1) rfl (ls2 := [.ref a, .null, .int i2, .int i3, .int i4, .int i5, .null, .int (i7 - (0 : Int32)), .int (i8 + 1)]) rfl ?_
      refine r_goto (pc := 86) d_Md_laysOrder_86 (tgt := 46) (by decide) ?_
      exact h
  · replace h := h.2 c3
    refine r_iload (pc := 57) d_Md_laysOrder_57 (x := i7) rfl ?_
    refine r_if_le (pc := 59) d_Md_laysOrder_59 (tgt := 89) (by decide) (fun c7 => ?_) (fun c7 => ?_)
    · replace h := h.1 c7
      refine r_iload (pc := 89) d_Md_laysOrder_89 (x := i4) rfl ?_
      refine r_iconst (pc := 91) d_Md_laysOrder_91 (v := 1) (by decide) ?_
      refine r_iload (pc := 92) d_Md_laysOrder_92 (x := i8) rfl ?_
      refine r_ishl (pc := 94) d_Md_laysOrder_94 ?_
      refine r_ior (pc := 95) d_Md_laysOrder_95 ?_
      refine r_istore (pc := 96) (hd := d_Md_laysOrder_96) (hi := by decide) (ls2 := [.ref a, .null, .int i2, .int i3, .int (i4 ||| ((1 : Int32) <<< (i8 &&& 31))), .int i5, .null, .int i7, .int i8]) (h2 := rfl) ?_
      refine r_aload_n (pc := 98) d_Md_laysOrder_98 (x := a) rfl ?_
      obtain ⟨r8, er8, h⟩ := h
      refine r_getR (pc := 99) d_Md_laysOrder_99 f_Md_60 sa (Or.inr ⟨_, rfl⟩) (r := r8) er8 ?_
      refine r_iload (pc := 102) d_Md_laysOrder_102 (x := i5) rfl ?_
      refine r_iload (pc := 104) d_Md_laysOrder_104 (x := i8) rfl ?_
      obtain ⟨n10, s9, h⟩ := h
      obtain ⟨g11, h⟩ := h
      refine r_iast (pc := 106) d_Md_laysOrder_106 s9 g11 ?_
      refine r_iinc (pc := 107) d_Md_laysOrder_107 (hi := by decide) (x := i5) rfl (v := i5 + 1) rfl (ls2 := [.ref a, .null, .int i2, .int i3, .int (i4 ||| ((1 : Int32) <<< (i8 &&& 31))), .int (i5 + 1), .null, .int i7, .int i8]) rfl ?_
      refine r_goto (pc := 110) d_Md_laysOrder_110 (tgt := 15) (by decide) ?_
      exact r_weak (ls2 := [.ref a, .null, .int i2, .int i3, .int (i4 ||| ((1 : Int32) <<< (i8 &&& 31))), .int (i5 + 1), .null, .null, .null]) ⟨Or.inr rfl, Or.inl rfl, Or.inr rfl, Or.inr rfl, Or.inr rfl, Or.inr rfl, Or.inl rfl, Or.inl rfl, Or.inl rfl, trivial⟩ h
    · replace h := h.2 c7
      refine r_iload (pc := 62) d_Md_laysOrder_62 (x := i7) rfl ?_
      refine r_aload_n (pc := 64) d_Md_laysOrder_64 (x := a) rfl ?_
      refine r_iload (pc := 65) d_Md_laysOrder_65 (x := i4) rfl ?_
      refine r_iload (pc := 67) d_Md_laysOrder_67 (x := i8) rfl ?_
      refine r_callV (pc := 69) (k := a) (As := [.int i4, .int i8]) (rest := [.int i7]) (mc' := 0) (ms' := 0) lk_Md_241 in_Md_isIn se_Md_isIn sa rfl d_Md_laysOrder_69 k_Md_isIn rfl rfl (Nat.le_of_ble_eq_true rfl) (by decide) (by decide) (Sp.mono h ?_)
      rintro rS12 shS12 S12 ⟨qS12, x13, uS12, h⟩
      subst uS12
      rw [qS12]
      refine r_if_eq (pc := 72) d_Md_laysOrder_72 (tgt := 79) (by decide) (fun c14 => ?_) (fun c14 => ?_)
      · replace h := h.1 c14
        refine r_iconst (pc := 79) d_Md_laysOrder_79 (v := 1) (by decide) ?_
        refine r_isub (pc := 80) d_Md_laysOrder_80 ?_
        refine r_istore (pc := 81) (hd := d_Md_laysOrder_81) (hi := by decide) (ls2 := [.ref a, .null, .int i2, .int i3, .int i4, .int i5, .null, .int (i7 - (1 : Int32)), .int i8]) (h2 := rfl) ?_
        refine r_iinc (pc := 83) d_Md_laysOrder_83 (hi := by decide) (x := i8) rfl (v := i8 + 1) rfl (ls2 := [.ref a, .null, .int i2, .int i3, .int i4, .int i5, .null, .int (i7 - (1 : Int32)), .int (i8 + 1)]) rfl ?_
        refine r_goto (pc := 86) d_Md_laysOrder_86 (tgt := 46) (by decide) ?_
        exact h
      · replace h := h.2 c14
        refine r_iconst (pc := 75) d_Md_laysOrder_75 (v := 0) (by decide) ?_
        refine r_goto (pc := 76) d_Md_laysOrder_76 (tgt := 80) (by decide) ?_
        refine r_isub (pc := 80) d_Md_laysOrder_80 ?_
        refine r_istore (pc := 81) (hd := d_Md_laysOrder_81) (hi := by decide) (ls2 := [.ref a, .null, .int i2, .int i3, .int i4, .int i5, .null, .int (i7 - (0 : Int32)), .int i8]) (h2 := rfl) ?_
        refine r_iinc (pc := 83) d_Md_laysOrder_83 (hi := by decide) (x := i8) rfl (v := i8 + 1) rfl (ls2 := [.ref a, .null, .int i2, .int i3, .int i4, .int i5, .null, .int (i7 - (0 : Int32)), .int (i8 + 1)]) rfl ?_
        refine r_goto (pc := 86) d_Md_laysOrder_86 (tgt := 46) (by decide) ?_
        exact h
set_option maxRecDepth 4000 in
theorem e_Md_turnsOrder {l : Launch} {d : Nat} {sh : aw_SH} {S : aw_S} {P : aw_S → Prop} {a : Nat} {p0 : Int32} (sa : sh[a]? = some (0, 11)) (h : ∃ r1, S.2.2 a 0 = some r1 ∧ ∃ n3, sh[r1]? = some (3, n3) ∧ vp_in 0 n3 ∧ ¬ (S.1 r1 (0 : Int32).toNatClampNeg) = 0 ∧ ∀ v5 : Int32, v5 = (p0 + (1 : Int32)) - (p0 + (1 : Int32)) / (S.1 r1 (0 : Int32).toNatClampNeg) * (S.1 r1 (0 : Int32).toNatClampNeg) → ∃ r6, S.2.2 a 30 = some r6 ∧ ∃ n8, sh[r6]? = some (3, n8) ∧ vp_in p0 n8 ∧ vp_in v5 n8 ∧ vp_in p0 n8 ∧ vp_in v5 n8 ∧ P (aw_uI (aw_uI S r6 p0.toNatClampNeg (S.1 r6 v5.toNatClampNeg)) r6 v5.toNatClampNeg (S.1 r6 p0.toNatClampNeg))) : Sp l m_Md_turnsOrder (d + 1) 0 0 [.ref a, .int p0] sh S (gV sh P) := by
  refine Sp.of k_Md_turnsOrder (ls := [.ref a, .int p0, .null, .null]) rfl (Nat.le_of_ble_eq_true rfl) ?_
  refine r_iload_n (pc := 0) d_Md_turnsOrder_0 (x := p0) rfl ?_
  refine r_iconst (pc := 1) d_Md_turnsOrder_1 (v := 1) (by decide) ?_
  refine r_iadd (pc := 2) d_Md_turnsOrder_2 ?_
  refine r_aload_n (pc := 3) d_Md_turnsOrder_3 (x := a) rfl ?_
  obtain ⟨r1, er1, h⟩ := h
  refine r_getR (pc := 4) d_Md_turnsOrder_4 f_Md_7 sa (Or.inr ⟨_, rfl⟩) (r := r1) er1 ?_
  refine r_iconst (pc := 7) d_Md_turnsOrder_7 (v := 0) (by decide) ?_
  obtain ⟨n3, s2, h⟩ := h
  obtain ⟨g4, h⟩ := h
  refine r_iald (pc := 8) d_Md_turnsOrder_8 s2 g4 ?_
  obtain ⟨g13, h⟩ := h
  refine r_irem (pc := 9) d_Md_turnsOrder_9 g13 ?_
  refine r_ni (fun v5 ev5 => ?_)
  replace h := h v5 ev5
  refine r_istore_n (pc := 10) (hk := rfl) (hd := d_Md_turnsOrder_10) (hi := by decide) (ls2 := [.ref a, .int p0, .int v5, .null]) (h2 := rfl) ?_
  refine r_aload_n (pc := 11) d_Md_turnsOrder_11 (x := a) rfl ?_
  obtain ⟨r6, er6, h⟩ := h
  refine r_getR (pc := 12) d_Md_turnsOrder_12 f_Md_60 sa (Or.inr ⟨_, rfl⟩) (r := r6) er6 ?_
  refine r_iload_n (pc := 15) d_Md_turnsOrder_15 (x := p0) rfl ?_
  obtain ⟨n8, s7, h⟩ := h
  obtain ⟨g9, h⟩ := h
  refine r_iald (pc := 16) d_Md_turnsOrder_16 s7 g9 ?_
  refine r_istore_n (pc := 17) (hk := rfl) (hd := d_Md_turnsOrder_17) (hi := by decide) (ls2 := [.ref a, .int p0, .int v5, .int (S.1 r6 p0.toNatClampNeg)]) (h2 := rfl) ?_
  refine r_aload_n (pc := 18) d_Md_turnsOrder_18 (x := a) rfl ?_
  refine r_getR (pc := 19) d_Md_turnsOrder_19 f_Md_60 sa (Or.inr ⟨_, rfl⟩) (r := r6) er6 ?_
  refine r_iload_n (pc := 22) d_Md_turnsOrder_22 (x := p0) rfl ?_
  refine r_aload_n (pc := 23) d_Md_turnsOrder_23 (x := a) rfl ?_
  refine r_getR (pc := 24) d_Md_turnsOrder_24 f_Md_60 sa (Or.inr ⟨_, rfl⟩) (r := r6) er6 ?_
  refine r_iload_n (pc := 27) d_Md_turnsOrder_27 (x := v5) rfl ?_
  obtain ⟨g10, h⟩ := h
  refine r_iald (pc := 28) d_Md_turnsOrder_28 s7 g10 ?_
  obtain ⟨g11, h⟩ := h
  refine r_iast (pc := 29) d_Md_turnsOrder_29 s7 g11 ?_
  refine r_aload_n (pc := 30) d_Md_turnsOrder_30 (x := a) rfl ?_
  refine r_getR (pc := 31) d_Md_turnsOrder_31 f_Md_60 sa (Or.inr ⟨_, rfl⟩) (r := r6) er6 ?_
  refine r_iload_n (pc := 34) d_Md_turnsOrder_34 (x := v5) rfl ?_
  refine r_iload_n (pc := 35) d_Md_turnsOrder_35 (x := (S.1 r6 p0.toNatClampNeg)) rfl ?_
  obtain ⟨g12, h⟩ := h
  refine r_iast (pc := 36) d_Md_turnsOrder_36 s7 g12 ?_
  exact r_return (pc := 37) d_Md_turnsOrder_37 rfl rfl (Nat.le_refl _) ⟨rfl, rfl, h⟩
set_option maxRecDepth 4000 in
theorem e_Md_orderNumber {l : Launch} {d : Nat} {sh : aw_SH} {S : aw_S} {P : Int32 → aw_S → Prop} {a : Nat} (sa : sh[a]? = some (0, 11)) (h : ∃ r1, S.2.2 a 0 = some r1 ∧ ∃ n3, sh[r1]? = some (3, n3) ∧ vp_in 0 n3 ∧ AW l m_Md_orderNumber (d + 1) 0 0 (gI sh P) 0 0 11 [.ref a, .int (S.1 r1 (0 : Int32).toNatClampNeg), .int 0, .int 0, .null, .null] [] sh S) : Sp l m_Md_orderNumber (d + 1) 0 0 [.ref a] sh S (gI sh P) := by
  refine Sp.of k_Md_orderNumber (ls := [.ref a, .null, .null, .null, .null, .null]) rfl (Nat.le_of_ble_eq_true rfl) ?_
  refine r_aload_n (pc := 0) d_Md_orderNumber_0 (x := a) rfl ?_
  obtain ⟨r1, er1, h⟩ := h
  refine r_getR (pc := 1) d_Md_orderNumber_1 f_Md_7 sa (Or.inr ⟨_, rfl⟩) (r := r1) er1 ?_
  refine r_iconst (pc := 4) d_Md_orderNumber_4 (v := 0) (by decide) ?_
  obtain ⟨n3, s2, h⟩ := h
  obtain ⟨g4, h⟩ := h
  refine r_iald (pc := 5) d_Md_orderNumber_5 s2 g4 ?_
  refine r_istore_n (pc := 6) (hk := rfl) (hd := d_Md_orderNumber_6) (hi := by decide) (ls2 := [.ref a, .int (S.1 r1 (0 : Int32).toNatClampNeg), .null, .null, .null, .null]) (h2 := rfl) ?_
  refine r_iconst (pc := 7) d_Md_orderNumber_7 (v := 0) (by decide) ?_
  refine r_istore_n (pc := 8) (hk := rfl) (hd := d_Md_orderNumber_8) (hi := by decide) (ls2 := [.ref a, .int (S.1 r1 (0 : Int32).toNatClampNeg), .int 0, .null, .null, .null]) (h2 := rfl) ?_
  refine r_iconst (pc := 9) d_Md_orderNumber_9 (v := 0) (by decide) ?_
  refine r_istore_n (pc := 10) (hk := rfl) (hd := d_Md_orderNumber_10) (hi := by decide) (ls2 := [.ref a, .int (S.1 r1 (0 : Int32).toNatClampNeg), .int 0, .int 0, .null, .null]) (h2 := rfl) ?_
  exact h
set_option maxRecDepth 4000 in
theorem s_Md_orderNumber_11 {l : Launch} {d : Nat} {sh : aw_SH} {S : aw_S} {P : Int32 → aw_S → Prop} {a : Nat} {i1 : Int32} {i2 : Int32} {i3 : Int32} (sa : sh[a]? = some (0, 11)) (h : ((i1 ≤ i3 → P i2 S) ∧ (¬ i1 ≤ i3 → AW l m_Md_orderNumber (d + 1) 0 0 (gI sh P) 0 0 24 [.ref a, .int i1, .int i2, .int i3, .int 0, .int (i3 + (1 : Int32))] [] sh S))) : AW l m_Md_orderNumber (d + 1) 0 0 (gI sh P) 0 0 11 [.ref a, .int i1, .int i2, .int i3, .null, .null] [] sh S := by
  refine r_iload_n (pc := 11) d_Md_orderNumber_11 (x := i3) rfl ?_
  refine r_iload_n (pc := 12) d_Md_orderNumber_12 (x := i1) rfl ?_
  refine r_icmp_ge (pc := 13) d_Md_orderNumber_13 (tgt := 77) (by decide) (fun c1 => ?_) (fun c1 => ?_)
  · replace h := h.1 c1
    refine r_iload_n (pc := 77) d_Md_orderNumber_77 (x := i2) rfl ?_
    exact r_ireturn (pc := 78) d_Md_orderNumber_78 rfl rfl (Nat.le_refl _) ⟨rfl, _, rfl, h⟩
  · replace h := h.2 c1
    refine r_iconst (pc := 16) d_Md_orderNumber_16 (v := 0) (by decide) ?_
    refine r_istore (pc := 17) (hd := d_Md_orderNumber_17) (hi := by decide) (ls2 := [.ref a, .int i1, .int i2, .int i3, .int 0, .null]) (h2 := rfl) ?_
    refine r_iload_n (pc := 19) d_Md_orderNumber_19 (x := i3) rfl ?_
    refine r_iconst (pc := 20) d_Md_orderNumber_20 (v := 1) (by decide) ?_
    refine r_iadd (pc := 21) d_Md_orderNumber_21 ?_
    refine r_istore (pc := 22) (hd := d_Md_orderNumber_22) (hi := by decide) (ls2 := [.ref a, .int i1, .int i2, .int i3, .int 0, .int (i3 + (1 : Int32))]) (h2 := rfl) ?_
    exact h
set_option maxRecDepth 4000 in
theorem s_Md_orderNumber_24 {l : Launch} {d : Nat} {sh : aw_SH} {S : aw_S} {P : Int32 → aw_S → Prop} {a : Nat} {i1 : Int32} {i2 : Int32} {i3 : Int32} {i4 : Int32} {i5 : Int32} (sa : sh[a]? = some (0, 11)) (h : ((i1 ≤ i5 → AW l m_Md_orderNumber (d + 1) 0 0 (gI sh P) 0 0 11 [.ref a, .int i1, .int ((i2 * (i1 - i3)) + i4), .int (i3 + 1), .null, .null] [] sh S) ∧ (¬ i1 ≤ i5 → ∃ r2, S.2.2 a 30 = some r2 ∧ ∃ n4, sh[r2]? = some (3, n4) ∧ vp_in i5 n4 ∧ vp_in i3 n4 ∧ (((S.1 r2 i3.toNatClampNeg) ≤ (S.1 r2 i5.toNatClampNeg) → AW l m_Md_orderNumber (d + 1) 0 0 (gI sh P) 0 0 24 [.ref a, .int i1, .int i2, .int i3, .int (i4 + (0 : Int32)), .int (i5 + 1)] [] sh S) ∧ (¬ (S.1 r2 i3.toNatClampNeg) ≤ (S.1 r2 i5.toNatClampNeg) → AW l m_Md_orderNumber (d + 1) 0 0 (gI sh P) 0 0 24 [.ref a, .int i1, .int i2, .int i3, .int (i4 + (1 : Int32)), .int (i5 + 1)] [] sh S))))) : AW l m_Md_orderNumber (d + 1) 0 0 (gI sh P) 0 0 24 [.ref a, .int i1, .int i2, .int i3, .int i4, .int i5] [] sh S := by
  refine r_iload (pc := 24) d_Md_orderNumber_24 (x := i5) rfl ?_
  refine r_iload_n (pc := 26) d_Md_orderNumber_26 (x := i1) rfl ?_
  refine r_icmp_ge (pc := 27) d_Md_orderNumber_27 (tgt := 62) (by decide) (fun c1 => ?_) (fun c1 => ?_)
  · replace h := h.1 c1
    refine r_iload_n (pc := 62) d_Md_orderNumber_62 (x := i2) rfl ?_
    refine r_iload_n (pc := 63) d_Md_orderNumber_63 (x := i1) rfl ?_
    refine r_iload_n (pc := 64) d_Md_orderNumber_64 (x := i3) rfl ?_
    refine r_isub (pc := 65) d_Md_orderNumber_65 ?_
    refine r_imul (pc := 66) d_Md_orderNumber_66 ?_
    refine r_iload (pc := 67) d_Md_orderNumber_67 (x := i4) rfl ?_
    refine r_iadd (pc := 69) d_Md_orderNumber_69 ?_
    refine r_istore_n (pc := 70) (hk := rfl) (hd := d_Md_orderNumber_70) (hi := by decide) (ls2 := [.ref a, .int i1, .int ((i2 * (i1 - i3)) + i4), .int i3, .int i4, .int i5]) (h2 := rfl) ?_
    refine r_iinc (pc := 71) d_Md_orderNumber_71 (hi := by decide) (x := i3) rfl (v := i3 + 1) rfl (ls2 := [.ref a, .int i1, .int ((i2 * (i1 - i3)) + i4), .int (i3 + 1), .int i4, .int i5]) rfl ?_
    refine r_goto (pc := 74) d_Md_orderNumber_74 (tgt := 11) (by decide) ?_
    exact r_weak (ls2 := [.ref a, .int i1, .int ((i2 * (i1 - i3)) + i4), .int (i3 + 1), .null, .null]) ⟨Or.inr rfl, Or.inr rfl, Or.inr rfl, Or.inr rfl, Or.inl rfl, Or.inl rfl, trivial⟩ h
  · replace h := h.2 c1
    refine r_iload (pc := 30) d_Md_orderNumber_30 (x := i4) rfl ?_
    refine r_aload_n (pc := 32) d_Md_orderNumber_32 (x := a) rfl ?_
    obtain ⟨r2, er2, h⟩ := h
    refine r_getR (pc := 33) d_Md_orderNumber_33 f_Md_60 sa (Or.inr ⟨_, rfl⟩) (r := r2) er2 ?_
    refine r_iload (pc := 36) d_Md_orderNumber_36 (x := i5) rfl ?_
    obtain ⟨n4, s3, h⟩ := h
    obtain ⟨g5, h⟩ := h
    refine r_iald (pc := 38) d_Md_orderNumber_38 s3 g5 ?_
    refine r_aload_n (pc := 39) d_Md_orderNumber_39 (x := a) rfl ?_
    refine r_getR (pc := 40) d_Md_orderNumber_40 f_Md_60 sa (Or.inr ⟨_, rfl⟩) (r := r2) er2 ?_
    refine r_iload_n (pc := 43) d_Md_orderNumber_43 (x := i3) rfl ?_
    obtain ⟨g6, h⟩ := h
    refine r_iald (pc := 44) d_Md_orderNumber_44 s3 g6 ?_
    refine r_icmp_ge (pc := 45) d_Md_orderNumber_45 (tgt := 52) (by decide) (fun c7 => ?_) (fun c7 => ?_)
    · replace h := h.1 c7
      refine r_iconst (pc := 52) d_Md_orderNumber_52 (v := 0) (by decide) ?_
      refine r_iadd (pc := 53) d_Md_orderNumber_53 ?_
      refine r_istore (pc := 54) (hd := d_Md_orderNumber_54) (hi := by decide) (ls2 := [.ref a, .int i1, .int i2, .int i3, .int (i4 + (0 : Int32)), .int i5]) (h2 := rfl) ?_
      refine r_iinc (pc := 56) d_Md_orderNumber_56 (hi := by decide) (x := i5) rfl (v := i5 + 1) rfl (ls2 := [.ref a, .int i1, .int i2, .int i3, .int (i4 + (0 : Int32)), .int (i5 + 1)]) rfl ?_
      refine r_goto (pc := 59) d_Md_orderNumber_59 (tgt := 24) (by decide) ?_
      exact h
    · replace h := h.2 c7
      refine r_iconst (pc := 48) d_Md_orderNumber_48 (v := 1) (by decide) ?_
      refine r_goto (pc := 49) d_Md_orderNumber_49 (tgt := 53) (by decide) ?_
      refine r_iadd (pc := 53) d_Md_orderNumber_53 ?_
      refine r_istore (pc := 54) (hd := d_Md_orderNumber_54) (hi := by decide) (ls2 := [.ref a, .int i1, .int i2, .int i3, .int (i4 + (1 : Int32)), .int i5]) (h2 := rfl) ?_
      refine r_iinc (pc := 56) d_Md_orderNumber_56 (hi := by decide) (x := i5) rfl (v := i5 + 1) rfl (ls2 := [.ref a, .int i1, .int i2, .int i3, .int (i4 + (1 : Int32)), .int (i5 + 1)]) rfl ?_
      refine r_goto (pc := 59) d_Md_orderNumber_59 (tgt := 24) (by decide) ?_
      exact h
set_option maxRecDepth 4000 in
theorem e_Md_orderNow {l : Launch} {d : Nat} {sh : aw_SH} {S : aw_S} {P : Int32 → aw_S → Prop} {a : Nat} (sa : sh[a]? = some (0, 11)) (h : AW l m_Md_orderNow (d + 1) 0 0 (gI sh P) 0 0 2 [.ref a, .int 0] [] sh S) : Sp l m_Md_orderNow (d + 1) 0 0 [.ref a] sh S (gI sh P) := by
  refine Sp.of k_Md_orderNow (ls := [.ref a, .null]) rfl (Nat.le_of_ble_eq_true rfl) ?_
  refine r_iconst (pc := 0) d_Md_orderNow_0 (v := 0) (by decide) ?_
  refine r_istore_n (pc := 1) (hk := rfl) (hd := d_Md_orderNow_1) (hi := by decide) (ls2 := [.ref a, .int 0]) (h2 := rfl) ?_
  exact h
set_option maxRecDepth 4000 in
theorem s_Md_orderNow_2 {l : Launch} {d : Nat} {sh : aw_SH} {S : aw_S} {P : Int32 → aw_S → Prop} {a : Nat} {i1 : Int32} (sa : sh[a]? = some (0, 11)) (h : ∃ r1, S.2.2 a 0 = some r1 ∧ ∃ n3, sh[r1]? = some (3, n3) ∧ vp_in 0 n3 ∧ (((S.1 r1 (0 : Int32).toNatClampNeg) ≤ i1 → Sp l m_Md_orderNumber d 0 0 [.ref a] sh S (gI sh (fun x7 S6 => P x7 S6))) ∧ (¬ (S.1 r1 (0 : Int32).toNatClampNeg) ≤ i1 → ∃ r8, S.2.2 a 30 = some r8 ∧ vp_in ((17 : Int32) + i1) n3 ∧ ∃ n11, sh[r8]? = some (3, n11) ∧ vp_in i1 n11 ∧ AW l m_Md_orderNow (d + 1) 0 0 (gI sh P) 0 0 2 [.ref a, .int (i1 + 1)] [] sh (aw_uI S r8 i1.toNatClampNeg (S.1 r1 ((17 : Int32) + i1 : Int32).toNatClampNeg))))) : AW l m_Md_orderNow (d + 1) 0 0 (gI sh P) 0 0 2 [.ref a, .int i1] [] sh S := by
  refine r_iload_n (pc := 2) d_Md_orderNow_2 (x := i1) rfl ?_
  refine r_aload_n (pc := 3) d_Md_orderNow_3 (x := a) rfl ?_
  obtain ⟨r1, er1, h⟩ := h
  refine r_getR (pc := 4) d_Md_orderNow_4 f_Md_7 sa (Or.inr ⟨_, rfl⟩) (r := r1) er1 ?_
  refine r_iconst (pc := 7) d_Md_orderNow_7 (v := 0) (by decide) ?_
  obtain ⟨n3, s2, h⟩ := h
  obtain ⟨g4, h⟩ := h
  refine r_iald (pc := 8) d_Md_orderNow_8 s2 g4 ?_
  refine r_icmp_ge (pc := 9) d_Md_orderNow_9 (tgt := 33) (by decide) (fun c5 => ?_) (fun c5 => ?_)
  · replace h := h.1 c5
    refine r_aload_n (pc := 33) d_Md_orderNow_33 (x := a) rfl ?_
    refine r_callV (pc := 34) (k := a) (As := []) (rest := []) (mc' := 0) (ms' := 0) lk_Md_396 in_Md_orderNumber se_Md_orderNumber sa rfl d_Md_orderNow_34 k_Md_orderNumber rfl rfl (Nat.le_of_ble_eq_true rfl) (by decide) (by decide) (Sp.mono h ?_)
    rintro rS6 shS6 S6 ⟨qS6, x7, uS6, h⟩
    subst uS6
    rw [qS6]
    exact r_ireturn (pc := 37) d_Md_orderNow_37 rfl rfl (Nat.le_refl _) ⟨rfl, _, rfl, h⟩
  · replace h := h.2 c5
    refine r_aload_n (pc := 12) d_Md_orderNow_12 (x := a) rfl ?_
    obtain ⟨r8, er8, h⟩ := h
    refine r_getR (pc := 13) d_Md_orderNow_13 f_Md_60 sa (Or.inr ⟨_, rfl⟩) (r := r8) er8 ?_
    refine r_iload_n (pc := 16) d_Md_orderNow_16 (x := i1) rfl ?_
    refine r_aload_n (pc := 17) d_Md_orderNow_17 (x := a) rfl ?_
    refine r_getR (pc := 18) d_Md_orderNow_18 f_Md_7 sa (Or.inr ⟨_, rfl⟩) (r := r1) er1 ?_
    refine r_bipush (pc := 21) d_Md_orderNow_21 (v := 17) (by decide) ?_
    refine r_iload_n (pc := 23) d_Md_orderNow_23 (x := i1) rfl ?_
    refine r_iadd (pc := 24) d_Md_orderNow_24 ?_
    obtain ⟨g9, h⟩ := h
    refine r_iald (pc := 25) d_Md_orderNow_25 s2 g9 ?_
    obtain ⟨n11, s10, h⟩ := h
    obtain ⟨g12, h⟩ := h
    refine r_iast (pc := 26) d_Md_orderNow_26 s10 g12 ?_
    refine r_iinc (pc := 27) d_Md_orderNow_27 (hi := by decide) (x := i1) rfl (v := i1 + 1) rfl (ls2 := [.ref a, .int (i1 + 1)]) rfl ?_
    refine r_goto (pc := 30) d_Md_orderNow_30 (tgt := 2) (by decide) ?_
    exact h
set_option maxRecDepth 4000 in
theorem e_Md_homewardAt {l : Launch} {d : Nat} {sh : aw_SH} {S : aw_S} {P : Int32 → aw_S → Prop} {a : Nat} {p0 : Int32} (sa : sh[a]? = some (0, 11)) (h : ((0 ≤ p0 → Sp l m_Md_laysHome d 0 0 [.ref a] sh S (gV sh (fun S2 => Sp l m_Md_orderNow d 0 0 [.ref a] sh S2 (gI sh (fun x4 S3 => ∃ r5, S3.2.2 a 28 = some r5 ∧ ∃ n7, sh[r5]? = some (3, n7) ∧ vp_in x4 n7 ∧ ((p0 < (S3.1 r5 x4.toNatClampNeg) → AW l m_Md_homewardAt (d + 1) 0 0 (gI sh P) 0 0 41 [.ref a, .int p0, .int x4, .int 0, .int 0, .null] [] sh S3) ∧ (¬ p0 < (S3.1 r5 x4.toNatClampNeg) → Sp l m_Md_refuse d 0 0 [.ref a, .int 6] sh S3 (gI sh (fun x11 S10 => P x11 S10))))))))) ∧ (¬ 0 ≤ p0 → Sp l m_Md_refuse d 0 0 [.ref a, .int 1] sh S (gI sh (fun x13 S12 => P x13 S12))))) : Sp l m_Md_homewardAt (d + 1) 0 0 [.ref a, .int p0] sh S (gI sh P) := by
  refine Sp.of k_Md_homewardAt (ls := [.ref a, .int p0, .null, .null, .null, .null]) rfl (Nat.le_of_ble_eq_true rfl) ?_
  refine r_iload_n (pc := 0) d_Md_homewardAt_0 (x := p0) rfl ?_
  refine r_if_ge (pc := 1) d_Md_homewardAt_1 (tgt := 10) (by decide) (fun c1 => ?_) (fun c1 => ?_)
  · replace h := h.1 c1
    refine r_aload_n (pc := 10) d_Md_homewardAt_10 (x := a) rfl ?_
    refine r_callV (pc := 11) (k := a) (As := []) (rest := []) (mc' := 0) (ms' := 0) lk_Md_399 in_Md_laysHome se_Md_laysHome sa rfl d_Md_homewardAt_11 k_Md_laysHome rfl rfl (Nat.le_of_ble_eq_true rfl) (by decide) (by decide) (Sp.mono h ?_)
    rintro rS2 shS2 S2 ⟨qS2, uS2, h⟩
    subst uS2
    rw [qS2]
    refine r_aload_n (pc := 14) d_Md_homewardAt_14 (x := a) rfl ?_
    refine r_callV (pc := 15) (k := a) (As := []) (rest := []) (mc' := 0) (ms' := 0) lk_Md_402 in_Md_orderNow se_Md_orderNow sa rfl d_Md_homewardAt_15 k_Md_orderNow rfl rfl (Nat.le_of_ble_eq_true rfl) (by decide) (by decide) (Sp.mono h ?_)
    rintro rS3 shS3 S3 ⟨qS3, x4, uS3, h⟩
    subst uS3
    rw [qS3]
    refine r_istore_n (pc := 18) (hk := rfl) (hd := d_Md_homewardAt_18) (hi := by decide) (ls2 := [.ref a, .int p0, .int x4, .null, .null, .null]) (h2 := rfl) ?_
    refine r_iload_n (pc := 19) d_Md_homewardAt_19 (x := p0) rfl ?_
    refine r_aload_n (pc := 20) d_Md_homewardAt_20 (x := a) rfl ?_
    obtain ⟨r5, er5, h⟩ := h
    refine r_getR (pc := 21) d_Md_homewardAt_21 f_Md_54 sa (Or.inr ⟨_, rfl⟩) (r := r5) er5 ?_
    refine r_iload_n (pc := 24) d_Md_homewardAt_24 (x := x4) rfl ?_
    obtain ⟨n7, s6, h⟩ := h
    obtain ⟨g8, h⟩ := h
    refine r_iald (pc := 25) d_Md_homewardAt_25 s6 g8 ?_
    refine r_icmp_lt (pc := 26) d_Md_homewardAt_26 (tgt := 36) (by decide) (fun c9 => ?_) (fun c9 => ?_)
    · replace h := h.1 c9
      refine r_iconst (pc := 36) d_Md_homewardAt_36 (v := 0) (by decide) ?_
      refine r_istore_n (pc := 37) (hk := rfl) (hd := d_Md_homewardAt_37) (hi := by decide) (ls2 := [.ref a, .int p0, .int x4, .int 0, .null, .null]) (h2 := rfl) ?_
      refine r_iconst (pc := 38) d_Md_homewardAt_38 (v := 0) (by decide) ?_
      refine r_istore (pc := 39) (hd := d_Md_homewardAt_39) (hi := by decide) (ls2 := [.ref a, .int p0, .int x4, .int 0, .int 0, .null]) (h2 := rfl) ?_
      exact h
    · replace h := h.2 c9
      refine r_aload_n (pc := 29) d_Md_homewardAt_29 (x := a) rfl ?_
      refine r_bipush (pc := 30) d_Md_homewardAt_30 (v := 6) (by decide) ?_
      refine r_callV (pc := 32) (k := a) (As := [.int 6]) (rest := []) (mc' := 0) (ms' := 0) lk_Md_118 in_Md_refuse se_Md_refuse sa rfl d_Md_homewardAt_32 k_Md_refuse rfl rfl (Nat.le_of_ble_eq_true rfl) (by decide) (by decide) (Sp.mono h ?_)
      rintro rS10 shS10 S10 ⟨qS10, x11, uS10, h⟩
      subst uS10
      rw [qS10]
      exact r_ireturn (pc := 35) d_Md_homewardAt_35 rfl rfl (Nat.le_refl _) ⟨rfl, _, rfl, h⟩
  · replace h := h.2 c1
    refine r_aload_n (pc := 4) d_Md_homewardAt_4 (x := a) rfl ?_
    refine r_iconst (pc := 5) d_Md_homewardAt_5 (v := 1) (by decide) ?_
    refine r_callV (pc := 6) (k := a) (As := [.int 1]) (rest := []) (mc' := 0) (ms' := 0) lk_Md_118 in_Md_refuse se_Md_refuse sa rfl d_Md_homewardAt_6 k_Md_refuse rfl rfl (Nat.le_of_ble_eq_true rfl) (by decide) (by decide) (Sp.mono h ?_)
    rintro rS12 shS12 S12 ⟨qS12, x13, uS12, h⟩
    subst uS12
    rw [qS12]
    exact r_ireturn (pc := 9) d_Md_homewardAt_9 rfl rfl (Nat.le_refl _) ⟨rfl, _, rfl, h⟩
set_option maxRecDepth 4000 in
theorem s_Md_homewardAt_41 {l : Launch} {d : Nat} {sh : aw_SH} {S : aw_S} {P : Int32 → aw_S → Prop} {a : Nat} {i1 : Int32} {i2 : Int32} {i3 : Int32} {i4 : Int32} (sa : sh[a]? = some (0, 11)) (h : ((i1 < i4 → Sp l m_Md_gives d 0 0 [.ref a, .int i3] sh S (gI sh (fun x3 S2 => P x3 S2))) ∧ (¬ i1 < i4 → AW l m_Md_homewardAt (d + 1) 0 0 (gI sh P) 0 0 52 [.ref a, .int i1, .int i2, .int 0, .int i4, .int 0] [] sh S))) : AW l m_Md_homewardAt (d + 1) 0 0 (gI sh P) 0 0 41 [.ref a, .int i1, .int i2, .int i3, .int i4, .null] [] sh S := by
  refine r_iload (pc := 41) d_Md_homewardAt_41 (x := i4) rfl ?_
  refine r_iload_n (pc := 43) d_Md_homewardAt_43 (x := i1) rfl ?_
  refine r_icmp_gt (pc := 44) d_Md_homewardAt_44 (tgt := 126) (by decide) (fun c1 => ?_) (fun c1 => ?_)
  · replace h := h.1 c1
    refine r_aload_n (pc := 126) d_Md_homewardAt_126 (x := a) rfl ?_
    refine r_iload_n (pc := 127) d_Md_homewardAt_127 (x := i3) rfl ?_
    refine r_callV (pc := 128) (k := a) (As := [.int i3]) (rest := []) (mc' := 0) (ms' := 0) lk_Md_122 in_Md_gives se_Md_gives sa rfl d_Md_homewardAt_128 k_Md_gives rfl rfl (Nat.le_of_ble_eq_true rfl) (by decide) (by decide) (Sp.mono h ?_)
    rintro rS2 shS2 S2 ⟨qS2, x3, uS2, h⟩
    subst uS2
    rw [qS2]
    exact r_ireturn (pc := 131) d_Md_homewardAt_131 rfl rfl (Nat.le_refl _) ⟨rfl, _, rfl, h⟩
  · replace h := h.2 c1
    refine r_iconst (pc := 47) d_Md_homewardAt_47 (v := 0) (by decide) ?_
    refine r_istore (pc := 48) (hd := d_Md_homewardAt_48) (hi := by decide) (ls2 := [.ref a, .int i1, .int i2, .int i3, .int i4, .int 0]) (h2 := rfl) ?_
    refine r_iconst (pc := 50) d_Md_homewardAt_50 (v := 0) (by decide) ?_
    refine r_istore_n (pc := 51) (hk := rfl) (hd := d_Md_homewardAt_51) (hi := by decide) (ls2 := [.ref a, .int i1, .int i2, .int 0, .int i4, .int 0]) (h2 := rfl) ?_
    exact h
set_option maxRecDepth 4000 in
theorem s_Md_homewardAt_52 {l : Launch} {d : Nat} {sh : aw_SH} {S : aw_S} {P : Int32 → aw_S → Prop} {a : Nat} {i1 : Int32} {i2 : Int32} {i3 : Int32} {i4 : Int32} {i5 : Int32} (sa : sh[a]? = some (0, 11)) (h : ((¬ i5 = 0 → Sp l m_Md_orderNumber d 0 0 [.ref a] sh S (gI sh (fun x3 S2 => AW l m_Md_homewardAt (d + 1) 0 0 (gI sh P) 0 0 41 [.ref a, .int i1, .int x3, .int i3, .int (i4 + 1), .null] [] sh S2))) ∧ (i5 = 0 → Sp l m_Md_turnsOrder d 0 0 [.ref a, .int i3] sh S (gV sh (fun S4 => ∃ r5, S4.2.2 a 28 = some r5 ∧ Sp l m_Md_orderNumber d 0 0 [.ref a] sh S4 (gI sh (fun x7 S6 => ∃ n9, sh[r5]? = some (3, n9) ∧ vp_in x7 n9 ∧ ∃ r11, S6.2.2 a 28 = some r11 ∧ ∃ n13, sh[r11]? = some (3, n13) ∧ vp_in i2 n13 ∧ ((¬ (S6.1 r5 x7.toNatClampNeg) = ((S6.1 r11 i2.toNatClampNeg) - (1 : Int32)) → Sp l m_Md_turnsOrder d 0 0 [.ref a, .int i3] sh S6 (gV sh (fun S17 => AW l m_Md_homewardAt (d + 1) 0 0 (gI sh P) 0 0 52 [.ref a, .int i1, .int i2, .int (i3 + (1 : Int32)), .int i4, .int 0] [] sh S17))) ∧ ((S6.1 r5 x7.toNatClampNeg) = ((S6.1 r11 i2.toNatClampNeg) - (1 : Int32)) → AW l m_Md_homewardAt (d + 1) 0 0 (gI sh P) 0 0 52 [.ref a, .int i1, .int i2, .int (i3 + (0 : Int32)), .int i4, .int 1] [] sh S6))))))))) : AW l m_Md_homewardAt (d + 1) 0 0 (gI sh P) 0 0 52 [.ref a, .int i1, .int i2, .int i3, .int i4, .int i5] [] sh S := by
  refine r_iload (pc := 52) d_Md_homewardAt_52 (x := i5) rfl ?_
  refine r_if_ne (pc := 54) d_Md_homewardAt_54 (tgt := 115) (by decide) (fun c1 => ?_) (fun c1 => ?_)
  · replace h := h.1 c1
    refine r_aload_n (pc := 115) d_Md_homewardAt_115 (x := a) rfl ?_
    refine r_callV (pc := 116) (k := a) (As := []) (rest := []) (mc' := 0) (ms' := 0) lk_Md_396 in_Md_orderNumber se_Md_orderNumber sa rfl d_Md_homewardAt_116 k_Md_orderNumber rfl rfl (Nat.le_of_ble_eq_true rfl) (by decide) (by decide) (Sp.mono h ?_)
    rintro rS2 shS2 S2 ⟨qS2, x3, uS2, h⟩
    subst uS2
    rw [qS2]
    refine r_istore_n (pc := 119) (hk := rfl) (hd := d_Md_homewardAt_119) (hi := by decide) (ls2 := [.ref a, .int i1, .int x3, .int i3, .int i4, .int i5]) (h2 := rfl) ?_
    refine r_iinc (pc := 120) d_Md_homewardAt_120 (hi := by decide) (x := i4) rfl (v := i4 + 1) rfl (ls2 := [.ref a, .int i1, .int x3, .int i3, .int (i4 + 1), .int i5]) rfl ?_
    refine r_goto (pc := 123) d_Md_homewardAt_123 (tgt := 41) (by decide) ?_
    exact r_weak (ls2 := [.ref a, .int i1, .int x3, .int i3, .int (i4 + 1), .null]) ⟨Or.inr rfl, Or.inr rfl, Or.inr rfl, Or.inr rfl, Or.inr rfl, Or.inl rfl, trivial⟩ h
  · replace h := h.2 c1
    refine r_aload_n (pc := 57) d_Md_homewardAt_57 (x := a) rfl ?_
    refine r_iload_n (pc := 58) d_Md_homewardAt_58 (x := i3) rfl ?_
    refine r_callV (pc := 59) (k := a) (As := [.int i3]) (rest := []) (mc' := 0) (ms' := 0) lk_Md_393 in_Md_turnsOrder se_Md_turnsOrder sa rfl d_Md_homewardAt_59 k_Md_turnsOrder rfl rfl (Nat.le_of_ble_eq_true rfl) (by decide) (by decide) (Sp.mono h ?_)
    rintro rS4 shS4 S4 ⟨qS4, uS4, h⟩
    subst uS4
    rw [qS4]
    refine r_aload_n (pc := 62) d_Md_homewardAt_62 (x := a) rfl ?_
    obtain ⟨r5, er5, h⟩ := h
    refine r_getR (pc := 63) d_Md_homewardAt_63 f_Md_54 sa (Or.inr ⟨_, rfl⟩) (r := r5) er5 ?_
    refine r_aload_n (pc := 66) d_Md_homewardAt_66 (x := a) rfl ?_
    refine r_callV (pc := 67) (k := a) (As := []) (rest := [.ref r5]) (mc' := 0) (ms' := 0) lk_Md_396 in_Md_orderNumber se_Md_orderNumber sa rfl d_Md_homewardAt_67 k_Md_orderNumber rfl rfl (Nat.le_of_ble_eq_true rfl) (by decide) (by decide) (Sp.mono h ?_)
    rintro rS6 shS6 S6 ⟨qS6, x7, uS6, h⟩
    subst uS6
    rw [qS6]
    obtain ⟨n9, s8, h⟩ := h
    obtain ⟨g10, h⟩ := h
    refine r_iald (pc := 70) d_Md_homewardAt_70 s8 g10 ?_
    refine r_aload_n (pc := 71) d_Md_homewardAt_71 (x := a) rfl ?_
    obtain ⟨r11, er11, h⟩ := h
    refine r_getR (pc := 72) d_Md_homewardAt_72 f_Md_54 sa (Or.inr ⟨_, rfl⟩) (r := r11) er11 ?_
    refine r_iload_n (pc := 75) d_Md_homewardAt_75 (x := i2) rfl ?_
    obtain ⟨n13, s12, h⟩ := h
    obtain ⟨g14, h⟩ := h
    refine r_iald (pc := 76) d_Md_homewardAt_76 s12 g14 ?_
    refine r_iconst (pc := 77) d_Md_homewardAt_77 (v := 1) (by decide) ?_
    refine r_isub (pc := 78) d_Md_homewardAt_78 ?_
    refine r_icmp_ne (pc := 79) d_Md_homewardAt_79 (tgt := 86) (by decide) (fun c15 => ?_) (fun c15 => ?_)
    · replace h := h.1 c15
      refine r_iconst (pc := 86) d_Md_homewardAt_86 (v := 0) (by decide) ?_
      refine r_istore (pc := 87) (hd := d_Md_homewardAt_87) (hi := by decide) (ls2 := [.ref a, .int i1, .int i2, .int i3, .int i4, .int 0]) (h2 := rfl) ?_
      refine r_iload (pc := 89) d_Md_homewardAt_89 (x := 0) rfl ?_
      refine r_if_ne (pc := 91) d_Md_homewardAt_91 (tgt := 99) (by decide) (fun q => absurd q (by decide)) (fun _ => ?_)
      refine r_aload_n (pc := 94) d_Md_homewardAt_94 (x := a) rfl ?_
      refine r_iload_n (pc := 95) d_Md_homewardAt_95 (x := i3) rfl ?_
      refine r_callV (pc := 96) (k := a) (As := [.int i3]) (rest := []) (mc' := 0) (ms' := 0) lk_Md_393 in_Md_turnsOrder se_Md_turnsOrder sa rfl d_Md_homewardAt_96 k_Md_turnsOrder rfl rfl (Nat.le_of_ble_eq_true rfl) (by decide) (by decide) (Sp.mono h ?_)
      rintro rS17 shS17 S17 ⟨qS17, uS17, h⟩
      subst uS17
      rw [qS17]
      refine r_iload_n (pc := 99) d_Md_homewardAt_99 (x := i3) rfl ?_
      refine r_iload (pc := 100) d_Md_homewardAt_100 (x := 0) rfl ?_
      refine r_if_eq (pc := 102) d_Md_homewardAt_102 (tgt := 109) (by decide) (fun _ => ?_) (fun q => absurd q (by decide))
      refine r_iconst (pc := 109) d_Md_homewardAt_109 (v := 1) (by decide) ?_
      refine r_iadd (pc := 110) d_Md_homewardAt_110 ?_
      refine r_istore_n (pc := 111) (hk := rfl) (hd := d_Md_homewardAt_111) (hi := by decide) (ls2 := [.ref a, .int i1, .int i2, .int (i3 + (1 : Int32)), .int i4, .int 0]) (h2 := rfl) ?_
      refine r_goto (pc := 112) d_Md_homewardAt_112 (tgt := 52) (by decide) ?_
      exact h
    · replace h := h.2 c15
      refine r_iconst (pc := 82) d_Md_homewardAt_82 (v := 1) (by decide) ?_
      refine r_goto (pc := 83) d_Md_homewardAt_83 (tgt := 87) (by decide) ?_
      refine r_istore (pc := 87) (hd := d_Md_homewardAt_87) (hi := by decide) (ls2 := [.ref a, .int i1, .int i2, .int i3, .int i4, .int 1]) (h2 := rfl) ?_
      refine r_iload (pc := 89) d_Md_homewardAt_89 (x := 1) rfl ?_
      refine r_if_ne (pc := 91) d_Md_homewardAt_91 (tgt := 99) (by decide) (fun _ => ?_) (fun q => absurd q (by decide))
      refine r_iload_n (pc := 99) d_Md_homewardAt_99 (x := i3) rfl ?_
      refine r_iload (pc := 100) d_Md_homewardAt_100 (x := 1) rfl ?_
      refine r_if_eq (pc := 102) d_Md_homewardAt_102 (tgt := 109) (by decide) (fun q => absurd q (by decide)) (fun _ => ?_)
      refine r_iconst (pc := 105) d_Md_homewardAt_105 (v := 0) (by decide) ?_
      refine r_goto (pc := 106) d_Md_homewardAt_106 (tgt := 110) (by decide) ?_
      refine r_iadd (pc := 110) d_Md_homewardAt_110 ?_
      refine r_istore_n (pc := 111) (hk := rfl) (hd := d_Md_homewardAt_111) (hi := by decide) (ls2 := [.ref a, .int i1, .int i2, .int (i3 + (0 : Int32)), .int i4, .int 1]) (h2 := rfl) ?_
      refine r_goto (pc := 112) d_Md_homewardAt_112 (tgt := 52) (by decide) ?_
      exact h
set_option maxRecDepth 4000 in
theorem e_Md_meet {l : Launch} {d : Nat} {sh : aw_SH} {S : aw_S} {P : Int32 → aw_S → Prop} {a : Nat} {p0 : Int32} {p1 : Int32} (sa : sh[a]? = some (0, 11)) (h : Sp l m_Md_areTwo d 0 0 [.ref a, .int p0, .int p1] sh S (gI sh (fun x2 S1 => ((¬ x2 = 0 → ∃ r4, S1.2.2 a 0 = some r4 ∧ ∃ n6, sh[r4]? = some (3, n6) ∧ vp_in 0 n6 ∧ Sp l m_Md_placeOf d 0 0 [.ref a, .int p0] sh S1 (gI sh (fun x9 S8 => Sp l m_Md_placeOf d 0 0 [.ref a, .int p1] sh S8 (gI sh (fun x11 S10 => ¬ (S1.1 r4 (0 : Int32).toNatClampNeg) = 0 ∧ ∀ v12 : Int32, v12 = ((x9 - x11) + (S1.1 r4 (0 : Int32).toNatClampNeg)) - ((x9 - x11) + (S1.1 r4 (0 : Int32).toNatClampNeg)) / (S1.1 r4 (0 : Int32).toNatClampNeg) * (S1.1 r4 (0 : Int32).toNatClampNeg) → Sp l m_Ma_min d 0 0 [.int v12, .int ((S1.1 r4 (0 : Int32).toNatClampNeg) - v12)] sh S10 (gI sh (fun x14 S13 => Sp l m_Md_gives d 0 0 [.ref a, .int (x14 - (1 : Int32))] sh S13 (gI sh (fun x16 S15 => P x16 S15))))))))) ∧ (x2 = 0 → Sp l m_Md_refuse d 0 0 [.ref a, .int 1] sh S1 (gI sh (fun x19 S18 => P x19 S18))))))) : Sp l m_Md_meet (d + 1) 0 0 [.ref a, .int p0, .int p1] sh S (gI sh P) := by
  refine Sp.of k_Md_meet (ls := [.ref a, .int p0, .int p1, .null, .null]) rfl (Nat.le_of_ble_eq_true rfl) ?_
  refine r_aload_n (pc := 0) d_Md_meet_0 (x := a) rfl ?_
  refine r_iload_n (pc := 1) d_Md_meet_1 (x := p0) rfl ?_
  refine r_iload_n (pc := 2) d_Md_meet_2 (x := p1) rfl ?_
  refine r_callV (pc := 3) (k := a) (As := [.int p0, .int p1]) (rest := []) (mc' := 0) (ms' := 0) lk_Md_379 in_Md_areTwo se_Md_areTwo sa rfl d_Md_meet_3 k_Md_areTwo rfl rfl (Nat.le_of_ble_eq_true rfl) (by decide) (by decide) (Sp.mono h ?_)
  rintro rS1 shS1 S1 ⟨qS1, x2, uS1, h⟩
  subst uS1
  rw [qS1]
  refine r_if_ne (pc := 6) d_Md_meet_6 (tgt := 15) (by decide) (fun c3 => ?_) (fun c3 => ?_)
  · replace h := h.1 c3
    refine r_aload_n (pc := 15) d_Md_meet_15 (x := a) rfl ?_
    obtain ⟨r4, er4, h⟩ := h
    refine r_getR (pc := 16) d_Md_meet_16 f_Md_7 sa (Or.inr ⟨_, rfl⟩) (r := r4) er4 ?_
    refine r_iconst (pc := 19) d_Md_meet_19 (v := 0) (by decide) ?_
    obtain ⟨n6, s5, h⟩ := h
    obtain ⟨g7, h⟩ := h
    refine r_iald (pc := 20) d_Md_meet_20 s5 g7 ?_
    refine r_istore_n (pc := 21) (hk := rfl) (hd := d_Md_meet_21) (hi := by decide) (ls2 := [.ref a, .int p0, .int p1, .int (S1.1 r4 (0 : Int32).toNatClampNeg), .null]) (h2 := rfl) ?_
    refine r_aload_n (pc := 22) d_Md_meet_22 (x := a) rfl ?_
    refine r_iload_n (pc := 23) d_Md_meet_23 (x := p0) rfl ?_
    refine r_callV (pc := 24) (k := a) (As := [.int p0]) (rest := []) (mc' := 0) (ms' := 0) lk_Md_337 in_Md_placeOf se_Md_placeOf sa rfl d_Md_meet_24 k_Md_placeOf rfl rfl (Nat.le_of_ble_eq_true rfl) (by decide) (by decide) (Sp.mono h ?_)
    rintro rS8 shS8 S8 ⟨qS8, x9, uS8, h⟩
    subst uS8
    rw [qS8]
    refine r_aload_n (pc := 27) d_Md_meet_27 (x := a) rfl ?_
    refine r_iload_n (pc := 28) d_Md_meet_28 (x := p1) rfl ?_
    refine r_callV (pc := 29) (k := a) (As := [.int p1]) (rest := [.int x9]) (mc' := 0) (ms' := 0) lk_Md_337 in_Md_placeOf se_Md_placeOf sa rfl d_Md_meet_29 k_Md_placeOf rfl rfl (Nat.le_of_ble_eq_true rfl) (by decide) (by decide) (Sp.mono h ?_)
    rintro rS10 shS10 S10 ⟨qS10, x11, uS10, h⟩
    subst uS10
    rw [qS10]
    refine r_isub (pc := 32) d_Md_meet_32 ?_
    refine r_iload_n (pc := 33) d_Md_meet_33 (x := (S1.1 r4 (0 : Int32).toNatClampNeg)) rfl ?_
    refine r_iadd (pc := 34) d_Md_meet_34 ?_
    refine r_iload_n (pc := 35) d_Md_meet_35 (x := (S1.1 r4 (0 : Int32).toNatClampNeg)) rfl ?_
    obtain ⟨g17, h⟩ := h
    refine r_irem (pc := 36) d_Md_meet_36 g17 ?_
    refine r_ni (fun v12 ev12 => ?_)
    replace h := h v12 ev12
    refine r_istore (pc := 37) (hd := d_Md_meet_37) (hi := by decide) (ls2 := [.ref a, .int p0, .int p1, .int (S1.1 r4 (0 : Int32).toNatClampNeg), .int v12]) (h2 := rfl) ?_
    refine r_aload_n (pc := 39) d_Md_meet_39 (x := a) rfl ?_
    refine r_iload (pc := 40) d_Md_meet_40 (x := v12) rfl ?_
    refine r_iload_n (pc := 42) d_Md_meet_42 (x := (S1.1 r4 (0 : Int32).toNatClampNeg)) rfl ?_
    refine r_iload (pc := 43) d_Md_meet_43 (x := v12) rfl ?_
    refine r_isub (pc := 45) d_Md_meet_45 ?_
    refine r_callS (pc := 46) (k := 0) (As := [.int v12, .int ((S1.1 r4 (0 : Int32).toNatClampNeg) - v12)]) (rest := [.ref a]) (mc' := 0) (ms' := 0) lk_Md_173 st_Ma_min d_Md_meet_46 k_Ma_min rfl rfl (Nat.le_of_ble_eq_true rfl) (by decide) (by decide) (Sp.mono h ?_)
    rintro rS13 shS13 S13 ⟨qS13, x14, uS13, h⟩
    subst uS13
    rw [qS13]
    refine r_iconst (pc := 49) d_Md_meet_49 (v := 1) (by decide) ?_
    refine r_isub (pc := 50) d_Md_meet_50 ?_
    refine r_callV (pc := 51) (k := a) (As := [.int (x14 - (1 : Int32))]) (rest := []) (mc' := 0) (ms' := 0) lk_Md_122 in_Md_gives se_Md_gives sa rfl d_Md_meet_51 k_Md_gives rfl rfl (Nat.le_of_ble_eq_true rfl) (by decide) (by decide) (Sp.mono h ?_)
    rintro rS15 shS15 S15 ⟨qS15, x16, uS15, h⟩
    subst uS15
    rw [qS15]
    exact r_ireturn (pc := 54) d_Md_meet_54 rfl rfl (Nat.le_refl _) ⟨rfl, _, rfl, h⟩
  · replace h := h.2 c3
    refine r_aload_n (pc := 9) d_Md_meet_9 (x := a) rfl ?_
    refine r_iconst (pc := 10) d_Md_meet_10 (v := 1) (by decide) ?_
    refine r_callV (pc := 11) (k := a) (As := [.int 1]) (rest := []) (mc' := 0) (ms' := 0) lk_Md_118 in_Md_refuse se_Md_refuse sa rfl d_Md_meet_11 k_Md_refuse rfl rfl (Nat.le_of_ble_eq_true rfl) (by decide) (by decide) (Sp.mono h ?_)
    rintro rS18 shS18 S18 ⟨qS18, x19, uS18, h⟩
    subst uS18
    rw [qS18]
    exact r_ireturn (pc := 14) d_Md_meet_14 rfl rfl (Nat.le_refl _) ⟨rfl, _, rfl, h⟩
set_option maxRecDepth 4000 in
theorem e_Md_same {l : Launch} {d : Nat} {sh : aw_SH} {S : aw_S} {P : Int32 → aw_S → Prop} {a : Nat} {p0 : Int32} {p1 : Int32} (sa : sh[a]? = some (0, 11)) (h : Sp l m_Md_wrongDance d 0 0 [.ref a, .int p0, .int p1] sh S (gI sh (fun x2 S1 => ((x2 ≤ 0 → Sp l m_Md_laysDance d 0 0 [.ref a, .int p0, .int p1, .int (-1)] sh S1 (gV sh (fun S4 => Sp l m_Md_apartNow d 0 0 [.ref a] sh S4 (gI sh (fun x6 S5 => ((¬ x6 = 0 → Sp l m_Md_gives d 0 0 [.ref a, .int 0] sh S5 (gI sh (fun x9 S8 => P x9 S8))) ∧ (x6 = 0 → Sp l m_Md_gives d 0 0 [.ref a, .int 1] sh S5 (gI sh (fun x11 S10 => P x11 S10))))))))) ∧ (¬ x2 ≤ 0 → Sp l m_Md_refuse d 0 0 [.ref a, .int x2] sh S1 (gI sh (fun x13 S12 => P x13 S12))))))) : Sp l m_Md_same (d + 1) 0 0 [.ref a, .int p0, .int p1] sh S (gI sh P) := by
  refine Sp.of k_Md_same (ls := [.ref a, .int p0, .int p1, .null]) rfl (Nat.le_of_ble_eq_true rfl) ?_
  refine r_aload_n (pc := 0) d_Md_same_0 (x := a) rfl ?_
  refine r_iload_n (pc := 1) d_Md_same_1 (x := p0) rfl ?_
  refine r_iload_n (pc := 2) d_Md_same_2 (x := p1) rfl ?_
  refine r_callV (pc := 3) (k := a) (As := [.int p0, .int p1]) (rest := []) (mc' := 0) (ms' := 0) lk_Md_420 in_Md_wrongDance se_Md_wrongDance sa rfl d_Md_same_3 k_Md_wrongDance rfl rfl (Nat.le_of_ble_eq_true rfl) (by decide) (by decide) (Sp.mono h ?_)
  rintro rS1 shS1 S1 ⟨qS1, x2, uS1, h⟩
  subst uS1
  rw [qS1]
  refine r_istore_n (pc := 6) (hk := rfl) (hd := d_Md_same_6) (hi := by decide) (ls2 := [.ref a, .int p0, .int p1, .int x2]) (h2 := rfl) ?_
  refine r_iload_n (pc := 7) d_Md_same_7 (x := x2) rfl ?_
  refine r_if_le (pc := 8) d_Md_same_8 (tgt := 17) (by decide) (fun c3 => ?_) (fun c3 => ?_)
  · replace h := h.1 c3
    refine r_aload_n (pc := 17) d_Md_same_17 (x := a) rfl ?_
    refine r_iload_n (pc := 18) d_Md_same_18 (x := p0) rfl ?_
    refine r_iload_n (pc := 19) d_Md_same_19 (x := p1) rfl ?_
    refine r_iconst (pc := 20) d_Md_same_20 (v := (-1)) (by decide) ?_
    refine r_callV (pc := 21) (k := a) (As := [.int p0, .int p1, .int (-1)]) (rest := []) (mc' := 0) (ms' := 0) lk_Md_423 in_Md_laysDance se_Md_laysDance sa rfl d_Md_same_21 k_Md_laysDance rfl rfl (Nat.le_of_ble_eq_true rfl) (by decide) (by decide) (Sp.mono h ?_)
    rintro rS4 shS4 S4 ⟨qS4, uS4, h⟩
    subst uS4
    rw [qS4]
    refine r_aload_n (pc := 24) d_Md_same_24 (x := a) rfl ?_
    refine r_aload_n (pc := 25) d_Md_same_25 (x := a) rfl ?_
    refine r_callV (pc := 26) (k := a) (As := []) (rest := [.ref a]) (mc' := 0) (ms' := 0) lk_Md_427 in_Md_apartNow se_Md_apartNow sa rfl d_Md_same_26 k_Md_apartNow rfl rfl (Nat.le_of_ble_eq_true rfl) (by decide) (by decide) (Sp.mono h ?_)
    rintro rS5 shS5 S5 ⟨qS5, x6, uS5, h⟩
    subst uS5
    rw [qS5]
    refine r_if_ne (pc := 29) d_Md_same_29 (tgt := 36) (by decide) (fun c7 => ?_) (fun c7 => ?_)
    · replace h := h.1 c7
      refine r_iconst (pc := 36) d_Md_same_36 (v := 0) (by decide) ?_
      refine r_callV (pc := 37) (k := a) (As := [.int 0]) (rest := []) (mc' := 0) (ms' := 0) lk_Md_122 in_Md_gives se_Md_gives sa rfl d_Md_same_37 k_Md_gives rfl rfl (Nat.le_of_ble_eq_true rfl) (by decide) (by decide) (Sp.mono h ?_)
      rintro rS8 shS8 S8 ⟨qS8, x9, uS8, h⟩
      subst uS8
      rw [qS8]
      exact r_ireturn (pc := 40) d_Md_same_40 rfl rfl (Nat.le_refl _) ⟨rfl, _, rfl, h⟩
    · replace h := h.2 c7
      refine r_iconst (pc := 32) d_Md_same_32 (v := 1) (by decide) ?_
      refine r_goto (pc := 33) d_Md_same_33 (tgt := 37) (by decide) ?_
      refine r_callV (pc := 37) (k := a) (As := [.int 1]) (rest := []) (mc' := 0) (ms' := 0) lk_Md_122 in_Md_gives se_Md_gives sa rfl d_Md_same_37 k_Md_gives rfl rfl (Nat.le_of_ble_eq_true rfl) (by decide) (by decide) (Sp.mono h ?_)
      rintro rS10 shS10 S10 ⟨qS10, x11, uS10, h⟩
      subst uS10
      rw [qS10]
      exact r_ireturn (pc := 40) d_Md_same_40 rfl rfl (Nat.le_refl _) ⟨rfl, _, rfl, h⟩
  · replace h := h.2 c3
    refine r_aload_n (pc := 11) d_Md_same_11 (x := a) rfl ?_
    refine r_iload_n (pc := 12) d_Md_same_12 (x := x2) rfl ?_
    refine r_callV (pc := 13) (k := a) (As := [.int x2]) (rest := []) (mc' := 0) (ms' := 0) lk_Md_118 in_Md_refuse se_Md_refuse sa rfl d_Md_same_13 k_Md_refuse rfl rfl (Nat.le_of_ble_eq_true rfl) (by decide) (by decide) (Sp.mono h ?_)
    rintro rS12 shS12 S12 ⟨qS12, x13, uS12, h⟩
    subst uS12
    rw [qS12]
    exact r_ireturn (pc := 16) d_Md_same_16 rfl rfl (Nat.le_refl _) ⟨rfl, _, rfl, h⟩
