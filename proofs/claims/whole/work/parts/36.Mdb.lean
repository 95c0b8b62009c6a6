set_option maxRecDepth 4000 in
theorem e_Md_does {l : Launch} {d : Nat} {sh : aw_SH} {S : aw_S} {P : Int32 → aw_S → Prop} {a : Nat} {p0 : Int32} (sa : sh[a]? = some (0, 11)) (h : ∃ r1, S.2.2 a 0 = some r1 ∧ ∃ n3, sh[r1]? = some (3, n3) ∧ vp_in p0 n3 ∧ ((((S.1 r1 p0.toNatClampNeg : Int32).toInt < 3 ∨ 10 < (S.1 r1 p0.toNatClampNeg : Int32).toInt) → P 1 S) ∧ ((S.1 r1 p0.toNatClampNeg) = 3 → vp_in (p0 + (1 : Int32)) n3 ∧ vp_in (p0 + (2 : Int32)) n3 ∧ Sp l m_Md_passesBy d 0 0 [.ref a, .int (S.1 r1 (p0 + (1 : Int32) : Int32).toNatClampNeg), .int (S.1 r1 (p0 + (2 : Int32) : Int32).toNatClampNeg)] sh S (gI sh (fun x8 S7 => ((x8 = 0 ∨ x8 = 1) ∧ P x8 S7)))) ∧ ((S.1 r1 p0.toNatClampNeg) = 4 → P 1 S) ∧ ((S.1 r1 p0.toNatClampNeg) = 5 → P 1 S) ∧ ((S.1 r1 p0.toNatClampNeg) = 6 → P 1 S) ∧ ((S.1 r1 p0.toNatClampNeg) = 7 → Sp l m_Md_backBy d 0 0 [.ref a] sh S (gI sh (fun x11 S10 => ((x11 = 0 ∨ x11 = 1) ∧ P x11 S10)))) ∧ ((S.1 r1 p0.toNatClampNeg) = 8 → vp_in (p0 + (1 : Int32)) n3 ∧ Sp l m_Md_weavesBy d 0 0 [.ref a, .int (S.1 r1 (p0 + (1 : Int32) : Int32).toNatClampNeg)] sh S (gI sh (fun x15 S14 => ((x15 = 0 ∨ x15 = 1) ∧ P x15 S14)))) ∧ ((S.1 r1 p0.toNatClampNeg) = 9 → vp_in (p0 + (1 : Int32)) n3 ∧ vp_in (p0 + (2 : Int32)) n3 ∧ Sp l m_Md_paints d 0 0 [.ref a, .int (S.1 r1 (p0 + (1 : Int32) : Int32).toNatClampNeg), .int (S.1 r1 (p0 + (2 : Int32) : Int32).toNatClampNeg)] sh S (gI sh (fun x20 S19 => ((x20 = 0 ∨ x20 = 1) ∧ P x20 S19)))) ∧ ((S.1 r1 p0.toNatClampNeg) = 10 → Sp l m_Md_doesAny d 0 0 [.ref a] sh S (gI sh (fun x23 S22 => ((x23 = 0 ∨ x23 = 1) ∧ P x23 S22)))))) : Sp l m_Md_does (d + 1) 0 0 [.ref a, .int p0] sh S (gI sh P) := by
  refine Sp.of k_Md_does (ls := [.ref a, .int p0]) rfl (Nat.le_of_ble_eq_true rfl) ?_
  refine r_aload_n (pc := 0) d_Md_does_0 (x := a) rfl ?_
  obtain ⟨r1, er1, h⟩ := h
  refine r_getR (pc := 1) d_Md_does_1 f_Md_7 sa (Or.inr ⟨_, rfl⟩) (r := r1) er1 ?_
  refine r_iload_n (pc := 4) d_Md_does_4 (x := p0) rfl ?_
  obtain ⟨n3, s2, h⟩ := h
  obtain ⟨g4, h⟩ := h
  refine r_iald (pc := 5) d_Md_does_5 s2 g4 ?_
  rcases aw_sw (S.1 r1 p0.toNatClampNeg) 3 10 with q25 | ⟨kq25, q25, wq25⟩
  · refine r_tabOut (pc := 6) d_Md_does_6 q25 (tgt := 117) (by decide) ?_
    replace h := h.1 q25
    refine r_iconst (pc := 117) d_Md_does_117 (v := 1) (by decide) ?_
    exact r_zreturn (pc := 118) d_Md_does_118 (v := 1) rfl (by decide) rfl (Nat.le_refl _) ⟨rfl, _, rfl, h⟩
  · rcases (show kq25 = 0 ∨ kq25 = 1 ∨ kq25 = 2 ∨ kq25 = 3 ∨ kq25 = 4 ∨ kq25 = 5 ∨ kq25 = 6 ∨ kq25 = 7 by omega) with rfl | rfl | rfl | rfl | rfl | rfl | rfl | rfl
    · refine r_tabIn (pc := 6) d_Md_does_6 (off := 46) (by omega) (by omega) (by rw [q25]; rfl) (tgt := 52) (by decide) ?_
      replace h := h.2.1 (aw_ix (y := 3) q25 (by decide))
      refine r_aload_n (pc := 52) d_Md_does_52 (x := a) rfl ?_
      refine r_aload_n (pc := 53) d_Md_does_53 (x := a) rfl ?_
      refine r_getR (pc := 54) d_Md_does_54 f_Md_7 sa (Or.inr ⟨_, rfl⟩) (r := r1) er1 ?_
      refine r_iload_n (pc := 57) d_Md_does_57 (x := p0) rfl ?_
      refine r_iconst (pc := 58) d_Md_does_58 (v := 1) (by decide) ?_
      refine r_iadd (pc := 59) d_Md_does_59 ?_
      obtain ⟨g5, h⟩ := h
      refine r_iald (pc := 60) d_Md_does_60 s2 g5 ?_
      refine r_aload_n (pc := 61) d_Md_does_61 (x := a) rfl ?_
      refine r_getR (pc := 62) d_Md_does_62 f_Md_7 sa (Or.inr ⟨_, rfl⟩) (r := r1) er1 ?_
      refine r_iload_n (pc := 65) d_Md_does_65 (x := p0) rfl ?_
      refine r_iconst (pc := 66) d_Md_does_66 (v := 2) (by decide) ?_
      refine r_iadd (pc := 67) d_Md_does_67 ?_
      obtain ⟨g6, h⟩ := h
      refine r_iald (pc := 68) d_Md_does_68 s2 g6 ?_
      refine r_callV (pc := 69) (k := a) (As := [.int (S.1 r1 (p0 + (1 : Int32) : Int32).toNatClampNeg), .int (S.1 r1 (p0 + (2 : Int32) : Int32).toNatClampNeg)]) (rest := []) (mc' := 0) (ms' := 0) lk_Md_490 in_Md_passesBy se_Md_passesBy sa rfl d_Md_does_69 k_Md_passesBy rfl rfl (Nat.le_of_ble_eq_true rfl) (by decide) (by decide) (Sp.mono h ?_)
      rintro rS7 shS7 S7 ⟨qS7, x8, uS7, h⟩
      subst uS7
      rw [qS7]
      obtain ⟨g9, h⟩ := h
      exact r_zreturn (pc := 72) d_Md_does_72 rfl (aw_nb g9) rfl (Nat.le_refl _) ⟨rfl, _, rfl, h⟩
    · refine r_tabIn (pc := 6) d_Md_does_6 (off := 111) (by omega) (by omega) (by rw [q25]; rfl) (tgt := 117) (by decide) ?_
      replace h := h.2.2.1 (aw_ix (y := 4) q25 (by decide))
      refine r_iconst (pc := 117) d_Md_does_117 (v := 1) (by decide) ?_
      exact r_zreturn (pc := 118) d_Md_does_118 (v := 1) rfl (by decide) rfl (Nat.le_refl _) ⟨rfl, _, rfl, h⟩
    · refine r_tabIn (pc := 6) d_Md_does_6 (off := 111) (by omega) (by omega) (by rw [q25]; rfl) (tgt := 117) (by decide) ?_
      replace h := h.2.2.2.1 (aw_ix (y := 5) q25 (by decide))
      refine r_iconst (pc := 117) d_Md_does_117 (v := 1) (by decide) ?_
      exact r_zreturn (pc := 118) d_Md_does_118 (v := 1) rfl (by decide) rfl (Nat.le_refl _) ⟨rfl, _, rfl, h⟩
    · refine r_tabIn (pc := 6) d_Md_does_6 (off := 111) (by omega) (by omega) (by rw [q25]; rfl) (tgt := 117) (by decide) ?_
      replace h := h.2.2.2.2.1 (aw_ix (y := 6) q25 (by decide))
      refine r_iconst (pc := 117) d_Md_does_117 (v := 1) (by decide) ?_
      exact r_zreturn (pc := 118) d_Md_does_118 (v := 1) rfl (by decide) rfl (Nat.le_refl _) ⟨rfl, _, rfl, h⟩
    · refine r_tabIn (pc := 6) d_Md_does_6 (off := 67) (by omega) (by omega) (by rw [q25]; rfl) (tgt := 73) (by decide) ?_
      replace h := h.2.2.2.2.2.1 (aw_ix (y := 7) q25 (by decide))
      refine r_aload_n (pc := 73) d_Md_does_73 (x := a) rfl ?_
      refine r_callV (pc := 74) (k := a) (As := []) (rest := []) (mc' := 0) (ms' := 0) lk_Md_493 in_Md_backBy se_Md_backBy sa rfl d_Md_does_74 k_Md_backBy rfl rfl (Nat.le_of_ble_eq_true rfl) (by decide) (by decide) (Sp.mono h ?_)
      rintro rS10 shS10 S10 ⟨qS10, x11, uS10, h⟩
      subst uS10
      rw [qS10]
      obtain ⟨g12, h⟩ := h
      exact r_zreturn (pc := 77) d_Md_does_77 rfl (aw_nb g12) rfl (Nat.le_refl _) ⟨rfl, _, rfl, h⟩
    · refine r_tabIn (pc := 6) d_Md_does_6 (off := 72) (by omega) (by omega) (by rw [q25]; rfl) (tgt := 78) (by decide) ?_
      replace h := h.2.2.2.2.2.2.1 (aw_ix (y := 8) q25 (by decide))
      refine r_aload_n (pc := 78) d_Md_does_78 (x := a) rfl ?_
      refine r_aload_n (pc := 79) d_Md_does_79 (x := a) rfl ?_
      refine r_getR (pc := 80) d_Md_does_80 f_Md_7 sa (Or.inr ⟨_, rfl⟩) (r := r1) er1 ?_
      refine r_iload_n (pc := 83) d_Md_does_83 (x := p0) rfl ?_
      refine r_iconst (pc := 84) d_Md_does_84 (v := 1) (by decide) ?_
      refine r_iadd (pc := 85) d_Md_does_85 ?_
      obtain ⟨g13, h⟩ := h
      refine r_iald (pc := 86) d_Md_does_86 s2 g13 ?_
      refine r_callV (pc := 87) (k := a) (As := [.int (S.1 r1 (p0 + (1 : Int32) : Int32).toNatClampNeg)]) (rest := []) (mc' := 0) (ms' := 0) lk_Md_496 in_Md_weavesBy se_Md_weavesBy sa rfl d_Md_does_87 k_Md_weavesBy rfl rfl (Nat.le_of_ble_eq_true rfl) (by decide) (by decide) (Sp.mono h ?_)
      rintro rS14 shS14 S14 ⟨qS14, x15, uS14, h⟩
      subst uS14
      rw [qS14]
      obtain ⟨g16, h⟩ := h
      exact r_zreturn (pc := 90) d_Md_does_90 rfl (aw_nb g16) rfl (Nat.le_refl _) ⟨rfl, _, rfl, h⟩
    · refine r_tabIn (pc := 6) d_Md_does_6 (off := 85) (by omega) (by omega) (by rw [q25]; rfl) (tgt := 91) (by decide) ?_
      replace h := h.2.2.2.2.2.2.2.1 (aw_ix (y := 9) q25 (by decide))
      refine r_aload_n (pc := 91) d_Md_does_91 (x := a) rfl ?_
      refine r_aload_n (pc := 92) d_Md_does_92 (x := a) rfl ?_
      refine r_getR (pc := 93) d_Md_does_93 f_Md_7 sa (Or.inr ⟨_, rfl⟩) (r := r1) er1 ?_
      refine r_iload_n (pc := 96) d_Md_does_96 (x := p0) rfl ?_
      refine r_iconst (pc := 97) d_Md_does_97 (v := 1) (by decide) ?_
      refine r_iadd (pc := 98) d_Md_does_98 ?_
      obtain ⟨g17, h⟩ := h
      refine r_iald (pc := 99) d_Md_does_99 s2 g17 ?_
      refine r_aload_n (pc := 100) d_Md_does_100 (x := a) rfl ?_
      refine r_getR (pc := 101) d_Md_does_101 f_Md_7 sa (Or.inr ⟨_, rfl⟩) (r := r1) er1 ?_
      refine r_iload_n (pc := 104) d_Md_does_104 (x := p0) rfl ?_
      refine r_iconst (pc := 105) d_Md_does_105 (v := 2) (by decide) ?_
      refine r_iadd (pc := 106) d_Md_does_106 ?_
      obtain ⟨g18, h⟩ := h
      refine r_iald (pc := 107) d_Md_does_107 s2 g18 ?_
      refine r_callV (pc := 108) (k := a) (As := [.int (S.1 r1 (p0 + (1 : Int32) : Int32).toNatClampNeg), .int (S.1 r1 (p0 + (2 : Int32) : Int32).toNatClampNeg)]) (rest := []) (mc' := 0) (ms' := 0) lk_Md_376 in_Md_paints se_Md_paints sa rfl d_Md_does_108 k_Md_paints rfl rfl (Nat.le_of_ble_eq_true rfl) (by decide) (by decide) (Sp.mono h ?_)
      rintro rS19 shS19 S19 ⟨qS19, x20, uS19, h⟩
      subst uS19
      rw [qS19]
      obtain ⟨g21, h⟩ := h
      exact r_zreturn (pc := 111) d_Md_does_111 rfl (aw_nb g21) rfl (Nat.le_refl _) ⟨rfl, _, rfl, h⟩
    · refine r_tabIn (pc := 6) d_Md_does_6 (off := 106) (by omega) (by omega) (by rw [q25]; rfl) (tgt := 112) (by decide) ?_
      replace h := h.2.2.2.2.2.2.2.2 (aw_ix (y := 10) q25 (by decide))
      refine r_aload_n (pc := 112) d_Md_does_112 (x := a) rfl ?_
      refine r_callV (pc := 113) (k := a) (As := []) (rest := []) (mc' := 0) (ms' := 0) lk_Md_499 in_Md_doesAny se_Md_doesAny sa rfl d_Md_does_113 k_Md_doesAny rfl rfl (Nat.le_of_ble_eq_true rfl) (by decide) (by decide) (Sp.mono h ?_)
      rintro rS22 shS22 S22 ⟨qS22, x23, uS22, h⟩
      subst uS22
      rw [qS22]
      obtain ⟨g24, h⟩ := h
      exact r_zreturn (pc := 116) d_Md_does_116 rfl (aw_nb g24) rfl (Nat.le_refl _) ⟨rfl, _, rfl, h⟩
set_option maxRecDepth 4000 in
theorem e_Md_passesBy {l : Launch} {d : Nat} {sh : aw_SH} {S : aw_S} {P : Int32 → aw_S → Prop} {a : Nat} {p0 : Int32} {p1 : Int32} (sa : sh[a]? = some (0, 11)) (h : Sp l m_Md_danced d 0 0 [.ref a, .int p0, .int p1] sh S (gI sh (fun x2 S1 => ((¬ x2 = 0 → ∃ r4, S1.2.2 a 48 = some r4 ∧ ∃ n6, sh[r4]? = some (3, n6) ∧ vp_in 1 n6 ∧ vp_in 1 n6 ∧ vp_in ((1 : Int32) + x2) n6 ∧ vp_in ((1 : Int32) + x2) n6 ∧ P 1 (aw_uI (aw_uI S1 r4 ((1 : Int32).toNatClampNeg) ((S1.1 r4 (1 : Int32).toNatClampNeg) + (1 : Int32))) r4 (((1 : Int32) + x2 : Int32).toNatClampNeg) (((aw_uI S1 r4 ((1 : Int32).toNatClampNeg) ((S1.1 r4 (1 : Int32).toNatClampNeg) + (1 : Int32))).1 r4 ((1 : Int32) + x2 : Int32).toNatClampNeg) + (1 : Int32)))) ∧ (x2 = 0 → P 0 S1))))) : Sp l m_Md_passesBy (d + 1) 0 0 [.ref a, .int p0, .int p1] sh S (gI sh P) := by
  refine Sp.of k_Md_passesBy (ls := [.ref a, .int p0, .int p1, .null]) rfl (Nat.le_of_ble_eq_true rfl) ?_
  refine r_aload_n (pc := 0) d_Md_passesBy_0 (x := a) rfl ?_
  refine r_iload_n (pc := 1) d_Md_passesBy_1 (x := p0) rfl ?_
  refine r_iload_n (pc := 2) d_Md_passesBy_2 (x := p1) rfl ?_
  refine r_callV (pc := 3) (k := a) (As := [.int p0, .int p1]) (rest := []) (mc' := 0) (ms' := 0) lk_Md_352 in_Md_danced se_Md_danced sa rfl d_Md_passesBy_3 k_Md_danced rfl rfl (Nat.le_of_ble_eq_true rfl) (by decide) (by decide) (Sp.mono h ?_)
  rintro rS1 shS1 S1 ⟨qS1, x2, uS1, h⟩
  subst uS1
  rw [qS1]
  refine r_istore_n (pc := 6) (hk := rfl) (hd := d_Md_passesBy_6) (hi := by decide) (ls2 := [.ref a, .int p0, .int p1, .int x2]) (h2 := rfl) ?_
  refine r_iload_n (pc := 7) d_Md_passesBy_7 (x := x2) rfl ?_
  refine r_if_ne (pc := 8) d_Md_passesBy_8 (tgt := 13) (by decide) (fun c3 => ?_) (fun c3 => ?_)
  · replace h := h.1 c3
    refine r_aload_n (pc := 13) d_Md_passesBy_13 (x := a) rfl ?_
    obtain ⟨r4, er4, h⟩ := h
    refine r_getR (pc := 14) d_Md_passesBy_14 f_Md_102 sa (Or.inr ⟨_, rfl⟩) (r := r4) er4 ?_
    refine r_iconst (pc := 17) d_Md_passesBy_17 (v := 1) (by decide) ?_
    refine r_dup2 (pc := 18) d_Md_passesBy_18 rfl rfl ?_
    obtain ⟨n6, s5, h⟩ := h
    obtain ⟨g7, h⟩ := h
    refine r_iald (pc := 19) d_Md_passesBy_19 s5 g7 ?_
    refine r_iconst (pc := 20) d_Md_passesBy_20 (v := 1) (by decide) ?_
    refine r_iadd (pc := 21) d_Md_passesBy_21 ?_
    obtain ⟨g8, h⟩ := h
    refine r_iast (pc := 22) d_Md_passesBy_22 s5 g8 ?_
    refine r_aload_n (pc := 23) d_Md_passesBy_23 (x := a) rfl ?_
    refine r_getR (pc := 24) d_Md_passesBy_24 f_Md_102 sa (Or.inr ⟨_, rfl⟩) (r := r4) er4 ?_
    refine r_iconst (pc := 27) d_Md_passesBy_27 (v := 1) (by decide) ?_
    refine r_iload_n (pc := 28) d_Md_passesBy_28 (x := x2) rfl ?_
    refine r_iadd (pc := 29) d_Md_passesBy_29 ?_
    refine r_dup2 (pc := 30) d_Md_passesBy_30 rfl rfl ?_
    obtain ⟨g9, h⟩ := h
    refine r_iald (pc := 31) d_Md_passesBy_31 s5 g9 ?_
    refine r_iconst (pc := 32) d_Md_passesBy_32 (v := 1) (by decide) ?_
    refine r_iadd (pc := 33) d_Md_passesBy_33 ?_
    obtain ⟨g10, h⟩ := h
    refine r_iast (pc := 34) d_Md_passesBy_34 s5 g10 ?_
    refine r_iconst (pc := 35) d_Md_passesBy_35 (v := 1) (by decide) ?_
    exact r_zreturn (pc := 36) d_Md_passesBy_36 (v := 1) rfl (by decide) rfl (Nat.le_refl _) ⟨rfl, _, rfl, h⟩
  · replace h := h.2 c3
    refine r_iconst (pc := 11) d_Md_passesBy_11 (v := 0) (by decide) ?_
    exact r_zreturn (pc := 12) d_Md_passesBy_12 (v := 0) rfl (by decide) rfl (Nat.le_refl _) ⟨rfl, _, rfl, h⟩
set_option maxRecDepth 4000 in
theorem e_Md_backBy {l : Launch} {d : Nat} {sh : aw_SH} {S : aw_S} {P : Int32 → aw_S → Prop} {a : Nat} (sa : sh[a]? = some (0, 11)) (h : Sp l m_Md_undoes d 0 0 [.ref a] sh S (gI sh (fun x2 S1 => ((¬ x2 = 0 → ∃ r4, S1.2.2 a 48 = some r4 ∧ ∃ n6, sh[r4]? = some (3, n6) ∧ vp_in 1 n6 ∧ vp_in 1 n6 ∧ vp_in 3 n6 ∧ vp_in 3 n6 ∧ P 1 (aw_uI (aw_uI S1 r4 ((1 : Int32).toNatClampNeg) ((S1.1 r4 (1 : Int32).toNatClampNeg) + (1 : Int32))) r4 ((3 : Int32).toNatClampNeg) (((aw_uI S1 r4 ((1 : Int32).toNatClampNeg) ((S1.1 r4 (1 : Int32).toNatClampNeg) + (1 : Int32))).1 r4 (3 : Int32).toNatClampNeg) + (1 : Int32)))) ∧ (x2 = 0 → P 0 S1))))) : Sp l m_Md_backBy (d + 1) 0 0 [.ref a] sh S (gI sh P) := by
  refine Sp.of k_Md_backBy (ls := [.ref a]) rfl (Nat.le_of_ble_eq_true rfl) ?_
  refine r_aload_n (pc := 0) d_Md_backBy_0 (x := a) rfl ?_
  refine r_callV (pc := 1) (k := a) (As := []) (rest := []) (mc' := 0) (ms' := 0) lk_Md_355 in_Md_undoes se_Md_undoes sa rfl d_Md_backBy_1 k_Md_undoes rfl rfl (Nat.le_of_ble_eq_true rfl) (by decide) (by decide) (Sp.mono h ?_)
  rintro rS1 shS1 S1 ⟨qS1, x2, uS1, h⟩
  subst uS1
  rw [qS1]
  refine r_if_ne (pc := 4) d_Md_backBy_4 (tgt := 9) (by decide) (fun c3 => ?_) (fun c3 => ?_)
  · replace h := h.1 c3
    refine r_aload_n (pc := 9) d_Md_backBy_9 (x := a) rfl ?_
    obtain ⟨r4, er4, h⟩ := h
    refine r_getR (pc := 10) d_Md_backBy_10 f_Md_102 sa (Or.inr ⟨_, rfl⟩) (r := r4) er4 ?_
    refine r_iconst (pc := 13) d_Md_backBy_13 (v := 1) (by decide) ?_
    refine r_dup2 (pc := 14) d_Md_backBy_14 rfl rfl ?_
    obtain ⟨n6, s5, h⟩ := h
    obtain ⟨g7, h⟩ := h
    refine r_iald (pc := 15) d_Md_backBy_15 s5 g7 ?_
    refine r_iconst (pc := 16) d_Md_backBy_16 (v := 1) (by decide) ?_
    refine r_iadd (pc := 17) d_Md_backBy_17 ?_
    obtain ⟨g8, h⟩ := h
    refine r_iast (pc := 18) d_Md_backBy_18 s5 g8 ?_
    refine r_aload_n (pc := 19) d_Md_backBy_19 (x := a) rfl ?_
    refine r_getR (pc := 20) d_Md_backBy_20 f_Md_102 sa (Or.inr ⟨_, rfl⟩) (r := r4) er4 ?_
    refine r_iconst (pc := 23) d_Md_backBy_23 (v := 3) (by decide) ?_
    refine r_dup2 (pc := 24) d_Md_backBy_24 rfl rfl ?_
    obtain ⟨g9, h⟩ := h
    refine r_iald (pc := 25) d_Md_backBy_25 s5 g9 ?_
    refine r_iconst (pc := 26) d_Md_backBy_26 (v := 1) (by decide) ?_
    refine r_iadd (pc := 27) d_Md_backBy_27 ?_
    obtain ⟨g10, h⟩ := h
    refine r_iast (pc := 28) d_Md_backBy_28 s5 g10 ?_
    refine r_iconst (pc := 29) d_Md_backBy_29 (v := 1) (by decide) ?_
    exact r_zreturn (pc := 30) d_Md_backBy_30 (v := 1) rfl (by decide) rfl (Nat.le_refl _) ⟨rfl, _, rfl, h⟩
  · replace h := h.2 c3
    refine r_iconst (pc := 7) d_Md_backBy_7 (v := 0) (by decide) ?_
    exact r_zreturn (pc := 8) d_Md_backBy_8 (v := 0) rfl (by decide) rfl (Nat.le_refl _) ⟨rfl, _, rfl, h⟩
set_option maxRecDepth 4000 in
theorem e_Md_weavesBy {l : Launch} {d : Nat} {sh : aw_SH} {S : aw_S} {P : Int32 → aw_S → Prop} {a : Nat} {p0 : Int32} (sa : sh[a]? = some (0, 11)) (h : AW l m_Md_weavesBy (d + 1) 0 0 (gI sh P) 0 0 4 [.ref a, .int p0, .int 0, .int 0] [] sh S) : Sp l m_Md_weavesBy (d + 1) 0 0 [.ref a, .int p0] sh S (gI sh P) := by
  refine Sp.of k_Md_weavesBy (ls := [.ref a, .int p0, .null, .null]) rfl (Nat.le_of_ble_eq_true rfl) ?_
  refine r_iconst (pc := 0) d_Md_weavesBy_0 (v := 0) (by decide) ?_
  refine r_istore_n (pc := 1) (hk := rfl) (hd := d_Md_weavesBy_1) (hi := by decide) (ls2 := [.ref a, .int p0, .int 0, .null]) (h2 := rfl) ?_
  refine r_iconst (pc := 2) d_Md_weavesBy_2 (v := 0) (by decide) ?_
  refine r_istore_n (pc := 3) (hk := rfl) (hd := d_Md_weavesBy_3) (hi := by decide) (ls2 := [.ref a, .int p0, .int 0, .int 0]) (h2 := rfl) ?_
  exact h
set_option maxRecDepth 4000 in
theorem s_Md_weavesBy_4 {l : Launch} {d : Nat} {sh : aw_SH} {S : aw_S} {P : Int32 → aw_S → Prop} {a : Nat} {i1 : Int32} {i2 : Int32} {i3 : Int32} (sa : sh[a]? = some (0, 11)) (h : ((i1 ≤ i3 → ∃ r2, S.2.2 a 48 = some r2 ∧ ∃ n4, sh[r2]? = some (3, n4) ∧ vp_in 1 n4 ∧ vp_in 1 n4 ∧ ((i2 ≤ 0 → P 0 (aw_uI S r2 ((1 : Int32).toNatClampNeg) ((S.1 r2 (1 : Int32).toNatClampNeg) + i2))) ∧ (¬ i2 ≤ 0 → P 1 (aw_uI S r2 ((1 : Int32).toNatClampNeg) ((S.1 r2 (1 : Int32).toNatClampNeg) + i2))))) ∧ (¬ i1 ≤ i3 → Sp l m_Md_weaving d 0 0 [.ref a] sh S (gI sh (fun x9 S8 => ∃ r10, S8.2.2 a 48 = some r10 ∧ ∃ n12, sh[r10]? = some (3, n12) ∧ vp_in 2 n12 ∧ vp_in 2 n12 ∧ vp_in 3 n12 ∧ vp_in 3 n12 ∧ AW l m_Md_weavesBy (d + 1) 0 0 (gI sh P) 0 0 4 [.ref a, .int i1, .int (i2 + x9), .int (i3 + 1)] [] sh (aw_uI (aw_uI S8 r10 ((2 : Int32).toNatClampNeg) ((S8.1 r10 (2 : Int32).toNatClampNeg) + (S8.1 a 26))) r10 ((3 : Int32).toNatClampNeg) (((aw_uI S8 r10 ((2 : Int32).toNatClampNeg) ((S8.1 r10 (2 : Int32).toNatClampNeg) + (S8.1 a 26))).1 r10 (3 : Int32).toNatClampNeg) + ((aw_uI S8 r10 ((2 : Int32).toNatClampNeg) ((S8.1 r10 (2 : Int32).toNatClampNeg) + (S8.1 a 26))).1 a 27)))))))) : AW l m_Md_weavesBy (d + 1) 0 0 (gI sh P) 0 0 4 [.ref a, .int i1, .int i2, .int i3] [] sh S := by
  refine r_iload_n (pc := 4) d_Md_weavesBy_4 (x := i3) rfl ?_
  refine r_iload_n (pc := 5) d_Md_weavesBy_5 (x := i1) rfl ?_
  refine r_icmp_ge (pc := 6) d_Md_weavesBy_6 (tgt := 48) (by decide) (fun c1 => ?_) (fun c1 => ?_)
  · replace h := h.1 c1
    refine r_aload_n (pc := 48) d_Md_weavesBy_48 (x := a) rfl ?_
    obtain ⟨r2, er2, h⟩ := h
    refine r_getR (pc := 49) d_Md_weavesBy_49 f_Md_102 sa (Or.inr ⟨_, rfl⟩) (r := r2) er2 ?_
    refine r_iconst (pc := 52) d_Md_weavesBy_52 (v := 1) (by decide) ?_
    refine r_dup2 (pc := 53) d_Md_weavesBy_53 rfl rfl ?_
    obtain ⟨n4, s3, h⟩ := h
    obtain ⟨g5, h⟩ := h
    refine r_iald (pc := 54) d_Md_weavesBy_54 s3 g5 ?_
    refine r_iload_n (pc := 55) d_Md_weavesBy_55 (x := i2) rfl ?_
    refine r_iadd (pc := 56) d_Md_weavesBy_56 ?_
    obtain ⟨g6, h⟩ := h
    refine r_iast (pc := 57) d_Md_weavesBy_57 s3 g6 ?_
    refine r_iload_n (pc := 58) d_Md_weavesBy_58 (x := i2) rfl ?_
    refine r_if_le (pc := 59) d_Md_weavesBy_59 (tgt := 66) (by decide) (fun c7 => ?_) (fun c7 => ?_)
    · replace h := h.1 c7
      refine r_iconst (pc := 66) d_Md_weavesBy_66 (v := 0) (by decide) ?_
      exact r_zreturn (pc := 67) d_Md_weavesBy_67 (v := 0) rfl (by decide) rfl (Nat.le_refl _) ⟨rfl, _, rfl, h⟩
    · replace h := h.2 c7
      refine r_iconst (pc := 62) d_Md_weavesBy_62 (v := 1) (by decide) ?_
      refine r_goto (pc := 63) d_Md_weavesBy_63 (tgt := 67) (by decide) ?_
      exact r_zreturn (pc := 67) d_Md_weavesBy_67 (v := 1) rfl (by decide) rfl (Nat.le_refl _) ⟨rfl, _, rfl, h⟩
  · replace h := h.2 c1
    refine r_iload_n (pc := 9) d_Md_weavesBy_9 (x := i2) rfl ?_
    refine r_aload_n (pc := 10) d_Md_weavesBy_10 (x := a) rfl ?_
    refine r_callV (pc := 11) (k := a) (As := []) (rest := [.int i2]) (mc' := 0) (ms' := 0) lk_Md_367 in_Md_weaving se_Md_weaving sa rfl d_Md_weavesBy_11 k_Md_weaving rfl rfl (Nat.le_of_ble_eq_true rfl) (by decide) (by decide) (Sp.mono h ?_)
    rintro rS8 shS8 S8 ⟨qS8, x9, uS8, h⟩
    subst uS8
    rw [qS8]
    refine r_iadd (pc := 14) d_Md_weavesBy_14 ?_
    refine r_istore_n (pc := 15) (hk := rfl) (hd := d_Md_weavesBy_15) (hi := by decide) (ls2 := [.ref a, .int i1, .int (i2 + x9), .int i3]) (h2 := rfl) ?_
    refine r_aload_n (pc := 16) d_Md_weavesBy_16 (x := a) rfl ?_
    obtain ⟨r10, er10, h⟩ := h
    refine r_getR (pc := 17) d_Md_weavesBy_17 f_Md_102 sa (Or.inr ⟨_, rfl⟩) (r := r10) er10 ?_
    refine r_iconst (pc := 20) d_Md_weavesBy_20 (v := 2) (by decide) ?_
    refine r_dup2 (pc := 21) d_Md_weavesBy_21 rfl rfl ?_
    obtain ⟨n12, s11, h⟩ := h
    obtain ⟨g13, h⟩ := h
    refine r_iald (pc := 22) d_Md_weavesBy_22 s11 g13 ?_
    refine r_aload_n (pc := 23) d_Md_weavesBy_23 (x := a) rfl ?_
    refine r_getI (pc := 24) d_Md_weavesBy_24 f_Md_358 sa rfl ?_
    refine r_iadd (pc := 27) d_Md_weavesBy_27 ?_
    obtain ⟨g14, h⟩ := h
    refine r_iast (pc := 28) d_Md_weavesBy_28 s11 g14 ?_
    refine r_aload_n (pc := 29) d_Md_weavesBy_29 (x := a) rfl ?_
    refine r_getR (pc := 30) d_Md_weavesBy_30 f_Md_102 sa (Or.inr ⟨_, rfl⟩) (r := r10) er10 ?_
    refine r_iconst (pc := 33) d_Md_weavesBy_33 (v := 3) (by decide) ?_
    refine r_dup2 (pc := 34) d_Md_weavesBy_34 rfl rfl ?_
    obtain ⟨g15, h⟩ := h
    refine r_iald (pc := 35) d_Md_weavesBy_35 s11 g15 ?_
    refine r_aload_n (pc := 36) d_Md_weavesBy_36 (x := a) rfl ?_
    refine r_getI (pc := 37) d_Md_weavesBy_37 f_Md_361 sa rfl ?_
    refine r_iadd (pc := 40) d_Md_weavesBy_40 ?_
    obtain ⟨g16, h⟩ := h
    refine r_iast (pc := 41) d_Md_weavesBy_41 s11 g16 ?_
    refine r_iinc (pc := 42) d_Md_weavesBy_42 (hi := by decide) (x := i3) rfl (v := i3 + 1) rfl (ls2 := [.ref a, .int i1, .int (i2 + x9), .int (i3 + 1)]) rfl ?_
    refine r_goto (pc := 45) d_Md_weavesBy_45 (tgt := 4) (by decide) ?_
    exact h
set_option maxRecDepth 4000 in
theorem e_Md_doesAny {l : Launch} {d : Nat} {sh : aw_SH} {S : aw_S} {P : Int32 → aw_S → Prop} {a : Nat} (sa : sh[a]? = some (0, 11)) (h : Sp l m_Md_gapsOf d 0 0 [.ref a, .int 0] sh S (gI sh (fun x2 S1 => ((¬ x2 = 0 → Sp l m_Md_gapsOf d 0 0 [.ref a, .int 0] sh S1 (gI sh (fun x5 S4 => Sp l m_Md_draw d 0 0 [.ref a, .int x5] sh S4 (gI sh (fun x7 S6 => Sp l m_Md_draw d 0 0 [.ref a, .int 2] sh S6 (gI sh (fun x9 S8 => Sp l m_Md_draw d 0 0 [.ref a, .int 16] sh S8 (gI sh (fun x11 S10 => ∃ r12, S10.2.2 a 0 = some r12 ∧ ∃ n14, sh[r12]? = some (3, n14) ∧ vp_in 1 n14 ∧ (((S10.1 r12 (1 : Int32).toNatClampNeg) ≤ x11 → Sp l m_Md_passesBy d 0 0 [.ref a, .int x7, .int x9] sh S10 (gI sh (fun x18 S17 => ((x18 = 0 ∨ x18 = 1) ∧ P x18 S17)))) ∧ (¬ (S10.1 r12 (1 : Int32).toNatClampNeg) ≤ x11 → Sp l m_Md_passesBy d 0 0 [.ref a, .int x7, .int ((1 : Int32) - x9)] sh S10 (gI sh (fun x21 S20 => ((x21 = 0 ∨ x21 = 1) ∧ P x21 S20)))))))))))))) ∧ (x2 = 0 → P 0 S1))))) : Sp l m_Md_doesAny (d + 1) 0 0 [.ref a] sh S (gI sh P) := by
  refine Sp.of k_Md_doesAny (ls := [.ref a, .null, .null]) rfl (Nat.le_of_ble_eq_true rfl) ?_
  refine r_aload_n (pc := 0) d_Md_doesAny_0 (x := a) rfl ?_
  refine r_iconst (pc := 1) d_Md_doesAny_1 (v := 0) (by decide) ?_
  refine r_callV (pc := 2) (k := a) (As := [.int 0]) (rest := []) (mc' := 0) (ms' := 0) lk_Md_260 in_Md_gapsOf se_Md_gapsOf sa rfl d_Md_doesAny_2 k_Md_gapsOf rfl rfl (Nat.le_of_ble_eq_true rfl) (by decide) (by decide) (Sp.mono h ?_)
  rintro rS1 shS1 S1 ⟨qS1, x2, uS1, h⟩
  subst uS1
  rw [qS1]
  refine r_if_ne (pc := 5) d_Md_doesAny_5 (tgt := 10) (by decide) (fun c3 => ?_) (fun c3 => ?_)
  · replace h := h.1 c3
    refine r_aload_n (pc := 10) d_Md_doesAny_10 (x := a) rfl ?_
    refine r_aload_n (pc := 11) d_Md_doesAny_11 (x := a) rfl ?_
    refine r_iconst (pc := 12) d_Md_doesAny_12 (v := 0) (by decide) ?_
    refine r_callV (pc := 13) (k := a) (As := [.int 0]) (rest := [.ref a]) (mc' := 0) (ms' := 0) lk_Md_260 in_Md_gapsOf se_Md_gapsOf sa rfl d_Md_doesAny_13 k_Md_gapsOf rfl rfl (Nat.le_of_ble_eq_true rfl) (by decide) (by decide) (Sp.mono h ?_)
    rintro rS4 shS4 S4 ⟨qS4, x5, uS4, h⟩
    subst uS4
    rw [qS4]
    refine r_callV (pc := 16) (k := a) (As := [.int x5]) (rest := []) (mc' := 0) (ms' := 0) lk_Md_487 in_Md_draw se_Md_draw sa rfl d_Md_doesAny_16 k_Md_draw rfl rfl (Nat.le_of_ble_eq_true rfl) (by decide) (by decide) (Sp.mono h ?_)
    rintro rS6 shS6 S6 ⟨qS6, x7, uS6, h⟩
    subst uS6
    rw [qS6]
    refine r_istore_n (pc := 19) (hk := rfl) (hd := d_Md_doesAny_19) (hi := by decide) (ls2 := [.ref a, .int x7, .null]) (h2 := rfl) ?_
    refine r_aload_n (pc := 20) d_Md_doesAny_20 (x := a) rfl ?_
    refine r_iconst (pc := 21) d_Md_doesAny_21 (v := 2) (by decide) ?_
    refine r_callV (pc := 22) (k := a) (As := [.int 2]) (rest := []) (mc' := 0) (ms' := 0) lk_Md_487 in_Md_draw se_Md_draw sa rfl d_Md_doesAny_22 k_Md_draw rfl rfl (Nat.le_of_ble_eq_true rfl) (by decide) (by decide) (Sp.mono h ?_)
    rintro rS8 shS8 S8 ⟨qS8, x9, uS8, h⟩
    subst uS8
    rw [qS8]
    refine r_istore_n (pc := 25) (hk := rfl) (hd := d_Md_doesAny_25) (hi := by decide) (ls2 := [.ref a, .int x7, .int x9]) (h2 := rfl) ?_
    refine r_aload_n (pc := 26) d_Md_doesAny_26 (x := a) rfl ?_
    refine r_iload_n (pc := 27) d_Md_doesAny_27 (x := x7) rfl ?_
    refine r_aload_n (pc := 28) d_Md_doesAny_28 (x := a) rfl ?_
    refine r_bipush (pc := 29) d_Md_doesAny_29 (v := 16) (by decide) ?_
    refine r_callV (pc := 31) (k := a) (As := [.int 16]) (rest := [.int x7, .ref a]) (mc' := 0) (ms' := 0) lk_Md_487 in_Md_draw se_Md_draw sa rfl d_Md_doesAny_31 k_Md_draw rfl rfl (Nat.le_of_ble_eq_true rfl) (by decide) (by decide) (Sp.mono h ?_)
    rintro rS10 shS10 S10 ⟨qS10, x11, uS10, h⟩
    subst uS10
    rw [qS10]
    refine r_aload_n (pc := 34) d_Md_doesAny_34 (x := a) rfl ?_
    obtain ⟨r12, er12, h⟩ := h
    refine r_getR (pc := 35) d_Md_doesAny_35 f_Md_7 sa (Or.inr ⟨_, rfl⟩) (r := r12) er12 ?_
    refine r_iconst (pc := 38) d_Md_doesAny_38 (v := 1) (by decide) ?_
    obtain ⟨n14, s13, h⟩ := h
    obtain ⟨g15, h⟩ := h
    refine r_iald (pc := 39) d_Md_doesAny_39 s13 g15 ?_
    refine r_icmp_ge (pc := 40) d_Md_doesAny_40 (tgt := 49) (by decide) (fun c16 => ?_) (fun c16 => ?_)
    · replace h := h.1 c16
      refine r_iload_n (pc := 49) d_Md_doesAny_49 (x := x9) rfl ?_
      refine r_callV (pc := 50) (k := a) (As := [.int x7, .int x9]) (rest := []) (mc' := 0) (ms' := 0) lk_Md_490 in_Md_passesBy se_Md_passesBy sa rfl d_Md_doesAny_50 k_Md_passesBy rfl rfl (Nat.le_of_ble_eq_true rfl) (by decide) (by decide) (Sp.mono h ?_)
      rintro rS17 shS17 S17 ⟨qS17, x18, uS17, h⟩
      subst uS17
      rw [qS17]
      obtain ⟨g19, h⟩ := h
      exact r_zreturn (pc := 53) d_Md_doesAny_53 rfl (aw_nb g19) rfl (Nat.le_refl _) ⟨rfl, _, rfl, h⟩
    · replace h := h.2 c16
      refine r_iconst (pc := 43) d_Md_doesAny_43 (v := 1) (by decide) ?_
      refine r_iload_n (pc := 44) d_Md_doesAny_44 (x := x9) rfl ?_
      refine r_isub (pc := 45) d_Md_doesAny_45 ?_
      refine r_goto (pc := 46) d_Md_doesAny_46 (tgt := 50) (by decide) ?_
      refine r_callV (pc := 50) (k := a) (As := [.int x7, .int ((1 : Int32) - x9)]) (rest := []) (mc' := 0) (ms' := 0) lk_Md_490 in_Md_passesBy se_Md_passesBy sa rfl d_Md_doesAny_50 k_Md_passesBy rfl rfl (Nat.le_of_ble_eq_true rfl) (by decide) (by decide) (Sp.mono h ?_)
      rintro rS20 shS20 S20 ⟨qS20, x21, uS20, h⟩
      subst uS20
      rw [qS20]
      obtain ⟨g22, h⟩ := h
      exact r_zreturn (pc := 53) d_Md_doesAny_53 rfl (aw_nb g22) rfl (Nat.le_refl _) ⟨rfl, _, rfl, h⟩
  · replace h := h.2 c3
    refine r_iconst (pc := 8) d_Md_doesAny_8 (v := 0) (by decide) ?_
    exact r_zreturn (pc := 9) d_Md_doesAny_9 (v := 0) rfl (by decide) rfl (Nat.le_refl _) ⟨rfl, _, rfl, h⟩
set_option maxRecDepth 4000 in
theorem e_Md_draw {l : Launch} {d : Nat} {sh : aw_SH} {S : aw_S} {P : Int32 → aw_S → Prop} {a : Nat} {p0 : Int32} (sa : sh[a]? = some (0, 11)) (h : ¬ p0 = 0 ∧ P ((((aw_uI S a 45 ((((S.1 a 45) * (3269 : Int32)) + (11493 : Int32)) - (((S.1 a 45) * (3269 : Int32)) + (11493 : Int32)) / (65536 : Int32) * (65536 : Int32))).1 a 45) / (8 : Int32)) - (((aw_uI S a 45 ((((S.1 a 45) * (3269 : Int32)) + (11493 : Int32)) - (((S.1 a 45) * (3269 : Int32)) + (11493 : Int32)) / (65536 : Int32) * (65536 : Int32))).1 a 45) / (8 : Int32)) / p0 * p0) (aw_uI S a 45 ((((S.1 a 45) * (3269 : Int32)) + (11493 : Int32)) - (((S.1 a 45) * (3269 : Int32)) + (11493 : Int32)) / (65536 : Int32) * (65536 : Int32)))) : Sp l m_Md_draw (d + 1) 0 0 [.ref a, .int p0] sh S (gI sh P) := by
  refine Sp.of k_Md_draw (ls := [.ref a, .int p0]) rfl (Nat.le_of_ble_eq_true rfl) ?_
  refine r_aload_n (pc := 0) d_Md_draw_0 (x := a) rfl ?_
  refine r_aload_n (pc := 1) d_Md_draw_1 (x := a) rfl ?_
  refine r_getI (pc := 2) d_Md_draw_2 f_Md_483 sa rfl ?_
  refine r_sipush (pc := 5) d_Md_draw_5 (v := 3269) (by decide) ?_
  refine r_imul (pc := 8) d_Md_draw_8 ?_
  refine r_sipush (pc := 9) d_Md_draw_9 (v := 11493) (by decide) ?_
  refine r_iadd (pc := 12) d_Md_draw_12 ?_
  refine r_ldcw (pc := 13) d_Md_draw_13 cc_Md_486 ?_
  refine r_irem (pc := 16) d_Md_draw_16 (by decide) ?_
  refine r_putI (pc := 17) d_Md_draw_17 f_Md_483 sa rfl ?_
  refine r_aload_n (pc := 20) d_Md_draw_20 (x := a) rfl ?_
  refine r_getI (pc := 21) d_Md_draw_21 f_Md_483 sa rfl ?_
  refine r_bipush (pc := 24) d_Md_draw_24 (v := 8) (by decide) ?_
  refine r_idiv (pc := 26) d_Md_draw_26 (by decide) ?_
  refine r_iload_n (pc := 27) d_Md_draw_27 (x := p0) rfl ?_
  obtain ⟨g1, h⟩ := h
  refine r_irem (pc := 28) d_Md_draw_28 g1 ?_
  exact r_ireturn (pc := 29) d_Md_draw_29 rfl rfl (Nat.le_refl _) ⟨rfl, _, rfl, h⟩
set_option maxRecDepth 4000 in
theorem e_Md_holds {l : Launch} {d : Nat} {sh : aw_SH} {S : aw_S} {P : Int32 → aw_S → Prop} {a : Nat} {p0 : Int32} (sa : sh[a]? = some (0, 11)) (h : ∃ r1, S.2.2 a 0 = some r1 ∧ ∃ n3, sh[r1]? = some (3, n3) ∧ vp_in (p0 + (1 : Int32)) n3 ∧ vp_in p0 n3 ∧ (((((S.1 r1 p0.toNatClampNeg) - (1100 : Int32) : Int32).toInt < 15 ∨ 17 < ((S.1 r1 p0.toNatClampNeg) - (1100 : Int32) : Int32).toInt) → vp_in 3 n3 ∧ vp_in (p0 + (5 : Int32)) n3 ∧ ((¬ (S.1 r1 (p0 + (5 : Int32) : Int32).toNatClampNeg) = 60 → vp_in (p0 + (5 : Int32)) n3 ∧ ((¬ (S.1 r1 (p0 + (5 : Int32) : Int32).toNatClampNeg) = 62 → vp_in (p0 + (2 : Int32)) n3 ∧ ((¬ (S.1 r1 (3 : Int32).toNatClampNeg) = (S.1 r1 (p0 + (2 : Int32) : Int32).toNatClampNeg) → P 0 S) ∧ ((S.1 r1 (3 : Int32).toNatClampNeg) = (S.1 r1 (p0 + (2 : Int32) : Int32).toNatClampNeg) → P 1 S))) ∧ ((S.1 r1 (p0 + (5 : Int32) : Int32).toNatClampNeg) = 62 → vp_in (p0 + (2 : Int32)) n3 ∧ (((S.1 r1 (3 : Int32).toNatClampNeg) ≤ (S.1 r1 (p0 + (2 : Int32) : Int32).toNatClampNeg) → P 0 S) ∧ (¬ (S.1 r1 (3 : Int32).toNatClampNeg) ≤ (S.1 r1 (p0 + (2 : Int32) : Int32).toNatClampNeg) → P 1 S))))) ∧ ((S.1 r1 (p0 + (5 : Int32) : Int32).toNatClampNeg) = 60 → vp_in (p0 + (2 : Int32)) n3 ∧ (((S.1 r1 (p0 + (2 : Int32) : Int32).toNatClampNeg) ≤ (S.1 r1 (3 : Int32).toNatClampNeg) → P 0 S) ∧ (¬ (S.1 r1 (p0 + (2 : Int32) : Int32).toNatClampNeg) ≤ (S.1 r1 (3 : Int32).toNatClampNeg) → P 1 S))))) ∧ (((S.1 r1 p0.toNatClampNeg) - (1100 : Int32)) = 15 → Sp l m_Md_placeOf d 0 0 [.ref a, .int (S.1 r1 (p0 + (1 : Int32) : Int32).toNatClampNeg)] sh S (gI sh (fun x18 S17 => ((¬ x18 = (S.1 r1 (p0 + (1 : Int32) : Int32).toNatClampNeg) → P 0 S17) ∧ (x18 = (S.1 r1 (p0 + (1 : Int32) : Int32).toNatClampNeg) → P 1 S17))))) ∧ (((S.1 r1 p0.toNatClampNeg) - (1100 : Int32)) = 16 → Sp l m_Md_placeOf d 0 0 [.ref a, .int (S.1 r1 (p0 + (1 : Int32) : Int32).toNatClampNeg)] sh S (gI sh (fun x21 S20 => ∃ r22, S20.2.2 a 0 = some r22 ∧ ∃ n24, sh[r22]? = some (3, n24) ∧ vp_in (p0 + (2 : Int32)) n24 ∧ ((¬ x21 = (S20.1 r22 (p0 + (2 : Int32) : Int32).toNatClampNeg) → P 0 S20) ∧ (x21 = (S20.1 r22 (p0 + (2 : Int32) : Int32).toNatClampNeg) → P 1 S20))))) ∧ (((S.1 r1 p0.toNatClampNeg) - (1100 : Int32)) = 17 → Sp l m_Md_showsOf d 0 0 [.ref a, .int (S.1 r1 (p0 + (1 : Int32) : Int32).toNatClampNeg)] sh S (gI sh (fun x28 S27 => ∃ r29, S27.2.2 a 0 = some r29 ∧ ∃ n31, sh[r29]? = some (3, n31) ∧ vp_in (p0 + (2 : Int32)) n31 ∧ ((¬ x28 = (S27.1 r29 (p0 + (2 : Int32) : Int32).toNatClampNeg) → P 0 S27) ∧ (x28 = (S27.1 r29 (p0 + (2 : Int32) : Int32).toNatClampNeg) → P 1 S27))))))) : Sp l m_Md_holds (d + 1) 0 0 [.ref a, .int p0] sh S (gI sh P) := by
  refine Sp.of k_Md_holds (ls := [.ref a, .int p0, .null, .null]) rfl (Nat.le_of_ble_eq_true rfl) ?_
  refine r_aload_n (pc := 0) d_Md_holds_0 (x := a) rfl ?_
  obtain ⟨r1, er1, h⟩ := h
  refine r_getR (pc := 1) d_Md_holds_1 f_Md_7 sa (Or.inr ⟨_, rfl⟩) (r := r1) er1 ?_
  refine r_iload_n (pc := 4) d_Md_holds_4 (x := p0) rfl ?_
  refine r_iconst (pc := 5) d_Md_holds_5 (v := 1) (by decide) ?_
  refine r_iadd (pc := 6) d_Md_holds_6 ?_
  obtain ⟨n3, s2, h⟩ := h
  obtain ⟨g4, h⟩ := h
  refine r_iald (pc := 7) d_Md_holds_7 s2 g4 ?_
  refine r_istore_n (pc := 8) (hk := rfl) (hd := d_Md_holds_8) (hi := by decide) (ls2 := [.ref a, .int p0, .int (S.1 r1 (p0 + (1 : Int32) : Int32).toNatClampNeg), .null]) (h2 := rfl) ?_
  refine r_aload_n (pc := 9) d_Md_holds_9 (x := a) rfl ?_
  refine r_getR (pc := 10) d_Md_holds_10 f_Md_7 sa (Or.inr ⟨_, rfl⟩) (r := r1) er1 ?_
  refine r_iload_n (pc := 13) d_Md_holds_13 (x := p0) rfl ?_
  obtain ⟨g5, h⟩ := h
  refine r_iald (pc := 14) d_Md_holds_14 s2 g5 ?_
  refine r_sipush (pc := 15) d_Md_holds_15 (v := 1100) (by decide) ?_
  refine r_isub (pc := 18) d_Md_holds_18 ?_
  rcases aw_sw ((S.1 r1 p0.toNatClampNeg) - (1100 : Int32)) 15 17 with q34 | ⟨kq34, q34, wq34⟩
  · refine r_tabOut (pc := 19) d_Md_holds_19 q34 (tgt := 103) (by decide) ?_
    replace h := h.1 q34
    refine r_aload_n (pc := 103) d_Md_holds_103 (x := a) rfl ?_
    refine r_getR (pc := 104) d_Md_holds_104 f_Md_7 sa (Or.inr ⟨_, rfl⟩) (r := r1) er1 ?_
    refine r_iconst (pc := 107) d_Md_holds_107 (v := 3) (by decide) ?_
    obtain ⟨g6, h⟩ := h
    refine r_iald (pc := 108) d_Md_holds_108 s2 g6 ?_
    refine r_istore_n (pc := 109) (hk := rfl) (hd := d_Md_holds_109) (hi := by decide) (ls2 := [.ref a, .int p0, .int (S.1 r1 (p0 + (1 : Int32) : Int32).toNatClampNeg), .int (S.1 r1 (3 : Int32).toNatClampNeg)]) (h2 := rfl) ?_
    refine r_aload_n (pc := 110) d_Md_holds_110 (x := a) rfl ?_
    refine r_getR (pc := 111) d_Md_holds_111 f_Md_7 sa (Or.inr ⟨_, rfl⟩) (r := r1) er1 ?_
    refine r_iload_n (pc := 114) d_Md_holds_114 (x := p0) rfl ?_
    refine r_iconst (pc := 115) d_Md_holds_115 (v := 5) (by decide) ?_
    refine r_iadd (pc := 116) d_Md_holds_116 ?_
    obtain ⟨g7, h⟩ := h
    refine r_iald (pc := 117) d_Md_holds_117 s2 g7 ?_
    refine r_bipush (pc := 118) d_Md_holds_118 (v := 60) (by decide) ?_
    refine r_icmp_ne (pc := 120) d_Md_holds_120 (tgt := 143) (by decide) (fun c8 => ?_) (fun c8 => ?_)
    · replace h := h.1 c8
      refine r_aload_n (pc := 143) d_Md_holds_143 (x := a) rfl ?_
      refine r_getR (pc := 144) d_Md_holds_144 f_Md_7 sa (Or.inr ⟨_, rfl⟩) (r := r1) er1 ?_
      refine r_iload_n (pc := 147) d_Md_holds_147 (x := p0) rfl ?_
      refine r_iconst (pc := 148) d_Md_holds_148 (v := 5) (by decide) ?_
      refine r_iadd (pc := 149) d_Md_holds_149 ?_
      obtain ⟨g9, h⟩ := h
      refine r_iald (pc := 150) d_Md_holds_150 s2 g9 ?_
      refine r_bipush (pc := 151) d_Md_holds_151 (v := 62) (by decide) ?_
      refine r_icmp_ne (pc := 153) d_Md_holds_153 (tgt := 176) (by decide) (fun c10 => ?_) (fun c10 => ?_)
      · replace h := h.1 c10
        refine r_iload_n (pc := 176) d_Md_holds_176 (x := (S.1 r1 (3 : Int32).toNatClampNeg)) rfl ?_
        refine r_aload_n (pc := 177) d_Md_holds_177 (x := a) rfl ?_
        refine r_getR (pc := 178) d_Md_holds_178 f_Md_7 sa (Or.inr ⟨_, rfl⟩) (r := r1) er1 ?_
        refine r_iload_n (pc := 181) d_Md_holds_181 (x := p0) rfl ?_
        refine r_iconst (pc := 182) d_Md_holds_182 (v := 2) (by decide) ?_
        refine r_iadd (pc := 183) d_Md_holds_183 ?_
        obtain ⟨g11, h⟩ := h
        refine r_iald (pc := 184) d_Md_holds_184 s2 g11 ?_
        refine r_icmp_ne (pc := 185) d_Md_holds_185 (tgt := 192) (by decide) (fun c12 => ?_) (fun c12 => ?_)
        · replace h := h.1 c12
          refine r_iconst (pc := 192) d_Md_holds_192 (v := 0) (by decide) ?_
          exact r_zreturn (pc := 193) d_Md_holds_193 (v := 0) rfl (by decide) rfl (Nat.le_refl _) ⟨rfl, _, rfl, h⟩
        · replace h := h.2 c12
          refine r_iconst (pc := 188) d_Md_holds_188 (v := 1) (by decide) ?_
          refine r_goto (pc := 189) d_Md_holds_189 (tgt := 193) (by decide) ?_
          exact r_zreturn (pc := 193) d_Md_holds_193 (v := 1) rfl (by decide) rfl (Nat.le_refl _) ⟨rfl, _, rfl, h⟩
      · replace h := h.2 c10
        refine r_iload_n (pc := 156) d_Md_holds_156 (x := (S.1 r1 (3 : Int32).toNatClampNeg)) rfl ?_
        refine r_aload_n (pc := 157) d_Md_holds_157 (x := a) rfl ?_
        refine r_getR (pc := 158) d_Md_holds_158 f_Md_7 sa (Or.inr ⟨_, rfl⟩) (r := r1) er1 ?_
        refine r_iload_n (pc := 161) d_Md_holds_161 (x := p0) rfl ?_
        refine r_iconst (pc := 162) d_Md_holds_162 (v := 2) (by decide) ?_
        refine r_iadd (pc := 163) d_Md_holds_163 ?_
        obtain ⟨g13, h⟩ := h
        refine r_iald (pc := 164) d_Md_holds_164 s2 g13 ?_
        refine r_icmp_le (pc := 165) d_Md_holds_165 (tgt := 172) (by decide) (fun c14 => ?_) (fun c14 => ?_)
        · replace h := h.1 c14
          refine r_iconst (pc := 172) d_Md_holds_172 (v := 0) (by decide) ?_
          refine r_goto (pc := 173) d_Md_holds_173 (tgt := 193) (by decide) ?_
          exact r_zreturn (pc := 193) d_Md_holds_193 (v := 0) rfl (by decide) rfl (Nat.le_refl _) ⟨rfl, _, rfl, h⟩
        · replace h := h.2 c14
          refine r_iconst (pc := 168) d_Md_holds_168 (v := 1) (by decide) ?_
          refine r_goto (pc := 169) d_Md_holds_169 (tgt := 193) (by decide) ?_
          exact r_zreturn (pc := 193) d_Md_holds_193 (v := 1) rfl (by decide) rfl (Nat.le_refl _) ⟨rfl, _, rfl, h⟩
    · replace h := h.2 c8
      refine r_iload_n (pc := 123) d_Md_holds_123 (x := (S.1 r1 (3 : Int32).toNatClampNeg)) rfl ?_
      refine r_aload_n (pc := 124) d_Md_holds_124 (x := a) rfl ?_
      refine r_getR (pc := 125) d_Md_holds_125 f_Md_7 sa (Or.inr ⟨_, rfl⟩) (r := r1) er1 ?_
      refine r_iload_n (pc := 128) d_Md_holds_128 (x := p0) rfl ?_
      refine r_iconst (pc := 129) d_Md_holds_129 (v := 2) (by decide) ?_
      refine r_iadd (pc := 130) d_Md_holds_130 ?_
      obtain ⟨g15, h⟩ := h
      refine r_iald (pc := 131) d_Md_holds_131 s2 g15 ?_
      refine r_icmp_ge (pc := 132) d_Md_holds_132 (tgt := 139) (by decide) (fun c16 => ?_) (fun c16 => ?_)
      · replace h := h.1 c16
        refine r_iconst (pc := 139) d_Md_holds_139 (v := 0) (by decide) ?_
        refine r_goto (pc := 140) d_Md_holds_140 (tgt := 193) (by decide) ?_
        exact r_zreturn (pc := 193) d_Md_holds_193 (v := 0) rfl (by decide) rfl (Nat.le_refl _) ⟨rfl, _, rfl, h⟩
      · replace h := h.2 c16
        refine r_iconst (pc := 135) d_Md_holds_135 (v := 1) (by decide) ?_
        refine r_goto (pc := 136) d_Md_holds_136 (tgt := 193) (by decide) ?_
        exact r_zreturn (pc := 193) d_Md_holds_193 (v := 1) rfl (by decide) rfl (Nat.le_refl _) ⟨rfl, _, rfl, h⟩
  · rcases (show kq34 = 0 ∨ kq34 = 1 ∨ kq34 = 2 by omega) with rfl | rfl | rfl
    · refine r_tabIn (pc := 19) d_Md_holds_19 (off := 25) (by omega) (by omega) (by rw [q34]; rfl) (tgt := 44) (by decide) ?_
      replace h := h.2.1 (aw_ix (y := 15) q34 (by decide))
      refine r_aload_n (pc := 44) d_Md_holds_44 (x := a) rfl ?_
      refine r_iload_n (pc := 45) d_Md_holds_45 (x := (S.1 r1 (p0 + (1 : Int32) : Int32).toNatClampNeg)) rfl ?_
      refine r_callV (pc := 46) (k := a) (As := [.int (S.1 r1 (p0 + (1 : Int32) : Int32).toNatClampNeg)]) (rest := []) (mc' := 0) (ms' := 0) lk_Md_337 in_Md_placeOf se_Md_placeOf sa rfl d_Md_holds_46 k_Md_placeOf rfl rfl (Nat.le_of_ble_eq_true rfl) (by decide) (by decide) (Sp.mono h ?_)
      rintro rS17 shS17 S17 ⟨qS17, x18, uS17, h⟩
      subst uS17
      rw [qS17]
      refine r_iload_n (pc := 49) d_Md_holds_49 (x := (S.1 r1 (p0 + (1 : Int32) : Int32).toNatClampNeg)) rfl ?_
      refine r_icmp_ne (pc := 50) d_Md_holds_50 (tgt := 57) (by decide) (fun c19 => ?_) (fun c19 => ?_)
      · replace h := h.1 c19
        refine r_iconst (pc := 57) d_Md_holds_57 (v := 0) (by decide) ?_
        exact r_zreturn (pc := 58) d_Md_holds_58 (v := 0) rfl (by decide) rfl (Nat.le_refl _) ⟨rfl, _, rfl, h⟩
      · replace h := h.2 c19
        refine r_iconst (pc := 53) d_Md_holds_53 (v := 1) (by decide) ?_
        refine r_goto (pc := 54) d_Md_holds_54 (tgt := 58) (by decide) ?_
        exact r_zreturn (pc := 58) d_Md_holds_58 (v := 1) rfl (by decide) rfl (Nat.le_refl _) ⟨rfl, _, rfl, h⟩
    · refine r_tabIn (pc := 19) d_Md_holds_19 (off := 40) (by omega) (by omega) (by rw [q34]; rfl) (tgt := 59) (by decide) ?_
      replace h := h.2.2.1 (aw_ix (y := 16) q34 (by decide))
      refine r_aload_n (pc := 59) d_Md_holds_59 (x := a) rfl ?_
      refine r_iload_n (pc := 60) d_Md_holds_60 (x := (S.1 r1 (p0 + (1 : Int32) : Int32).toNatClampNeg)) rfl ?_
      refine r_callV (pc := 61) (k := a) (As := [.int (S.1 r1 (p0 + (1 : Int32) : Int32).toNatClampNeg)]) (rest := []) (mc' := 0) (ms' := 0) lk_Md_337 in_Md_placeOf se_Md_placeOf sa rfl d_Md_holds_61 k_Md_placeOf rfl rfl (Nat.le_of_ble_eq_true rfl) (by decide) (by decide) (Sp.mono h ?_)
      rintro rS20 shS20 S20 ⟨qS20, x21, uS20, h⟩
      subst uS20
      rw [qS20]
      refine r_aload_n (pc := 64) d_Md_holds_64 (x := a) rfl ?_
      obtain ⟨r22, er22, h⟩ := h
      refine r_getR (pc := 65) d_Md_holds_65 f_Md_7 sa (Or.inr ⟨_, rfl⟩) (r := r22) er22 ?_
      refine r_iload_n (pc := 68) d_Md_holds_68 (x := p0) rfl ?_
      refine r_iconst (pc := 69) d_Md_holds_69 (v := 2) (by decide) ?_
      refine r_iadd (pc := 70) d_Md_holds_70 ?_
      obtain ⟨n24, s23, h⟩ := h
      obtain ⟨g25, h⟩ := h
      refine r_iald (pc := 71) d_Md_holds_71 s23 g25 ?_
      refine r_icmp_ne (pc := 72) d_Md_holds_72 (tgt := 79) (by decide) (fun c26 => ?_) (fun c26 => ?_)
      · replace h := h.1 c26
        refine r_iconst (pc := 79) d_Md_holds_79 (v := 0) (by decide) ?_
        exact r_zreturn (pc := 80) d_Md_holds_80 (v := 0) rfl (by decide) rfl (Nat.le_refl _) ⟨rfl, _, rfl, h⟩
      · replace h := h.2 c26
        refine r_iconst (pc := 75) d_Md_holds_75 (v := 1) (by decide) ?_
        refine r_goto (pc := 76) d_Md_holds_76 (tgt := 80) (by decide) ?_
        exact r_zreturn (pc := 80) d_Md_holds_80 (v := 1) rfl (by decide) rfl (Nat.le_refl _) ⟨rfl, _, rfl, h⟩
    · refine r_tabIn (pc := 19) d_Md_holds_19 (off := 62) (by omega) (by omega) (by rw [q34]; rfl) (tgt := 81) (by decide) ?_
      replace h := h.2.2.2 (aw_ix (y := 17) q34 (by decide))
      refine r_aload_n (pc := 81) d_Md_holds_81 (x := a) rfl ?_
      refine r_iload_n (pc := 82) d_Md_holds_82 (x := (S.1 r1 (p0 + (1 : Int32) : Int32).toNatClampNeg)) rfl ?_
      refine r_callV (pc := 83) (k := a) (As := [.int (S.1 r1 (p0 + (1 : Int32) : Int32).toNatClampNeg)]) (rest := []) (mc' := 0) (ms' := 0) lk_Md_319 in_Md_showsOf se_Md_showsOf sa rfl d_Md_holds_83 k_Md_showsOf rfl rfl (Nat.le_of_ble_eq_true rfl) (by decide) (by decide) (Sp.mono h ?_)
      rintro rS27 shS27 S27 ⟨qS27, x28, uS27, h⟩
      subst uS27
      rw [qS27]
      refine r_aload_n (pc := 86) d_Md_holds_86 (x := a) rfl ?_
      obtain ⟨r29, er29, h⟩ := h
      refine r_getR (pc := 87) d_Md_holds_87 f_Md_7 sa (Or.inr ⟨_, rfl⟩) (r := r29) er29 ?_
      refine r_iload_n (pc := 90) d_Md_holds_90 (x := p0) rfl ?_
      refine r_iconst (pc := 91) d_Md_holds_91 (v := 2) (by decide) ?_
      refine r_iadd (pc := 92) d_Md_holds_92 ?_
      obtain ⟨n31, s30, h⟩ := h
      obtain ⟨g32, h⟩ := h
      refine r_iald (pc := 93) d_Md_holds_93 s30 g32 ?_
      refine r_icmp_ne (pc := 94) d_Md_holds_94 (tgt := 101) (by decide) (fun c33 => ?_) (fun c33 => ?_)
      · replace h := h.1 c33
        refine r_iconst (pc := 101) d_Md_holds_101 (v := 0) (by decide) ?_
        exact r_zreturn (pc := 102) d_Md_holds_102 (v := 0) rfl (by decide) rfl (Nat.le_refl _) ⟨rfl, _, rfl, h⟩
      · replace h := h.2 c33
        refine r_iconst (pc := 97) d_Md_holds_97 (v := 1) (by decide) ?_
        refine r_goto (pc := 98) d_Md_holds_98 (tgt := 102) (by decide) ?_
        exact r_zreturn (pc := 102) d_Md_holds_102 (v := 1) rfl (by decide) rfl (Nat.le_refl _) ⟨rfl, _, rfl, h⟩
set_option maxRecDepth 4000 in
theorem e_Md_behindEnds {l : Launch} {d : Nat} {sh : aw_SH} {S : aw_S} {P : Int32 → aw_S → Prop} {a : Nat} {p0 : Int32} (sa : sh[a]? = some (0, 11)) (h : AW l m_Md_behindEnds (d + 1) 0 0 (gI sh P) 0 0 2 [.ref a, .null, .int p0, .null, .null] [] sh S) : Sp l m_Md_behindEnds (d + 1) 0 0 [.ref a, .int p0] sh S (gI sh P) := by
  refine Sp.of k_Md_behindEnds (ls := [.ref a, .int p0, .null, .null, .null]) rfl (Nat.le_of_ble_eq_true rfl) ?_
  refine r_iload_n (pc := 0) d_Md_behindEnds_0 (x := p0) rfl ?_
  refine r_istore_n (pc := 1) (hk := rfl) (hd := d_Md_behindEnds_1) (hi := by decide) (ls2 := [.ref a, .int p0, .int p0, .null, .null]) (h2 := rfl) ?_
  exact r_weak (ls2 := [.ref a, .null, .int p0, .null, .null]) ⟨Or.inr rfl, Or.inl rfl, Or.inr rfl, Or.inl rfl, Or.inl rfl, trivial⟩ h
set_option maxRecDepth 4000 in
theorem s_Md_behindEnds_2 {l : Launch} {d : Nat} {sh : aw_SH} {S : aw_S} {P : Int32 → aw_S → Prop} {a : Nat} {i2 : Int32} (sa : sh[a]? = some (0, 11)) (h : ∃ r1, S.2.2 a 0 = some r1 ∧ ∃ n3, sh[r1]? = some (3, n3) ∧ vp_in 5 n3 ∧ (((S.1 r1 (5 : Int32).toNatClampNeg) ≤ i2 → P i2 S) ∧ (¬ (S.1 r1 (5 : Int32).toNatClampNeg) ≤ i2 → vp_in ((184 : Int32) + ((6 : Int32) * i2)) n3 ∧ ((¬ (S.1 r1 ((184 : Int32) + ((6 : Int32) * i2) : Int32).toNatClampNeg) = 13 → P i2 S) ∧ ((S.1 r1 ((184 : Int32) + ((6 : Int32) * i2) : Int32).toNatClampNeg) = 13 → vp_in (((184 : Int32) + ((6 : Int32) * i2)) + (4 : Int32)) n3 ∧ ∀ v9 : Int32, v9 = S.1 r1 (((184 : Int32) + ((6 : Int32) * i2)) + (4 : Int32) : Int32).toNatClampNeg → vp_in ((184 : Int32) + ((6 : Int32) * v9)) n3 ∧ ((¬ (S.1 r1 ((184 : Int32) + ((6 : Int32) * v9) : Int32).toNatClampNeg) = 12 → ∃ r12, S.2.2 a 47 = some r12 ∧ ∃ n14, sh[r12]? = some (3, n14) ∧ vp_in v9 n14 ∧ vp_in v9 n14 ∧ AW l m_Md_behindEnds (d + 1) 0 0 (gI sh P) 0 0 2 [.ref a, .null, .int (i2 + (1 : Int32)), .null, .null] [] sh (aw_uI S r12 v9.toNatClampNeg ((S.1 r12 v9.toNatClampNeg) - (0 : Int32)))) ∧ ((S.1 r1 ((184 : Int32) + ((6 : Int32) * v9) : Int32).toNatClampNeg) = 12 → ∃ r19, S.2.2 a 47 = some r19 ∧ ∃ n21, sh[r19]? = some (3, n21) ∧ vp_in v9 n21 ∧ (((S.1 r19 v9.toNatClampNeg) ≤ 0 → vp_in v9 n21 ∧ vp_in v9 n21 ∧ AW l m_Md_behindEnds (d + 1) 0 0 (gI sh P) 0 0 2 [.ref a, .null, .int (i2 + (1 : Int32)), .null, .null] [] sh (aw_uI S r19 v9.toNatClampNeg ((S.1 r19 v9.toNatClampNeg) - (0 : Int32)))) ∧ (¬ (S.1 r19 v9.toNatClampNeg) ≤ 0 → vp_in v9 n21 ∧ vp_in v9 n21 ∧ AW l m_Md_behindEnds (d + 1) 0 0 (gI sh P) 0 0 2 [.ref a, .null, .int (v9 + (1 : Int32)), .null, .null] [] sh (aw_uI S r19 v9.toNatClampNeg ((S.1 r19 v9.toNatClampNeg) - (1 : Int32)))))))))))) : AW l m_Md_behindEnds (d + 1) 0 0 (gI sh P) 0 0 2 [.ref a, .null, .int i2, .null, .null] [] sh S := by
  refine r_iload_n (pc := 2) d_Md_behindEnds_2 (x := i2) rfl ?_
  refine r_aload_n (pc := 3) d_Md_behindEnds_3 (x := a) rfl ?_
  obtain ⟨r1, er1, h⟩ := h
  refine r_getR (pc := 4) d_Md_behindEnds_4 f_Md_7 sa (Or.inr ⟨_, rfl⟩) (r := r1) er1 ?_
  refine r_iconst (pc := 7) d_Md_behindEnds_7 (v := 5) (by decide) ?_
  obtain ⟨n3, s2, h⟩ := h
  obtain ⟨g4, h⟩ := h
  refine r_iald (pc := 8) d_Md_behindEnds_8 s2 g4 ?_
  refine r_icmp_ge (pc := 9) d_Md_behindEnds_9 (tgt := 117) (by decide) (fun c5 => ?_) (fun c5 => ?_)
  · replace h := h.1 c5
    refine r_iload_n (pc := 117) d_Md_behindEnds_117 (x := i2) rfl ?_
    exact r_ireturn (pc := 118) d_Md_behindEnds_118 rfl rfl (Nat.le_refl _) ⟨rfl, _, rfl, h⟩
  · replace h := h.2 c5
    refine r_aload_n (pc := 12) d_Md_behindEnds_12 (x := a) rfl ?_
    refine r_getR (pc := 13) d_Md_behindEnds_13 f_Md_7 sa (Or.inr ⟨_, rfl⟩) (r := r1) er1 ?_
    refine r_sipush (pc := 16) d_Md_behindEnds_16 (v := 184) (by decide) ?_
    refine r_bipush (pc := 19) d_Md_behindEnds_19 (v := 6) (by decide) ?_
    refine r_iload_n (pc := 21) d_Md_behindEnds_21 (x := i2) rfl ?_
    refine r_imul (pc := 22) d_Md_behindEnds_22 ?_
    refine r_iadd (pc := 23) d_Md_behindEnds_23 ?_
    obtain ⟨g6, h⟩ := h
    refine r_iald (pc := 24) d_Md_behindEnds_24 s2 g6 ?_
    refine r_bipush (pc := 25) d_Md_behindEnds_25 (v := 13) (by decide) ?_
    refine r_icmp_ne (pc := 27) d_Md_behindEnds_27 (tgt := 117) (by decide) (fun c7 => ?_) (fun c7 => ?_)
    · replace h := h.1 c7
      refine r_iload_n (pc := 117) d_Md_behindEnds_117 (x := i2) rfl ?_
      exact r_ireturn (pc := 118) d_Md_behindEnds_118 rfl rfl (Nat.le_refl _) ⟨rfl, _, rfl, h⟩
    · replace h := h.2 c7
      refine r_aload_n (pc := 30) d_Md_behindEnds_30 (x := a) rfl ?_
      refine r_getR (pc := 31) d_Md_behindEnds_31 f_Md_7 sa (Or.inr ⟨_, rfl⟩) (r := r1) er1 ?_
      refine r_sipush (pc := 34) d_Md_behindEnds_34 (v := 184) (by decide) ?_
      refine r_bipush (pc := 37) d_Md_behindEnds_37 (v := 6) (by decide) ?_
      refine r_iload_n (pc := 39) d_Md_behindEnds_39 (x := i2) rfl ?_
      refine r_imul (pc := 40) d_Md_behindEnds_40 ?_
      refine r_iadd (pc := 41) d_Md_behindEnds_41 ?_
      refine r_iconst (pc := 42) d_Md_behindEnds_42 (v := 4) (by decide) ?_
      refine r_iadd (pc := 43) d_Md_behindEnds_43 ?_
      obtain ⟨g8, h⟩ := h
      refine r_iald (pc := 44) d_Md_behindEnds_44 s2 g8 ?_
      refine r_ni (fun v9 ev9 => ?_)
      replace h := h v9 ev9
      refine r_istore_n (pc := 45) (hk := rfl) (hd := d_Md_behindEnds_45) (hi := by decide) (ls2 := [.ref a, .null, .int i2, .int v9, .null]) (h2 := rfl) ?_
      refine r_aload_n (pc := 46) d_Md_behindEnds_46 (x := a) rfl ?_
      refine r_getR (pc := 47) d_Md_behindEnds_47 f_Md_7 sa (Or.inr ⟨_, rfl⟩) (r := r1) er1 ?_
      refine r_sipush (pc := 50) d_Md_behindEnds_50 (v := 184) (by decide) ?_
      refine r_bipush (pc := 53) d_Md_behindEnds_53 (v := 6) (by decide) ?_
      refine r_iload_n (pc := 55) d_Md_behindEnds_55 (x := v9) rfl ?_
      refine r_imul (pc := 56) d_Md_behindEnds_56 ?_
      refine r_iadd (pc := 57) d_Md_behindEnds_57 ?_
      obtain ⟨g10, h⟩ := h
      refine r_iald (pc := 58) d_Md_behindEnds_58 s2 g10 ?_
      refine r_bipush (pc := 59) d_Md_behindEnds_59 (v := 12) (by decide) ?_
      refine r_icmp_ne (pc := 61) d_Md_behindEnds_61 (tgt := 77) (by decide) (fun c11 => ?_) (fun c11 => ?_)
      · replace h := h.1 c11
        refine r_iconst (pc := 77) d_Md_behindEnds_77 (v := 0) (by decide) ?_
        refine r_istore (pc := 78) (hd := d_Md_behindEnds_78) (hi := by decide) (ls2 := [.ref a, .null, .int i2, .int v9, .int 0]) (h2 := rfl) ?_
        refine r_aload_n (pc := 80) d_Md_behindEnds_80 (x := a) rfl ?_
        obtain ⟨r12, er12, h⟩ := h
        refine r_getR (pc := 81) d_Md_behindEnds_81 f_Md_99 sa (Or.inr ⟨_, rfl⟩) (r := r12) er12 ?_
        refine r_iload_n (pc := 84) d_Md_behindEnds_84 (x := v9) rfl ?_
        refine r_dup2 (pc := 85) d_Md_behindEnds_85 rfl rfl ?_
        obtain ⟨n14, s13, h⟩ := h
        obtain ⟨g15, h⟩ := h
        refine r_iald (pc := 86) d_Md_behindEnds_86 s13 g15 ?_
        refine r_iload (pc := 87) d_Md_behindEnds_87 (x := 0) rfl ?_
        refine r_if_eq (pc := 89) d_Md_behindEnds_89 (tgt := 96) (by decide) (fun _ => ?_) (fun q => absurd q (by decide))
        refine r_iconst (pc := 96) d_Md_behindEnds_96 (v := 0) (by decide) ?_
        refine r_isub (pc := 97) d_Md_behindEnds_97 ?_
        obtain ⟨g17, h⟩ := h
        refine r_iast (pc := 98) d_Md_behindEnds_98 s13 g17 ?_
        refine r_iload (pc := 99) d_Md_behindEnds_99 (x := 0) rfl ?_
        refine r_if_eq (pc := 101) d_Md_behindEnds_101 (tgt := 110) (by decide) (fun _ => ?_) (fun q => absurd q (by decide))
        refine r_iload_n (pc := 110) d_Md_behindEnds_110 (x := i2) rfl ?_
        refine r_iconst (pc := 111) d_Md_behindEnds_111 (v := 1) (by decide) ?_
        refine r_iadd (pc := 112) d_Md_behindEnds_112 ?_
        refine r_istore_n (pc := 113) (hk := rfl) (hd := d_Md_behindEnds_113) (hi := by decide) (ls2 := [.ref a, .null, .int (i2 + (1 : Int32)), .int v9, .int 0]) (h2 := rfl) ?_
        refine r_goto (pc := 114) d_Md_behindEnds_114 (tgt := 2) (by decide) ?_
        exact r_weak (ls2 := [.ref a, .null, .int (i2 + (1 : Int32)), .null, .null]) ⟨Or.inr rfl, Or.inl rfl, Or.inr rfl, Or.inl rfl, Or.inl rfl, trivial⟩ h
      · replace h := h.2 c11
        refine r_aload_n (pc := 64) d_Md_behindEnds_64 (x := a) rfl ?_
        obtain ⟨r19, er19, h⟩ := h
        refine r_getR (pc := 65) d_Md_behindEnds_65 f_Md_99 sa (Or.inr ⟨_, rfl⟩) (r := r19) er19 ?_
        refine r_iload_n (pc := 68) d_Md_behindEnds_68 (x := v9) rfl ?_
        obtain ⟨n21, s20, h⟩ := h
        obtain ⟨g22, h⟩ := h
        refine r_iald (pc := 69) d_Md_behindEnds_69 s20 g22 ?_
        refine r_if_le (pc := 70) d_Md_behindEnds_70 (tgt := 77) (by decide) (fun c23 => ?_) (fun c23 => ?_)
        · replace h := h.1 c23
          refine r_iconst (pc := 77) d_Md_behindEnds_77 (v := 0) (by decide) ?_
          refine r_istore (pc := 78) (hd := d_Md_behindEnds_78) (hi := by decide) (ls2 := [.ref a, .null, .int i2, .int v9, .int 0]) (h2 := rfl) ?_
          refine r_aload_n (pc := 80) d_Md_behindEnds_80 (x := a) rfl ?_
          refine r_getR (pc := 81) d_Md_behindEnds_81 f_Md_99 sa (Or.inr ⟨_, rfl⟩) (r := r19) er19 ?_
          refine r_iload_n (pc := 84) d_Md_behindEnds_84 (x := v9) rfl ?_
          refine r_dup2 (pc := 85) d_Md_behindEnds_85 rfl rfl ?_
          obtain ⟨g24, h⟩ := h
          refine r_iald (pc := 86) d_Md_behindEnds_86 s20 g24 ?_
          refine r_iload (pc := 87) d_Md_behindEnds_87 (x := 0) rfl ?_
          refine r_if_eq (pc := 89) d_Md_behindEnds_89 (tgt := 96) (by decide) (fun _ => ?_) (fun q => absurd q (by decide))
          refine r_iconst (pc := 96) d_Md_behindEnds_96 (v := 0) (by decide) ?_
          refine r_isub (pc := 97) d_Md_behindEnds_97 ?_
          obtain ⟨g26, h⟩ := h
          refine r_iast (pc := 98) d_Md_behindEnds_98 s20 g26 ?_
          refine r_iload (pc := 99) d_Md_behindEnds_99 (x := 0) rfl ?_
          refine r_if_eq (pc := 101) d_Md_behindEnds_101 (tgt := 110) (by decide) (fun _ => ?_) (fun q => absurd q (by decide))
          refine r_iload_n (pc := 110) d_Md_behindEnds_110 (x := i2) rfl ?_
          refine r_iconst (pc := 111) d_Md_behindEnds_111 (v := 1) (by decide) ?_
          refine r_iadd (pc := 112) d_Md_behindEnds_112 ?_
          refine r_istore_n (pc := 113) (hk := rfl) (hd := d_Md_behindEnds_113) (hi := by decide) (ls2 := [.ref a, .null, .int (i2 + (1 : Int32)), .int v9, .int 0]) (h2 := rfl) ?_
          refine r_goto (pc := 114) d_Md_behindEnds_114 (tgt := 2) (by decide) ?_
          exact r_weak (ls2 := [.ref a, .null, .int (i2 + (1 : Int32)), .null, .null]) ⟨Or.inr rfl, Or.inl rfl, Or.inr rfl, Or.inl rfl, Or.inl rfl, trivial⟩ h
        · replace h := h.2 c23
          refine r_iconst (pc := 73) d_Md_behindEnds_73 (v := 1) (by decide) ?_
          refine r_goto (pc := 74) d_Md_behindEnds_74 (tgt := 78) (by decide) ?_
          refine r_istore (pc := 78) (hd := d_Md_behindEnds_78) (hi := by decide) (ls2 := [.ref a, .null, .int i2, .int v9, .int 1]) (h2 := rfl) ?_
          refine r_aload_n (pc := 80) d_Md_behindEnds_80 (x := a) rfl ?_
          refine r_getR (pc := 81) d_Md_behindEnds_81 f_Md_99 sa (Or.inr ⟨_, rfl⟩) (r := r19) er19 ?_
          refine r_iload_n (pc := 84) d_Md_behindEnds_84 (x := v9) rfl ?_
          refine r_dup2 (pc := 85) d_Md_behindEnds_85 rfl rfl ?_
          obtain ⟨g28, h⟩ := h
          refine r_iald (pc := 86) d_Md_behindEnds_86 s20 g28 ?_
          refine r_iload (pc := 87) d_Md_behindEnds_87 (x := 1) rfl ?_
          refine r_if_eq (pc := 89) d_Md_behindEnds_89 (tgt := 96) (by decide) (fun q => absurd q (by decide)) (fun _ => ?_)
          refine r_iconst (pc := 92) d_Md_behindEnds_92 (v := 1) (by decide) ?_
          refine r_goto (pc := 93) d_Md_behindEnds_93 (tgt := 97) (by decide) ?_
          refine r_isub (pc := 97) d_Md_behindEnds_97 ?_
          obtain ⟨g30, h⟩ := h
          refine r_iast (pc := 98) d_Md_behindEnds_98 s20 g30 ?_
          refine r_iload (pc := 99) d_Md_behindEnds_99 (x := 1) rfl ?_
          refine r_if_eq (pc := 101) d_Md_behindEnds_101 (tgt := 110) (by decide) (fun q => absurd q (by decide)) (fun _ => ?_)
          refine r_iload_n (pc := 104) d_Md_behindEnds_104 (x := v9) rfl ?_
          refine r_iconst (pc := 105) d_Md_behindEnds_105 (v := 1) (by decide) ?_
          refine r_iadd (pc := 106) d_Md_behindEnds_106 ?_
          refine r_goto (pc := 107) d_Md_behindEnds_107 (tgt := 113) (by decide) ?_
          refine r_istore_n (pc := 113) (hk := rfl) (hd := d_Md_behindEnds_113) (hi := by decide) (ls2 := [.ref a, .null, .int (v9 + (1 : Int32)), .int v9, .int 1]) (h2 := rfl) ?_
          refine r_goto (pc := 114) d_Md_behindEnds_114 (tgt := 2) (by decide) ?_
          exact r_weak (ls2 := [.ref a, .null, .int (v9 + (1 : Int32)), .null, .null]) ⟨Or.inr rfl, Or.inl rfl, Or.inr rfl, Or.inl rfl, Or.inl rfl, trivial⟩ h
set_option maxRecDepth 4000 in
theorem e_Md_lived {l : Launch} {d : Nat} {sh : aw_SH} {S : aw_S} {P : Int32 → aw_S → Prop} {a : Nat} {p0 : Int32} (sa : sh[a]? = some (0, 11)) (h : ((p0 < 0 → Sp l m_Md_refuse d 0 0 [.ref a, .int 1] sh S (gI sh (fun x3 S2 => P x3 S2))) ∧ (¬ p0 < 0 → ((p0 ≤ 4 → (((S.1 a 50) = 0 → Sp l m_Md_refuse d 0 0 [.ref a, .int 6] sh S (gI sh (fun x7 S6 => P x7 S6))) ∧ (¬ (S.1 a 50) = 0 → ∃ r8, S.2.2 a 49 = some r8 ∧ ∃ n10, sh[r8]? = some (3, n10) ∧ vp_in p0 n10 ∧ Sp l m_Md_gives d 0 0 [.ref a, .int (S.1 r8 p0.toNatClampNeg)] sh S (gI sh (fun x13 S12 => P x13 S12))))) ∧ (¬ p0 ≤ 4 → Sp l m_Md_refuse d 0 0 [.ref a, .int 1] sh S (gI sh (fun x15 S14 => P x15 S14))))))) : Sp l m_Md_lived (d + 1) 0 0 [.ref a, .int p0] sh S (gI sh P) := by
  refine Sp.of k_Md_lived (ls := [.ref a, .int p0]) rfl (Nat.le_of_ble_eq_true rfl) ?_
  refine r_iload_n (pc := 0) d_Md_lived_0 (x := p0) rfl ?_
  refine r_if_lt (pc := 1) d_Md_lived_1 (tgt := 9) (by decide) (fun c1 => ?_) (fun c1 => ?_)
  · replace h := h.1 c1
    refine r_aload_n (pc := 9) d_Md_lived_9 (x := a) rfl ?_
    refine r_iconst (pc := 10) d_Md_lived_10 (v := 1) (by decide) ?_
    refine r_callV (pc := 11) (k := a) (As := [.int 1]) (rest := []) (mc' := 0) (ms' := 0) lk_Md_118 in_Md_refuse se_Md_refuse sa rfl d_Md_lived_11 k_Md_refuse rfl rfl (Nat.le_of_ble_eq_true rfl) (by decide) (by decide) (Sp.mono h ?_)
    rintro rS2 shS2 S2 ⟨qS2, x3, uS2, h⟩
    subst uS2
    rw [qS2]
    refine r_goto (pc := 14) d_Md_lived_14 (tgt := 43) (by decide) ?_
    exact r_ireturn (pc := 43) d_Md_lived_43 rfl rfl (Nat.le_refl _) ⟨rfl, _, rfl, h⟩
  · replace h := h.2 c1
    refine r_iload_n (pc := 4) d_Md_lived_4 (x := p0) rfl ?_
    refine r_iconst (pc := 5) d_Md_lived_5 (v := 4) (by decide) ?_
    refine r_icmp_le (pc := 6) d_Md_lived_6 (tgt := 17) (by decide) (fun c4 => ?_) (fun c4 => ?_)
    · replace h := h.1 c4
      refine r_aload_n (pc := 17) d_Md_lived_17 (x := a) rfl ?_
      refine r_getI (pc := 18) d_Md_lived_18 f_Md_519 sa rfl ?_
      refine r_if_eq (pc := 21) d_Md_lived_21 (tgt := 37) (by decide) (fun c5 => ?_) (fun c5 => ?_)
      · replace h := h.1 c5
        refine r_aload_n (pc := 37) d_Md_lived_37 (x := a) rfl ?_
        refine r_bipush (pc := 38) d_Md_lived_38 (v := 6) (by decide) ?_
        refine r_callV (pc := 40) (k := a) (As := [.int 6]) (rest := []) (mc' := 0) (ms' := 0) lk_Md_118 in_Md_refuse se_Md_refuse sa rfl d_Md_lived_40 k_Md_refuse rfl rfl (Nat.le_of_ble_eq_true rfl) (by decide) (by decide) (Sp.mono h ?_)
        rintro rS6 shS6 S6 ⟨qS6, x7, uS6, h⟩
        subst uS6
        rw [qS6]
        exact r_ireturn (pc := 43) d_Md_lived_43 rfl rfl (Nat.le_refl _) ⟨rfl, _, rfl, h⟩
      · replace h := h.2 c5
        refine r_aload_n (pc := 24) d_Md_lived_24 (x := a) rfl ?_
        refine r_aload_n (pc := 25) d_Md_lived_25 (x := a) rfl ?_
        obtain ⟨r8, er8, h⟩ := h
        refine r_getR (pc := 26) d_Md_lived_26 f_Md_105 sa (Or.inr ⟨_, rfl⟩) (r := r8) er8 ?_
        refine r_iload_n (pc := 29) d_Md_lived_29 (x := p0) rfl ?_
        obtain ⟨n10, s9, h⟩ := h
        obtain ⟨g11, h⟩ := h
        refine r_iald (pc := 30) d_Md_lived_30 s9 g11 ?_
        refine r_callV (pc := 31) (k := a) (As := [.int (S.1 r8 p0.toNatClampNeg)]) (rest := []) (mc' := 0) (ms' := 0) lk_Md_122 in_Md_gives se_Md_gives sa rfl d_Md_lived_31 k_Md_gives rfl rfl (Nat.le_of_ble_eq_true rfl) (by decide) (by decide) (Sp.mono h ?_)
        rintro rS12 shS12 S12 ⟨qS12, x13, uS12, h⟩
        subst uS12
        rw [qS12]
        refine r_goto (pc := 34) d_Md_lived_34 (tgt := 43) (by decide) ?_
        exact r_ireturn (pc := 43) d_Md_lived_43 rfl rfl (Nat.le_refl _) ⟨rfl, _, rfl, h⟩
    · replace h := h.2 c4
      refine r_aload_n (pc := 9) d_Md_lived_9 (x := a) rfl ?_
      refine r_iconst (pc := 10) d_Md_lived_10 (v := 1) (by decide) ?_
      refine r_callV (pc := 11) (k := a) (As := [.int 1]) (rest := []) (mc' := 0) (ms' := 0) lk_Md_118 in_Md_refuse se_Md_refuse sa rfl d_Md_lived_11 k_Md_refuse rfl rfl (Nat.le_of_ble_eq_true rfl) (by decide) (by decide) (Sp.mono h ?_)
      rintro rS14 shS14 S14 ⟨qS14, x15, uS14, h⟩
      subst uS14
      rw [qS14]
      refine r_goto (pc := 14) d_Md_lived_14 (tgt := 43) (by decide) ?_
      exact r_ireturn (pc := 43) d_Md_lived_43 rfl rfl (Nat.le_refl _) ⟨rfl, _, rfl, h⟩
set_option maxRecDepth 4000 in
theorem e_Md_mean {l : Launch} {d : Nat} {sh : aw_SH} {S : aw_S} {P : Int32 → aw_S → Prop} {a : Nat} {p0 : Int32} {p1 : Int32} (sa : sh[a]? = some (0, 11)) (h : Sp l m_Md_isFrom d 0 0 [.long p0.toInt64, .long 0, .long 9999] sh S (gI sh (fun x2 S1 => ((x2 = 0 → Sp l m_Md_is d 0 0 [.ref a, .int 1] sh S1 (gI sh (fun x5 S4 => ((x5 = 0 ∨ x5 = 1) ∧ P x5 S4)))) ∧ (¬ x2 = 0 → Sp l m_Md_isFrom d 0 0 [.long p1.toInt64, .long 1, .long 20] sh S1 (gI sh (fun x8 S7 => ((x8 = 0 → Sp l m_Md_is d 0 0 [.ref a, .int 1] sh S7 (gI sh (fun x11 S10 => ((x11 = 0 ∨ x11 = 1) ∧ P x11 S10)))) ∧ (¬ x8 = 0 → ((((p0 + p1) - (1 : Int32)) ≤ 9999 → ∃ r14, S7.2.2 a 0 = some r14 ∧ ∃ n16, sh[r14]? = some (3, n16) ∧ vp_in 5 n16 ∧ ((¬ (S7.1 r14 (5 : Int32).toNatClampNeg) = (-1) → Sp l m_Md_keeps d 0 0 [.ref a, .int 2760] sh S7 (gV sh (fun S19 => AW l m_Md_mean (d + 1) 0 0 (gI sh P) 0 0 70 [.ref a, .int p0, .int p1, .long 0, .null, .int 0] [] sh S19))) ∧ ((S7.1 r14 (5 : Int32).toNatClampNeg) = (-1) → Sp l m_Md_is d 0 0 [.ref a, .int 6] sh S7 (gI sh (fun x21 S20 => ((x21 = 0 ∨ x21 = 1) ∧ P x21 S20)))))) ∧ (¬ ((p0 + p1) - (1 : Int32)) ≤ 9999 → Sp l m_Md_is d 0 0 [.ref a, .int 1] sh S7 (gI sh (fun x24 S23 => ((x24 = 0 ∨ x24 = 1) ∧ P x24 S23)))))))))))))) : Sp l m_Md_mean (d + 1) 0 0 [.ref a, .int p0, .int p1] sh S (gI sh P) := by
  refine Sp.of k_Md_mean (ls := [.ref a, .int p0, .int p1, .null, .null, .null]) rfl (Nat.le_of_ble_eq_true rfl) ?_
  refine r_iload_n (pc := 0) d_Md_mean_0 (x := p0) rfl ?_
  refine r_i2l (pc := 1) d_Md_mean_1 ?_
  refine r_lconst (pc := 2) d_Md_mean_2 (v := 0) (by decide) ?_
  refine r_ldc2 (pc := 3) d_Md_mean_3 cl_Md_514 ?_
  refine r_callS (pc := 6) (k := 0) (As := [.long p0.toInt64, .long 0, .long 9999]) (rest := []) (mc' := 0) (ms' := 0) lk_Md_372 st_Md_isFrom d_Md_mean_6 k_Md_isFrom rfl rfl (Nat.le_of_ble_eq_true rfl) (by decide) (by decide) (Sp.mono h ?_)
  rintro rS1 shS1 S1 ⟨qS1, x2, uS1, h⟩
  subst uS1
  rw [qS1]
  refine r_if_eq (pc := 9) d_Md_mean_9 (tgt := 35) (by decide) (fun c3 => ?_) (fun c3 => ?_)
  · replace h := h.1 c3
    refine r_aload_n (pc := 35) d_Md_mean_35 (x := a) rfl ?_
    refine r_iconst (pc := 36) d_Md_mean_36 (v := 1) (by decide) ?_
    refine r_callV (pc := 37) (k := a) (As := [.int 1]) (rest := []) (mc' := 0) (ms' := 0) lk_Md_125 in_Md_is se_Md_is sa rfl d_Md_mean_37 k_Md_is rfl rfl (Nat.le_of_ble_eq_true rfl) (by decide) (by decide) (Sp.mono h ?_)
    rintro rS4 shS4 S4 ⟨qS4, x5, uS4, h⟩
    subst uS4
    rw [qS4]
    obtain ⟨g6, h⟩ := h
    exact r_zreturn (pc := 40) d_Md_mean_40 rfl (aw_nb g6) rfl (Nat.le_refl _) ⟨rfl, _, rfl, h⟩
  · replace h := h.2 c3
    refine r_iload_n (pc := 12) d_Md_mean_12 (x := p1) rfl ?_
    refine r_i2l (pc := 13) d_Md_mean_13 ?_
    refine r_lconst (pc := 14) d_Md_mean_14 (v := 1) (by decide) ?_
    refine r_ldc2 (pc := 15) d_Md_mean_15 cl_Md_436 ?_
    refine r_callS (pc := 18) (k := 0) (As := [.long p1.toInt64, .long 1, .long 20]) (rest := []) (mc' := 0) (ms' := 0) lk_Md_372 st_Md_isFrom d_Md_mean_18 k_Md_isFrom rfl rfl (Nat.le_of_ble_eq_true rfl) (by decide) (by decide) (Sp.mono h ?_)
    rintro rS7 shS7 S7 ⟨qS7, x8, uS7, h⟩
    subst uS7
    rw [qS7]
    refine r_if_eq (pc := 21) d_Md_mean_21 (tgt := 35) (by decide) (fun c9 => ?_) (fun c9 => ?_)
    · replace h := h.1 c9
      refine r_aload_n (pc := 35) d_Md_mean_35 (x := a) rfl ?_
      refine r_iconst (pc := 36) d_Md_mean_36 (v := 1) (by decide) ?_
      refine r_callV (pc := 37) (k := a) (As := [.int 1]) (rest := []) (mc' := 0) (ms' := 0) lk_Md_125 in_Md_is se_Md_is sa rfl d_Md_mean_37 k_Md_is rfl rfl (Nat.le_of_ble_eq_true rfl) (by decide) (by decide) (Sp.mono h ?_)
      rintro rS10 shS10 S10 ⟨qS10, x11, uS10, h⟩
      subst uS10
      rw [qS10]
      obtain ⟨g12, h⟩ := h
      exact r_zreturn (pc := 40) d_Md_mean_40 rfl (aw_nb g12) rfl (Nat.le_refl _) ⟨rfl, _, rfl, h⟩
    · replace h := h.2 c9
      refine r_iload_n (pc := 24) d_Md_mean_24 (x := p0) rfl ?_
      refine r_iload_n (pc := 25) d_Md_mean_25 (x := p1) rfl ?_
      refine r_iadd (pc := 26) d_Md_mean_26 ?_
      refine r_iconst (pc := 27) d_Md_mean_27 (v := 1) (by decide) ?_
      refine r_isub (pc := 28) d_Md_mean_28 ?_
      refine r_sipush (pc := 29) d_Md_mean_29 (v := 9999) (by decide) ?_
      refine r_icmp_le (pc := 32) d_Md_mean_32 (tgt := 41) (by decide) (fun c13 => ?_) (fun c13 => ?_)
      · replace h := h.1 c13
        refine r_aload_n (pc := 41) d_Md_mean_41 (x := a) rfl ?_
        obtain ⟨r14, er14, h⟩ := h
        refine r_getR (pc := 42) d_Md_mean_42 f_Md_7 sa (Or.inr ⟨_, rfl⟩) (r := r14) er14 ?_
        refine r_iconst (pc := 45) d_Md_mean_45 (v := 5) (by decide) ?_
        obtain ⟨n16, s15, h⟩ := h
        obtain ⟨g17, h⟩ := h
        refine r_iald (pc := 46) d_Md_mean_46 s15 g17 ?_
        refine r_iconst (pc := 47) d_Md_mean_47 (v := (-1)) (by decide) ?_
        refine r_icmp_ne (pc := 48) d_Md_mean_48 (tgt := 58) (by decide) (fun c18 => ?_) (fun c18 => ?_)
        · replace h := h.1 c18
          refine r_aload_n (pc := 58) d_Md_mean_58 (x := a) rfl ?_
          refine r_sipush (pc := 59) d_Md_mean_59 (v := 2760) (by decide) ?_
          refine r_callV (pc := 62) (k := a) (As := [.int 2760]) (rest := []) (mc' := 0) (ms' := 0) lk_Md_451 in_Md_keeps se_Md_keeps sa rfl d_Md_mean_62 k_Md_keeps rfl rfl (Nat.le_of_ble_eq_true rfl) (by decide) (by decide) (Sp.mono h ?_)
          rintro rS19 shS19 S19 ⟨qS19, uS19, h⟩
          subst uS19
          rw [qS19]
          refine r_lconst (pc := 65) d_Md_mean_65 (v := 0) (by decide) ?_
          refine r_lstore_n (pc := 66) (hk := rfl) (hd := d_Md_mean_66) (hi := by decide) (ls2 := [.ref a, .int p0, .int p1, .long 0, .null, .null]) (h2 := rfl) ?_
          refine r_iconst (pc := 67) d_Md_mean_67 (v := 0) (by decide) ?_
          refine r_istore (pc := 68) (hd := d_Md_mean_68) (hi := by decide) (ls2 := [.ref a, .int p0, .int p1, .long 0, .null, .int 0]) (h2 := rfl) ?_
          exact h
        · replace h := h.2 c18
          refine r_aload_n (pc := 51) d_Md_mean_51 (x := a) rfl ?_
          refine r_bipush (pc := 52) d_Md_mean_52 (v := 6) (by decide) ?_
          refine r_callV (pc := 54) (k := a) (As := [.int 6]) (rest := []) (mc' := 0) (ms' := 0) lk_Md_125 in_Md_is se_Md_is sa rfl d_Md_mean_54 k_Md_is rfl rfl (Nat.le_of_ble_eq_true rfl) (by decide) (by decide) (Sp.mono h ?_)
          rintro rS20 shS20 S20 ⟨qS20, x21, uS20, h⟩
          subst uS20
          rw [qS20]
          obtain ⟨g22, h⟩ := h
          exact r_zreturn (pc := 57) d_Md_mean_57 rfl (aw_nb g22) rfl (Nat.le_refl _) ⟨rfl, _, rfl, h⟩
      · replace h := h.2 c13
        refine r_aload_n (pc := 35) d_Md_mean_35 (x := a) rfl ?_
        refine r_iconst (pc := 36) d_Md_mean_36 (v := 1) (by decide) ?_
        refine r_callV (pc := 37) (k := a) (As := [.int 1]) (rest := []) (mc' := 0) (ms' := 0) lk_Md_125 in_Md_is se_Md_is sa rfl d_Md_mean_37 k_Md_is rfl rfl (Nat.le_of_ble_eq_true rfl) (by decide) (by decide) (Sp.mono h ?_)
        rintro rS23 shS23 S23 ⟨qS23, x24, uS23, h⟩
        subst uS23
        rw [qS23]
        obtain ⟨g25, h⟩ := h
        exact r_zreturn (pc := 40) d_Md_mean_40 rfl (aw_nb g25) rfl (Nat.le_refl _) ⟨rfl, _, rfl, h⟩
set_option maxRecDepth 4000 in
theorem s_Md_mean_70 {l : Launch} {d : Nat} {sh : aw_SH} {S : aw_S} {P : Int32 → aw_S → Prop} {a : Nat} {i1 : Int32} {i2 : Int32} {i3 : Int64} {i5 : Int32} (sa : sh[a]? = some (0, 11)) (h : ((i2 ≤ i5 → Sp l m_Md_tellsBy d 0 0 [.ref a, .long i3, .long i2.toInt64] sh S (gI sh (fun x3 S2 => ((x3 = 0 ∨ x3 = 1) ∧ P x3 S2)))) ∧ (¬ i2 ≤ i5 → Sp l m_Md_lives d 0 0 [.ref a, .int (i1 + i5)] sh S (gV sh (fun S5 => ∃ r6, S5.2.2 a 0 = some r6 ∧ ∃ n8, sh[r6]? = some (3, n8) ∧ vp_in 3 n8 ∧ Sp l m_Md_restores d 0 0 [.ref a, .int 2760] sh S5 (gV sh (fun S10 => AW l m_Md_mean (d + 1) 0 0 (gI sh P) 0 0 70 [.ref a, .int i1, .int i2, .long (i3 + ((S5.1 r6 (3 : Int32).toNatClampNeg).toInt64)), .null, .int (i5 + 1)] [] sh S10))))))) : AW l m_Md_mean (d + 1) 0 0 (gI sh P) 0 0 70 [.ref a, .int i1, .int i2, .long i3, .null, .int i5] [] sh S := by
  refine r_iload (pc := 70) d_Md_mean_70 (x := i5) rfl ?_
  refine r_iload_n (pc := 72) d_Md_mean_72 (x := i2) rfl ?_
  refine r_icmp_ge (pc := 73) d_Md_mean_73 (tgt := 107) (by decide) (fun c1 => ?_) (fun c1 => ?_)
  · replace h := h.1 c1
    refine r_aload_n (pc := 107) d_Md_mean_107 (x := a) rfl ?_
    refine r_lload_n (pc := 108) d_Md_mean_108 (x := i3) rfl ?_
    refine r_iload_n (pc := 109) d_Md_mean_109 (x := i2) rfl ?_
    refine r_i2l (pc := 110) d_Md_mean_110 ?_
    refine r_callV (pc := 111) (k := a) (As := [.long i3, .long i2.toInt64]) (rest := []) (mc' := 0) (ms' := 0) lk_Md_479 in_Md_tellsBy se_Md_tellsBy sa rfl d_Md_mean_111 k_Md_tellsBy rfl rfl (Nat.le_of_ble_eq_true rfl) (by decide) (by decide) (Sp.mono h ?_)
    rintro rS2 shS2 S2 ⟨qS2, x3, uS2, h⟩
    subst uS2
    rw [qS2]
    obtain ⟨g4, h⟩ := h
    exact r_zreturn (pc := 114) d_Md_mean_114 rfl (aw_nb g4) rfl (Nat.le_refl _) ⟨rfl, _, rfl, h⟩
  · replace h := h.2 c1
    refine r_aload_n (pc := 76) d_Md_mean_76 (x := a) rfl ?_
    refine r_iload_n (pc := 77) d_Md_mean_77 (x := i1) rfl ?_
    refine r_iload (pc := 78) d_Md_mean_78 (x := i5) rfl ?_
    refine r_iadd (pc := 80) d_Md_mean_80 ?_
    refine r_callV (pc := 81) (k := a) (As := [.int (i1 + i5)]) (rest := []) (mc' := 0) (ms' := 0) lk_Md_516 in_Md_lives se_Md_lives sa rfl d_Md_mean_81 k_Md_lives rfl rfl (Nat.le_of_ble_eq_true rfl) (by decide) (by decide) (Sp.mono h ?_)
    rintro rS5 shS5 S5 ⟨qS5, uS5, h⟩
    subst uS5
    rw [qS5]
    refine r_lload_n (pc := 84) d_Md_mean_84 (x := i3) rfl ?_
    refine r_aload_n (pc := 85) d_Md_mean_85 (x := a) rfl ?_
    obtain ⟨r6, er6, h⟩ := h
    refine r_getR (pc := 86) d_Md_mean_86 f_Md_7 sa (Or.inr ⟨_, rfl⟩) (r := r6) er6 ?_
    refine r_iconst (pc := 89) d_Md_mean_89 (v := 3) (by decide) ?_
    obtain ⟨n8, s7, h⟩ := h
    obtain ⟨g9, h⟩ := h
    refine r_iald (pc := 90) d_Md_mean_90 s7 g9 ?_
    refine r_i2l (pc := 91) d_Md_mean_91 ?_
    refine r_ladd (pc := 92) d_Md_mean_92 ?_
    refine r_lstore_n (pc := 93) (hk := rfl) (hd := d_Md_mean_93) (hi := by decide) (ls2 := [.ref a, .int i1, .int i2, .long (i3 + ((S5.1 r6 (3 : Int32).toNatClampNeg).toInt64)), .null, .int i5]) (h2 := rfl) ?_
    refine r_aload_n (pc := 94) d_Md_mean_94 (x := a) rfl ?_
    refine r_sipush (pc := 95) d_Md_mean_95 (v := 2760) (by decide) ?_
    refine r_callV (pc := 98) (k := a) (As := [.int 2760]) (rest := []) (mc' := 0) (ms' := 0) lk_Md_454 in_Md_restores se_Md_restores sa rfl d_Md_mean_98 k_Md_restores rfl rfl (Nat.le_of_ble_eq_true rfl) (by decide) (by decide) (Sp.mono h ?_)
    rintro rS10 shS10 S10 ⟨qS10, uS10, h⟩
    subst uS10
    rw [qS10]
    refine r_iinc (pc := 101) d_Md_mean_101 (hi := by decide) (x := i5) rfl (v := i5 + 1) rfl (ls2 := [.ref a, .int i1, .int i2, .long (i3 + ((S5.1 r6 (3 : Int32).toNatClampNeg).toInt64)), .null, .int (i5 + 1)]) rfl ?_
    refine r_goto (pc := 104) d_Md_mean_104 (tgt := 70) (by decide) ?_
    exact h
set_option maxRecDepth 4000 in
theorem e_Md_mark {l : Launch} {d : Nat} {sh : aw_SH} {S : aw_S} {P : Int32 → aw_S → Prop} {a : Nat} (sa : sh[a]? = some (0, 11)) (h : ((¬ (S.1 a 51) = 3 → Sp l m_Md_copies d 0 0 [.ref a, .int 0, .int ((aw_uI S a 51 ((S.1 a 51) + (1 : Int32))).1 a 51)] sh (aw_uI S a 51 ((S.1 a 51) + (1 : Int32))) (gV sh (fun S2 => Sp l m_Md_gives d 0 0 [.ref a, .int (S2.1 a 51)] sh S2 (gI sh (fun x4 S3 => P x4 S3))))) ∧ ((S.1 a 51) = 3 → Sp l m_Md_refuse d 0 0 [.ref a, .int 4] sh S (gI sh (fun x6 S5 => P x6 S5))))) : Sp l m_Md_mark (d + 1) 0 0 [.ref a] sh S (gI sh P) := by
  refine Sp.of k_Md_mark (ls := [.ref a]) rfl (Nat.le_of_ble_eq_true rfl) ?_
  refine r_aload_n (pc := 0) d_Md_mark_0 (x := a) rfl ?_
  refine r_getI (pc := 1) d_Md_mark_1 f_Md_523 sa rfl ?_
  refine r_iconst (pc := 4) d_Md_mark_4 (v := 3) (by decide) ?_
  refine r_icmp_ne (pc := 5) d_Md_mark_5 (tgt := 14) (by decide) (fun c1 => ?_) (fun c1 => ?_)
  · replace h := h.1 c1
    refine r_aload_n (pc := 14) d_Md_mark_14 (x := a) rfl ?_
    refine r_dup (pc := 15) d_Md_mark_15 rfl ?_
    refine r_getI (pc := 16) d_Md_mark_16 f_Md_523 sa rfl ?_
    refine r_iconst (pc := 19) d_Md_mark_19 (v := 1) (by decide) ?_
    refine r_iadd (pc := 20) d_Md_mark_20 ?_
    refine r_putI (pc := 21) d_Md_mark_21 f_Md_523 sa rfl ?_
    refine r_aload_n (pc := 24) d_Md_mark_24 (x := a) rfl ?_
    refine r_iconst (pc := 25) d_Md_mark_25 (v := 0) (by decide) ?_
    refine r_aload_n (pc := 26) d_Md_mark_26 (x := a) rfl ?_
    refine r_getI (pc := 27) d_Md_mark_27 f_Md_523 sa rfl ?_
    refine r_callV (pc := 30) (k := a) (As := [.int 0, .int ((aw_uI S a 51 ((S.1 a 51) + (1 : Int32))).1 a 51)]) (rest := []) (mc' := 0) (ms' := 0) lk_Md_526 in_Md_copies se_Md_copies sa rfl d_Md_mark_30 k_Md_copies rfl rfl (Nat.le_of_ble_eq_true rfl) (by decide) (by decide) (Sp.mono h ?_)
    rintro rS2 shS2 S2 ⟨qS2, uS2, h⟩
    subst uS2
    rw [qS2]
    refine r_aload_n (pc := 33) d_Md_mark_33 (x := a) rfl ?_
    refine r_aload_n (pc := 34) d_Md_mark_34 (x := a) rfl ?_
    refine r_getI (pc := 35) d_Md_mark_35 f_Md_523 sa rfl ?_
    refine r_callV (pc := 38) (k := a) (As := [.int (S2.1 a 51)]) (rest := []) (mc' := 0) (ms' := 0) lk_Md_122 in_Md_gives se_Md_gives sa rfl d_Md_mark_38 k_Md_gives rfl rfl (Nat.le_of_ble_eq_true rfl) (by decide) (by decide) (Sp.mono h ?_)
    rintro rS3 shS3 S3 ⟨qS3, x4, uS3, h⟩
    subst uS3
    rw [qS3]
    exact r_ireturn (pc := 41) d_Md_mark_41 rfl rfl (Nat.le_refl _) ⟨rfl, _, rfl, h⟩
  · replace h := h.2 c1
    refine r_aload_n (pc := 8) d_Md_mark_8 (x := a) rfl ?_
    refine r_iconst (pc := 9) d_Md_mark_9 (v := 4) (by decide) ?_
    refine r_callV (pc := 10) (k := a) (As := [.int 4]) (rest := []) (mc' := 0) (ms' := 0) lk_Md_118 in_Md_refuse se_Md_refuse sa rfl d_Md_mark_10 k_Md_refuse rfl rfl (Nat.le_of_ble_eq_true rfl) (by decide) (by decide) (Sp.mono h ?_)
    rintro rS5 shS5 S5 ⟨qS5, x6, uS5, h⟩
    subst uS5
    rw [qS5]
    exact r_ireturn (pc := 13) d_Md_mark_13 rfl rfl (Nat.le_refl _) ⟨rfl, _, rfl, h⟩
set_option maxRecDepth 4000 in
theorem e_Md_copies {l : Launch} {d : Nat} {sh : aw_SH} {S : aw_S} {P : aw_S → Prop} {a : Nat} {p0 : Int32} {p1 : Int32} (sa : sh[a]? = some (0, 11)) (h : AW l m_Md_copies (d + 1) 0 0 (gV sh P) 0 0 2 [.ref a, .int p0, .int p1, .int 0] [] sh S) : Sp l m_Md_copies (d + 1) 0 0 [.ref a, .int p0, .int p1] sh S (gV sh P) := by
  refine Sp.of k_Md_copies (ls := [.ref a, .int p0, .int p1, .null]) rfl (Nat.le_of_ble_eq_true rfl) ?_
  refine r_iconst (pc := 0) d_Md_copies_0 (v := 0) (by decide) ?_
  refine r_istore_n (pc := 1) (hk := rfl) (hd := d_Md_copies_1) (hi := by decide) (ls2 := [.ref a, .int p0, .int p1, .int 0]) (h2 := rfl) ?_
  exact h
set_option maxRecDepth 4000 in
theorem s_Md_copies_2 {l : Launch} {d : Nat} {sh : aw_SH} {S : aw_S} {P : aw_S → Prop} {a : Nat} {i1 : Int32} {i2 : Int32} {i3 : Int32} (sa : sh[a]? = some (0, 11)) (h : ((552 ≤ i3 → AW l m_Md_copies (d + 1) 0 0 (gV sh P) 0 0 41 [.ref a, .int i1, .int i2, .int 0] [] sh S) ∧ (¬ 552 ≤ i3 → ∃ r2, S.2.2 a 0 = some r2 ∧ ∃ n4, sh[r2]? = some (3, n4) ∧ vp_in (((552 : Int32) * i1) + i3) n4 ∧ vp_in (((552 : Int32) * i2) + i3) n4 ∧ AW l m_Md_copies (d + 1) 0 0 (gV sh P) 0 0 2 [.ref a, .int i1, .int i2, .int (i3 + 1)] [] sh (aw_uI S r2 ((((552 : Int32) * i2) + i3 : Int32).toNatClampNeg) (S.1 r2 (((552 : Int32) * i1) + i3 : Int32).toNatClampNeg))))) : AW l m_Md_copies (d + 1) 0 0 (gV sh P) 0 0 2 [.ref a, .int i1, .int i2, .int i3] [] sh S := by
  refine r_iload_n (pc := 2) d_Md_copies_2 (x := i3) rfl ?_
  refine r_sipush (pc := 3) d_Md_copies_3 (v := 552) (by decide) ?_
  refine r_icmp_ge (pc := 6) d_Md_copies_6 (tgt := 39) (by decide) (fun c1 => ?_) (fun c1 => ?_)
  · replace h := h.1 c1
    refine r_iconst (pc := 39) d_Md_copies_39 (v := 0) (by decide) ?_
    refine r_istore_n (pc := 40) (hk := rfl) (hd := d_Md_copies_40) (hi := by decide) (ls2 := [.ref a, .int i1, .int i2, .int 0]) (h2 := rfl) ?_
    exact h
  · replace h := h.2 c1
    refine r_aload_n (pc := 9) d_Md_copies_9 (x := a) rfl ?_
    obtain ⟨r2, er2, h⟩ := h
    refine r_getR (pc := 10) d_Md_copies_10 f_Md_7 sa (Or.inr ⟨_, rfl⟩) (r := r2) er2 ?_
    refine r_sipush (pc := 13) d_Md_copies_13 (v := 552) (by decide) ?_
    refine r_iload_n (pc := 16) d_Md_copies_16 (x := i2) rfl ?_
    refine r_imul (pc := 17) d_Md_copies_17 ?_
    refine r_iload_n (pc := 18) d_Md_copies_18 (x := i3) rfl ?_
    refine r_iadd (pc := 19) d_Md_copies_19 ?_
    refine r_aload_n (pc := 20) d_Md_copies_20 (x := a) rfl ?_
    refine r_getR (pc := 21) d_Md_copies_21 f_Md_7 sa (Or.inr ⟨_, rfl⟩) (r := r2) er2 ?_
    refine r_sipush (pc := 24) d_Md_copies_24 (v := 552) (by decide) ?_
    refine r_iload_n (pc := 27) d_Md_copies_27 (x := i1) rfl ?_
    refine r_imul (pc := 28) d_Md_copies_28 ?_
    refine r_iload_n (pc := 29) d_Md_copies_29 (x := i3) rfl ?_
    refine r_iadd (pc := 30) d_Md_copies_30 ?_
    obtain ⟨n4, s3, h⟩ := h
    obtain ⟨g5, h⟩ := h
    refine r_iald (pc := 31) d_Md_copies_31 s3 g5 ?_
    obtain ⟨g6, h⟩ := h
    refine r_iast (pc := 32) d_Md_copies_32 s3 g6 ?_
    refine r_iinc (pc := 33) d_Md_copies_33 (hi := by decide) (x := i3) rfl (v := i3 + 1) rfl (ls2 := [.ref a, .int i1, .int i2, .int (i3 + 1)]) rfl ?_
    refine r_goto (pc := 36) d_Md_copies_36 (tgt := 2) (by decide) ?_
    exact h
set_option maxRecDepth 4000 in
theorem s_Md_copies_41 {l : Launch} {d : Nat} {sh : aw_SH} {S : aw_S} {P : aw_S → Prop} {a : Nat} {i1 : Int32} {i2 : Int32} {i3 : Int32} (sa : sh[a]? = some (0, 11)) (h : ((7 ≤ i3 → P S) ∧ (¬ 7 ≤ i3 → ∃ r2, S.2.2 a 1 = some r2 ∧ ∃ n4, sh[r2]? = some (4, n4) ∧ vp_in (((7 : Int32) * i1) + i3) n4 ∧ vp_in (((7 : Int32) * i2) + i3) n4 ∧ AW l m_Md_copies (d + 1) 0 0 (gV sh P) 0 0 41 [.ref a, .int i1, .int i2, .int (i3 + 1)] [] sh (aw_uL S r2 ((((7 : Int32) * i2) + i3 : Int32).toNatClampNeg) (S.2.1 r2 (((7 : Int32) * i1) + i3 : Int32).toNatClampNeg))))) : AW l m_Md_copies (d + 1) 0 0 (gV sh P) 0 0 41 [.ref a, .int i1, .int i2, .int i3] [] sh S := by
  refine r_iload_n (pc := 41) d_Md_copies_41 (x := i3) rfl ?_
  refine r_bipush (pc := 42) d_Md_copies_42 (v := 7) (by decide) ?_
  refine r_icmp_ge (pc := 44) d_Md_copies_44 (tgt := 75) (by decide) (fun c1 => ?_) (fun c1 => ?_)
  · replace h := h.1 c1
    exact r_return (pc := 75) d_Md_copies_75 rfl rfl (Nat.le_refl _) ⟨rfl, rfl, h⟩
  · replace h := h.2 c1
    refine r_aload_n (pc := 47) d_Md_copies_47 (x := a) rfl ?_
    obtain ⟨r2, er2, h⟩ := h
    refine r_getR (pc := 48) d_Md_copies_48 f_Md_13 sa (Or.inr ⟨_, rfl⟩) (r := r2) er2 ?_
    refine r_bipush (pc := 51) d_Md_copies_51 (v := 7) (by decide) ?_
    refine r_iload_n (pc := 53) d_Md_copies_53 (x := i2) rfl ?_
    refine r_imul (pc := 54) d_Md_copies_54 ?_
    refine r_iload_n (pc := 55) d_Md_copies_55 (x := i3) rfl ?_
    refine r_iadd (pc := 56) d_Md_copies_56 ?_
    refine r_aload_n (pc := 57) d_Md_copies_57 (x := a) rfl ?_
    refine r_getR (pc := 58) d_Md_copies_58 f_Md_13 sa (Or.inr ⟨_, rfl⟩) (r := r2) er2 ?_
    refine r_bipush (pc := 61) d_Md_copies_61 (v := 7) (by decide) ?_
    refine r_iload_n (pc := 63) d_Md_copies_63 (x := i1) rfl ?_
    refine r_imul (pc := 64) d_Md_copies_64 ?_
    refine r_iload_n (pc := 65) d_Md_copies_65 (x := i3) rfl ?_
    refine r_iadd (pc := 66) d_Md_copies_66 ?_
    obtain ⟨n4, s3, h⟩ := h
    obtain ⟨g5, h⟩ := h
    refine r_lald (pc := 67) d_Md_copies_67 s3 g5 ?_
    obtain ⟨g6, h⟩ := h
    refine r_last (pc := 68) d_Md_copies_68 s3 g6 ?_
    refine r_iinc (pc := 69) d_Md_copies_69 (hi := by decide) (x := i3) rfl (v := i3 + 1) rfl (ls2 := [.ref a, .int i1, .int i2, .int (i3 + 1)]) rfl ?_
    refine r_goto (pc := 72) d_Md_copies_72 (tgt := 41) (by decide) ?_
    exact h
set_option maxRecDepth 4000 in
theorem e_Md_undo {l : Launch} {d : Nat} {sh : aw_SH} {S : aw_S} {P : Int32 → aw_S → Prop} {a : Nat} (sa : sh[a]? = some (0, 11)) (h : ((¬ (S.1 a 51) = 0 → Sp l m_Md_copies d 0 0 [.ref a, .int (S.1 a 51), .int 0] sh S (gV sh (fun S2 => Sp l m_Md_gives d 0 0 [.ref a, .int ((aw_uI S2 a 51 ((S2.1 a 51) - (1 : Int32))).1 a 51)] sh (aw_uI S2 a 51 ((S2.1 a 51) - (1 : Int32))) (gI sh (fun x4 S3 => P x4 S3))))) ∧ ((S.1 a 51) = 0 → Sp l m_Md_refuse d 0 0 [.ref a, .int 6] sh S (gI sh (fun x6 S5 => P x6 S5))))) : Sp l m_Md_undo (d + 1) 0 0 [.ref a] sh S (gI sh P) := by
  refine Sp.of k_Md_undo (ls := [.ref a]) rfl (Nat.le_of_ble_eq_true rfl) ?_
  refine r_aload_n (pc := 0) d_Md_undo_0 (x := a) rfl ?_
  refine r_getI (pc := 1) d_Md_undo_1 f_Md_523 sa rfl ?_
  refine r_if_ne (pc := 4) d_Md_undo_4 (tgt := 14) (by decide) (fun c1 => ?_) (fun c1 => ?_)
  · replace h := h.1 c1
    refine r_aload_n (pc := 14) d_Md_undo_14 (x := a) rfl ?_
    refine r_aload_n (pc := 15) d_Md_undo_15 (x := a) rfl ?_
    refine r_getI (pc := 16) d_Md_undo_16 f_Md_523 sa rfl ?_
    refine r_iconst (pc := 19) d_Md_undo_19 (v := 0) (by decide) ?_
    refine r_callV (pc := 20) (k := a) (As := [.int (S.1 a 51), .int 0]) (rest := []) (mc' := 0) (ms' := 0) lk_Md_526 in_Md_copies se_Md_copies sa rfl d_Md_undo_20 k_Md_copies rfl rfl (Nat.le_of_ble_eq_true rfl) (by decide) (by decide) (Sp.mono h ?_)
    rintro rS2 shS2 S2 ⟨qS2, uS2, h⟩
    subst uS2
    rw [qS2]
    refine r_aload_n (pc := 23) d_Md_undo_23 (x := a) rfl ?_
    refine r_dup (pc := 24) d_Md_undo_24 rfl ?_
    refine r_getI (pc := 25) d_Md_undo_25 f_Md_523 sa rfl ?_
    refine r_iconst (pc := 28) d_Md_undo_28 (v := 1) (by decide) ?_
    refine r_isub (pc := 29) d_Md_undo_29 ?_
    refine r_putI (pc := 30) d_Md_undo_30 f_Md_523 sa rfl ?_
    refine r_aload_n (pc := 33) d_Md_undo_33 (x := a) rfl ?_
    refine r_aload_n (pc := 34) d_Md_undo_34 (x := a) rfl ?_
    refine r_getI (pc := 35) d_Md_undo_35 f_Md_523 sa rfl ?_
    refine r_callV (pc := 38) (k := a) (As := [.int ((aw_uI S2 a 51 ((S2.1 a 51) - (1 : Int32))).1 a 51)]) (rest := []) (mc' := 0) (ms' := 0) lk_Md_122 in_Md_gives se_Md_gives sa rfl d_Md_undo_38 k_Md_gives rfl rfl (Nat.le_of_ble_eq_true rfl) (by decide) (by decide) (Sp.mono h ?_)
    rintro rS3 shS3 S3 ⟨qS3, x4, uS3, h⟩
    subst uS3
    rw [qS3]
    exact r_ireturn (pc := 41) d_Md_undo_41 rfl rfl (Nat.le_refl _) ⟨rfl, _, rfl, h⟩
  · replace h := h.2 c1
    refine r_aload_n (pc := 7) d_Md_undo_7 (x := a) rfl ?_
    refine r_bipush (pc := 8) d_Md_undo_8 (v := 6) (by decide) ?_
    refine r_callV (pc := 10) (k := a) (As := [.int 6]) (rest := []) (mc' := 0) (ms' := 0) lk_Md_118 in_Md_refuse se_Md_refuse sa rfl d_Md_undo_10 k_Md_refuse rfl rfl (Nat.le_of_ble_eq_true rfl) (by decide) (by decide) (Sp.mono h ?_)
    rintro rS5 shS5 S5 ⟨qS5, x6, uS5, h⟩
    subst uS5
    rw [qS5]
    exact r_ireturn (pc := 13) d_Md_undo_13 rfl rfl (Nat.le_refl _) ⟨rfl, _, rfl, h⟩
