set_option maxRecDepth 4000 in
theorem e_Md_feastOrder {l : Launch} {d : Nat} {sh : aw_SH} {S : aw_S} {P : Int32 → aw_S → Prop} {a : Nat} {p0 : Int32} {p1 : Int32} (sa : sh[a]? = some (0, 11)) (h : ((((p0 : Int32).toInt < 3 ∨ 12 < (p0 : Int32).toInt) → P 1 S) ∧ (p0 = 3 → Sp l m_Md_passOrder d 0 0 [.ref a, .int p1] sh S (gI sh (fun x2 S1 => ((x2 = 0 ∨ x2 = 1) ∧ P x2 S1)))) ∧ (p0 = 4 → P 1 S) ∧ (p0 = 5 → P 1 S) ∧ (p0 = 6 → P 1 S) ∧ (p0 = 7 → P 1 S) ∧ (p0 = 8 → Sp l m_Md_number d 0 0 [.ref a, .int (p1 + (1 : Int32)), .int 1, .int 9] sh S (gI sh (fun x5 S4 => ((x5 = 0 ∨ x5 = 1) ∧ P x5 S4)))) ∧ (p0 = 9 → Sp l m_Md_dancerTo d 0 0 [.ref a, .int (p1 + (1 : Int32))] sh S (gI sh (fun x8 S7 => ((x8 = 0 → P 0 S7) ∧ (¬ x8 = 0 → Sp l m_Md_number d 0 0 [.ref a, .int (p1 + (2 : Int32)), .int 0, .int 5] sh S7 (gI sh (fun x11 S10 => ((x11 = 0 → P 0 S10) ∧ (¬ x11 = 0 → P 1 S10))))))))) ∧ (p0 = 10 → P 1 S) ∧ (p0 = 11 → Sp l m_Md_test d 0 0 [.ref a, .int p1] sh S (gI sh (fun x14 S13 => ((x14 = 0 ∨ x14 = 1) ∧ P x14 S13)))) ∧ (p0 = 12 → Sp l m_Md_number d 0 0 [.ref a, .int (p1 + (1 : Int32)), .int 1, .int 99] sh S (gI sh (fun x17 S16 => ((x17 = 0 ∨ x17 = 1) ∧ P x17 S16)))))) : Sp l m_Md_feastOrder (d + 1) 0 0 [.ref a, .int p0, .int p1] sh S (gI sh P) := by
  refine Sp.of k_Md_feastOrder (ls := [.ref a, .int p0, .int p1]) rfl (Nat.le_of_ble_eq_true rfl) ?_
  refine r_iload_n (pc := 0) d_Md_feastOrder_0 (x := p0) rfl ?_
  rcases aw_sw (p0) 3 12 with q19 | ⟨kq19, q19, wq19⟩
  · refine r_tabOut (pc := 1) d_Md_feastOrder_1 q19 (tgt := 118) (by decide) ?_
    replace h := h.1 q19
    refine r_iconst (pc := 118) d_Md_feastOrder_118 (v := 1) (by decide) ?_
    exact r_zreturn (pc := 119) d_Md_feastOrder_119 (v := 1) rfl (by decide) rfl (Nat.le_refl _) ⟨rfl, _, rfl, h⟩
  · rcases (show kq19 = 0 ∨ kq19 = 1 ∨ kq19 = 2 ∨ kq19 = 3 ∨ kq19 = 4 ∨ kq19 = 5 ∨ kq19 = 6 ∨ kq19 = 7 ∨ kq19 = 8 ∨ kq19 = 9 by omega) with rfl | rfl | rfl | rfl | rfl | rfl | rfl | rfl | rfl | rfl
    · refine r_tabIn (pc := 1) d_Md_feastOrder_1 (off := 55) (by omega) (by omega) (by rw [q19]; rfl) (tgt := 56) (by decide) ?_
      replace h := h.2.1 (aw_ix (y := 3) q19 (by decide))
      refine r_aload_n (pc := 56) d_Md_feastOrder_56 (x := a) rfl ?_
      refine r_iload_n (pc := 57) d_Md_feastOrder_57 (x := p1) rfl ?_
      refine r_callV (pc := 58) (k := a) (As := [.int p1]) (rest := []) (mc' := 0) (ms' := 0) lk_Md_295 in_Md_passOrder se_Md_passOrder sa rfl d_Md_feastOrder_58 k_Md_passOrder rfl rfl (Nat.le_of_ble_eq_true rfl) (by decide) (by decide) (Sp.mono h ?_)
      rintro rS1 shS1 S1 ⟨qS1, x2, uS1, h⟩
      subst uS1
      rw [qS1]
      obtain ⟨g3, h⟩ := h
      exact r_zreturn (pc := 61) d_Md_feastOrder_61 rfl (aw_nb g3) rfl (Nat.le_refl _) ⟨rfl, _, rfl, h⟩
    · refine r_tabIn (pc := 1) d_Md_feastOrder_1 (off := 117) (by omega) (by omega) (by rw [q19]; rfl) (tgt := 118) (by decide) ?_
      replace h := h.2.2.1 (aw_ix (y := 4) q19 (by decide))
      refine r_iconst (pc := 118) d_Md_feastOrder_118 (v := 1) (by decide) ?_
      exact r_zreturn (pc := 119) d_Md_feastOrder_119 (v := 1) rfl (by decide) rfl (Nat.le_refl _) ⟨rfl, _, rfl, h⟩
    · refine r_tabIn (pc := 1) d_Md_feastOrder_1 (off := 117) (by omega) (by omega) (by rw [q19]; rfl) (tgt := 118) (by decide) ?_
      replace h := h.2.2.2.1 (aw_ix (y := 5) q19 (by decide))
      refine r_iconst (pc := 118) d_Md_feastOrder_118 (v := 1) (by decide) ?_
      exact r_zreturn (pc := 119) d_Md_feastOrder_119 (v := 1) rfl (by decide) rfl (Nat.le_refl _) ⟨rfl, _, rfl, h⟩
    · refine r_tabIn (pc := 1) d_Md_feastOrder_1 (off := 117) (by omega) (by omega) (by rw [q19]; rfl) (tgt := 118) (by decide) ?_
      replace h := h.2.2.2.2.1 (aw_ix (y := 6) q19 (by decide))
      refine r_iconst (pc := 118) d_Md_feastOrder_118 (v := 1) (by decide) ?_
      exact r_zreturn (pc := 119) d_Md_feastOrder_119 (v := 1) rfl (by decide) rfl (Nat.le_refl _) ⟨rfl, _, rfl, h⟩
    · refine r_tabIn (pc := 1) d_Md_feastOrder_1 (off := 117) (by omega) (by omega) (by rw [q19]; rfl) (tgt := 118) (by decide) ?_
      replace h := h.2.2.2.2.2.1 (aw_ix (y := 7) q19 (by decide))
      refine r_iconst (pc := 118) d_Md_feastOrder_118 (v := 1) (by decide) ?_
      exact r_zreturn (pc := 119) d_Md_feastOrder_119 (v := 1) rfl (by decide) rfl (Nat.le_refl _) ⟨rfl, _, rfl, h⟩
    · refine r_tabIn (pc := 1) d_Md_feastOrder_1 (off := 61) (by omega) (by omega) (by rw [q19]; rfl) (tgt := 62) (by decide) ?_
      replace h := h.2.2.2.2.2.2.1 (aw_ix (y := 8) q19 (by decide))
      refine r_aload_n (pc := 62) d_Md_feastOrder_62 (x := a) rfl ?_
      refine r_iload_n (pc := 63) d_Md_feastOrder_63 (x := p1) rfl ?_
      refine r_iconst (pc := 64) d_Md_feastOrder_64 (v := 1) (by decide) ?_
      refine r_iadd (pc := 65) d_Md_feastOrder_65 ?_
      refine r_iconst (pc := 66) d_Md_feastOrder_66 (v := 1) (by decide) ?_
      refine r_bipush (pc := 67) d_Md_feastOrder_67 (v := 9) (by decide) ?_
      refine r_callV (pc := 69) (k := a) (As := [.int (p1 + (1 : Int32)), .int 1, .int 9]) (rest := []) (mc' := 0) (ms' := 0) lk_Md_257 in_Md_number se_Md_number sa rfl d_Md_feastOrder_69 k_Md_number rfl rfl (Nat.le_of_ble_eq_true rfl) (by decide) (by decide) (Sp.mono h ?_)
      rintro rS4 shS4 S4 ⟨qS4, x5, uS4, h⟩
      subst uS4
      rw [qS4]
      obtain ⟨g6, h⟩ := h
      exact r_zreturn (pc := 72) d_Md_feastOrder_72 rfl (aw_nb g6) rfl (Nat.le_refl _) ⟨rfl, _, rfl, h⟩
    · refine r_tabIn (pc := 1) d_Md_feastOrder_1 (off := 72) (by omega) (by omega) (by rw [q19]; rfl) (tgt := 73) (by decide) ?_
      replace h := h.2.2.2.2.2.2.2.1 (aw_ix (y := 9) q19 (by decide))
      refine r_aload_n (pc := 73) d_Md_feastOrder_73 (x := a) rfl ?_
      refine r_iload_n (pc := 74) d_Md_feastOrder_74 (x := p1) rfl ?_
      refine r_iconst (pc := 75) d_Md_feastOrder_75 (v := 1) (by decide) ?_
      refine r_iadd (pc := 76) d_Md_feastOrder_76 ?_
      refine r_callV (pc := 77) (k := a) (As := [.int (p1 + (1 : Int32))]) (rest := []) (mc' := 0) (ms' := 0) lk_Md_292 in_Md_dancerTo se_Md_dancerTo sa rfl d_Md_feastOrder_77 k_Md_dancerTo rfl rfl (Nat.le_of_ble_eq_true rfl) (by decide) (by decide) (Sp.mono h ?_)
      rintro rS7 shS7 S7 ⟨qS7, x8, uS7, h⟩
      subst uS7
      rw [qS7]
      refine r_if_eq (pc := 80) d_Md_feastOrder_80 (tgt := 99) (by decide) (fun c9 => ?_) (fun c9 => ?_)
      · replace h := h.1 c9
        refine r_iconst (pc := 99) d_Md_feastOrder_99 (v := 0) (by decide) ?_
        exact r_zreturn (pc := 100) d_Md_feastOrder_100 (v := 0) rfl (by decide) rfl (Nat.le_refl _) ⟨rfl, _, rfl, h⟩
      · replace h := h.2 c9
        refine r_aload_n (pc := 83) d_Md_feastOrder_83 (x := a) rfl ?_
        refine r_iload_n (pc := 84) d_Md_feastOrder_84 (x := p1) rfl ?_
        refine r_iconst (pc := 85) d_Md_feastOrder_85 (v := 2) (by decide) ?_
        refine r_iadd (pc := 86) d_Md_feastOrder_86 ?_
        refine r_iconst (pc := 87) d_Md_feastOrder_87 (v := 0) (by decide) ?_
        refine r_iconst (pc := 88) d_Md_feastOrder_88 (v := 5) (by decide) ?_
        refine r_callV (pc := 89) (k := a) (As := [.int (p1 + (2 : Int32)), .int 0, .int 5]) (rest := []) (mc' := 0) (ms' := 0) lk_Md_257 in_Md_number se_Md_number sa rfl d_Md_feastOrder_89 k_Md_number rfl rfl (Nat.le_of_ble_eq_true rfl) (by decide) (by decide) (Sp.mono h ?_)
        rintro rS10 shS10 S10 ⟨qS10, x11, uS10, h⟩
        subst uS10
        rw [qS10]
        refine r_if_eq (pc := 92) d_Md_feastOrder_92 (tgt := 99) (by decide) (fun c12 => ?_) (fun c12 => ?_)
        · replace h := h.1 c12
          refine r_iconst (pc := 99) d_Md_feastOrder_99 (v := 0) (by decide) ?_
          exact r_zreturn (pc := 100) d_Md_feastOrder_100 (v := 0) rfl (by decide) rfl (Nat.le_refl _) ⟨rfl, _, rfl, h⟩
        · replace h := h.2 c12
          refine r_iconst (pc := 95) d_Md_feastOrder_95 (v := 1) (by decide) ?_
          refine r_goto (pc := 96) d_Md_feastOrder_96 (tgt := 100) (by decide) ?_
          exact r_zreturn (pc := 100) d_Md_feastOrder_100 (v := 1) rfl (by decide) rfl (Nat.le_refl _) ⟨rfl, _, rfl, h⟩
    · refine r_tabIn (pc := 1) d_Md_feastOrder_1 (off := 117) (by omega) (by omega) (by rw [q19]; rfl) (tgt := 118) (by decide) ?_
      replace h := h.2.2.2.2.2.2.2.2.1 (aw_ix (y := 10) q19 (by decide))
      refine r_iconst (pc := 118) d_Md_feastOrder_118 (v := 1) (by decide) ?_
      exact r_zreturn (pc := 119) d_Md_feastOrder_119 (v := 1) rfl (by decide) rfl (Nat.le_refl _) ⟨rfl, _, rfl, h⟩
    · refine r_tabIn (pc := 1) d_Md_feastOrder_1 (off := 111) (by omega) (by omega) (by rw [q19]; rfl) (tgt := 112) (by decide) ?_
      replace h := h.2.2.2.2.2.2.2.2.2.1 (aw_ix (y := 11) q19 (by decide))
      refine r_aload_n (pc := 112) d_Md_feastOrder_112 (x := a) rfl ?_
      refine r_iload_n (pc := 113) d_Md_feastOrder_113 (x := p1) rfl ?_
      refine r_callV (pc := 114) (k := a) (As := [.int p1]) (rest := []) (mc' := 0) (ms' := 0) lk_Md_298 in_Md_test se_Md_test sa rfl d_Md_feastOrder_114 k_Md_test rfl rfl (Nat.le_of_ble_eq_true rfl) (by decide) (by decide) (Sp.mono h ?_)
      rintro rS13 shS13 S13 ⟨qS13, x14, uS13, h⟩
      subst uS13
      rw [qS13]
      obtain ⟨g15, h⟩ := h
      exact r_zreturn (pc := 117) d_Md_feastOrder_117 rfl (aw_nb g15) rfl (Nat.le_refl _) ⟨rfl, _, rfl, h⟩
    · refine r_tabIn (pc := 1) d_Md_feastOrder_1 (off := 100) (by omega) (by omega) (by rw [q19]; rfl) (tgt := 101) (by decide) ?_
      replace h := h.2.2.2.2.2.2.2.2.2.2 (aw_ix (y := 12) q19 (by decide))
      refine r_aload_n (pc := 101) d_Md_feastOrder_101 (x := a) rfl ?_
      refine r_iload_n (pc := 102) d_Md_feastOrder_102 (x := p1) rfl ?_
      refine r_iconst (pc := 103) d_Md_feastOrder_103 (v := 1) (by decide) ?_
      refine r_iadd (pc := 104) d_Md_feastOrder_104 ?_
      refine r_iconst (pc := 105) d_Md_feastOrder_105 (v := 1) (by decide) ?_
      refine r_bipush (pc := 106) d_Md_feastOrder_106 (v := 99) (by decide) ?_
      refine r_callV (pc := 108) (k := a) (As := [.int (p1 + (1 : Int32)), .int 1, .int 99]) (rest := []) (mc' := 0) (ms' := 0) lk_Md_257 in_Md_number se_Md_number sa rfl d_Md_feastOrder_108 k_Md_number rfl rfl (Nat.le_of_ble_eq_true rfl) (by decide) (by decide) (Sp.mono h ?_)
      rintro rS16 shS16 S16 ⟨qS16, x17, uS16, h⟩
      subst uS16
      rw [qS16]
      obtain ⟨g18, h⟩ := h
      exact r_zreturn (pc := 111) d_Md_feastOrder_111 rfl (aw_nb g18) rfl (Nat.le_refl _) ⟨rfl, _, rfl, h⟩
set_option maxRecDepth 4000 in
theorem e_Md_passOrder {l : Launch} {d : Nat} {sh : aw_SH} {S : aw_S} {P : Int32 → aw_S → Prop} {a : Nat} {p0 : Int32} (sa : sh[a]? = some (0, 11)) (h : Sp l m_Md_gapTo d 0 0 [.ref a, .int 0, .int (p0 + (1 : Int32))] sh S (gI sh (fun x2 S1 => ((x2 = 0 → P 0 S1) ∧ (¬ x2 = 0 → Sp l m_Md_howTo d 0 0 [.ref a, .int (p0 + (2 : Int32))] sh S1 (gI sh (fun x5 S4 => ((¬ x5 = 0 → Sp l m_Md_ahead d 0 0 [.ref a] sh S4 (gV sh (fun S7 => P 1 S7))) ∧ (x5 = 0 → P 0 S4))))))))) : Sp l m_Md_passOrder (d + 1) 0 0 [.ref a, .int p0] sh S (gI sh P) := by
  refine Sp.of k_Md_passOrder (ls := [.ref a, .int p0]) rfl (Nat.le_of_ble_eq_true rfl) ?_
  refine r_aload_n (pc := 0) d_Md_passOrder_0 (x := a) rfl ?_
  refine r_iconst (pc := 1) d_Md_passOrder_1 (v := 0) (by decide) ?_
  refine r_iload_n (pc := 2) d_Md_passOrder_2 (x := p0) rfl ?_
  refine r_iconst (pc := 3) d_Md_passOrder_3 (v := 1) (by decide) ?_
  refine r_iadd (pc := 4) d_Md_passOrder_4 ?_
  refine r_callV (pc := 5) (k := a) (As := [.int 0, .int (p0 + (1 : Int32))]) (rest := []) (mc' := 0) (ms' := 0) lk_Md_263 in_Md_gapTo se_Md_gapTo sa rfl d_Md_passOrder_5 k_Md_gapTo rfl rfl (Nat.le_of_ble_eq_true rfl) (by decide) (by decide) (Sp.mono h ?_)
  rintro rS1 shS1 S1 ⟨qS1, x2, uS1, h⟩
  subst uS1
  rw [qS1]
  refine r_if_eq (pc := 8) d_Md_passOrder_8 (tgt := 21) (by decide) (fun c3 => ?_) (fun c3 => ?_)
  · replace h := h.1 c3
    refine r_iconst (pc := 21) d_Md_passOrder_21 (v := 0) (by decide) ?_
    exact r_zreturn (pc := 22) d_Md_passOrder_22 (v := 0) rfl (by decide) rfl (Nat.le_refl _) ⟨rfl, _, rfl, h⟩
  · replace h := h.2 c3
    refine r_aload_n (pc := 11) d_Md_passOrder_11 (x := a) rfl ?_
    refine r_iload_n (pc := 12) d_Md_passOrder_12 (x := p0) rfl ?_
    refine r_iconst (pc := 13) d_Md_passOrder_13 (v := 2) (by decide) ?_
    refine r_iadd (pc := 14) d_Md_passOrder_14 ?_
    refine r_callV (pc := 15) (k := a) (As := [.int (p0 + (2 : Int32))]) (rest := []) (mc' := 0) (ms' := 0) lk_Md_266 in_Md_howTo se_Md_howTo sa rfl d_Md_passOrder_15 k_Md_howTo rfl rfl (Nat.le_of_ble_eq_true rfl) (by decide) (by decide) (Sp.mono h ?_)
    rintro rS4 shS4 S4 ⟨qS4, x5, uS4, h⟩
    subst uS4
    rw [qS4]
    refine r_if_ne (pc := 18) d_Md_passOrder_18 (tgt := 23) (by decide) (fun c6 => ?_) (fun c6 => ?_)
    · replace h := h.1 c6
      refine r_aload_n (pc := 23) d_Md_passOrder_23 (x := a) rfl ?_
      refine r_callV (pc := 24) (k := a) (As := []) (rest := []) (mc' := 0) (ms' := 0) lk_Md_194 in_Md_ahead se_Md_ahead sa rfl d_Md_passOrder_24 k_Md_ahead rfl rfl (Nat.le_of_ble_eq_true rfl) (by decide) (by decide) (Sp.mono h ?_)
      rintro rS7 shS7 S7 ⟨qS7, uS7, h⟩
      subst uS7
      rw [qS7]
      refine r_iconst (pc := 27) d_Md_passOrder_27 (v := 1) (by decide) ?_
      exact r_zreturn (pc := 28) d_Md_passOrder_28 (v := 1) rfl (by decide) rfl (Nat.le_refl _) ⟨rfl, _, rfl, h⟩
    · replace h := h.2 c6
      refine r_iconst (pc := 21) d_Md_passOrder_21 (v := 0) (by decide) ?_
      exact r_zreturn (pc := 22) d_Md_passOrder_22 (v := 0) rfl (by decide) rfl (Nat.le_refl _) ⟨rfl, _, rfl, h⟩
set_option maxRecDepth 4000 in
theorem e_Md_dancerTo {l : Launch} {d : Nat} {sh : aw_SH} {S : aw_S} {P : Int32 → aw_S → Prop} {a : Nat} {p0 : Int32} (sa : sh[a]? = some (0, 11)) (h : Sp l m_Md_isName d 0 0 [.ref a, .float 2] sh S (gI sh (fun x2 S1 => ((¬ x2 = 0 → ∃ r4, S1.2.2 a 0 = some r4 ∧ ∃ n6, sh[r4]? = some (3, n6) ∧ vp_in 0 n6 ∧ Sp l m_Md_findHere d 0 0 [.ref a, .int 0, .int (S1.1 r4 (0 : Int32).toNatClampNeg)] sh S1 (gI sh (fun x9 S8 => vp_in p0 n6 ∧ ∃ r11, (aw_uI S8 r4 p0.toNatClampNeg x9).2.2 a 0 = some r11 ∧ ∃ n13, sh[r11]? = some (3, n13) ∧ vp_in p0 n13 ∧ ((¬ ((aw_uI S8 r4 p0.toNatClampNeg x9).1 r11 p0.toNatClampNeg) = (-1) → Sp l m_Md_ahead d 0 0 [.ref a] sh (aw_uI S8 r4 p0.toNatClampNeg x9) (gV sh (fun S16 => P 1 S16))) ∧ (((aw_uI S8 r4 p0.toNatClampNeg x9).1 r11 p0.toNatClampNeg) = (-1) → Sp l m_Md_fails d 0 0 [.ref a, .int 3] sh (aw_uI S8 r4 p0.toNatClampNeg x9) (gI sh (fun x18 S17 => ((x18 = 0 ∨ x18 = 1) ∧ P x18 S17)))))))) ∧ (x2 = 0 → Sp l m_Md_fails d 0 0 [.ref a, .int 2] sh S1 (gI sh (fun x21 S20 => ((x21 = 0 ∨ x21 = 1) ∧ P x21 S20)))))))) : Sp l m_Md_dancerTo (d + 1) 0 0 [.ref a, .int p0] sh S (gI sh P) := by
  refine Sp.of k_Md_dancerTo (ls := [.ref a, .int p0]) rfl (Nat.le_of_ble_eq_true rfl) ?_
  refine r_aload_n (pc := 0) d_Md_dancerTo_0 (x := a) rfl ?_
  refine r_ldcS (pc := 1) d_Md_dancerTo_1 (w := 2) (by decide) ?_
  refine r_callV (pc := 3) (k := a) (As := [.float 2]) (rest := []) (mc' := 0) (ms' := 0) lk_Md_246 in_Md_isName se_Md_isName sa rfl d_Md_dancerTo_3 k_Md_isName rfl rfl (Nat.le_of_ble_eq_true rfl) (by decide) (by decide) (Sp.mono h ?_)
  rintro rS1 shS1 S1 ⟨qS1, x2, uS1, h⟩
  subst uS1
  rw [qS1]
  refine r_if_ne (pc := 6) d_Md_dancerTo_6 (tgt := 15) (by decide) (fun c3 => ?_) (fun c3 => ?_)
  · replace h := h.1 c3
    refine r_aload_n (pc := 15) d_Md_dancerTo_15 (x := a) rfl ?_
    obtain ⟨r4, er4, h⟩ := h
    refine r_getR (pc := 16) d_Md_dancerTo_16 f_Md_7 sa (Or.inr ⟨_, rfl⟩) (r := r4) er4 ?_
    refine r_iload_n (pc := 19) d_Md_dancerTo_19 (x := p0) rfl ?_
    refine r_aload_n (pc := 20) d_Md_dancerTo_20 (x := a) rfl ?_
    refine r_iconst (pc := 21) d_Md_dancerTo_21 (v := 0) (by decide) ?_
    refine r_aload_n (pc := 22) d_Md_dancerTo_22 (x := a) rfl ?_
    refine r_getR (pc := 23) d_Md_dancerTo_23 f_Md_7 sa (Or.inr ⟨_, rfl⟩) (r := r4) er4 ?_
    refine r_iconst (pc := 26) d_Md_dancerTo_26 (v := 0) (by decide) ?_
    obtain ⟨n6, s5, h⟩ := h
    obtain ⟨g7, h⟩ := h
    refine r_iald (pc := 27) d_Md_dancerTo_27 s5 g7 ?_
    refine r_callV (pc := 28) (k := a) (As := [.int 0, .int (S1.1 r4 (0 : Int32).toNatClampNeg)]) (rest := [.int p0, .ref r4]) (mc' := 0) (ms' := 0) lk_Md_250 in_Md_findHere se_Md_findHere sa rfl d_Md_dancerTo_28 k_Md_findHere rfl rfl (Nat.le_of_ble_eq_true rfl) (by decide) (by decide) (Sp.mono h ?_)
    rintro rS8 shS8 S8 ⟨qS8, x9, uS8, h⟩
    subst uS8
    rw [qS8]
    obtain ⟨g10, h⟩ := h
    refine r_iast (pc := 31) d_Md_dancerTo_31 s5 g10 ?_
    refine r_aload_n (pc := 32) d_Md_dancerTo_32 (x := a) rfl ?_
    obtain ⟨r11, er11, h⟩ := h
    refine r_getR (pc := 33) d_Md_dancerTo_33 f_Md_7 sa (Or.inr ⟨_, rfl⟩) (r := r11) er11 ?_
    refine r_iload_n (pc := 36) d_Md_dancerTo_36 (x := p0) rfl ?_
    obtain ⟨n13, s12, h⟩ := h
    obtain ⟨g14, h⟩ := h
    refine r_iald (pc := 37) d_Md_dancerTo_37 s12 g14 ?_
    refine r_iconst (pc := 38) d_Md_dancerTo_38 (v := (-1)) (by decide) ?_
    refine r_icmp_ne (pc := 39) d_Md_dancerTo_39 (tgt := 48) (by decide) (fun c15 => ?_) (fun c15 => ?_)
    · replace h := h.1 c15
      refine r_aload_n (pc := 48) d_Md_dancerTo_48 (x := a) rfl ?_
      refine r_callV (pc := 49) (k := a) (As := []) (rest := []) (mc' := 0) (ms' := 0) lk_Md_194 in_Md_ahead se_Md_ahead sa rfl d_Md_dancerTo_49 k_Md_ahead rfl rfl (Nat.le_of_ble_eq_true rfl) (by decide) (by decide) (Sp.mono h ?_)
      rintro rS16 shS16 S16 ⟨qS16, uS16, h⟩
      subst uS16
      rw [qS16]
      refine r_iconst (pc := 52) d_Md_dancerTo_52 (v := 1) (by decide) ?_
      exact r_zreturn (pc := 53) d_Md_dancerTo_53 (v := 1) rfl (by decide) rfl (Nat.le_refl _) ⟨rfl, _, rfl, h⟩
    · replace h := h.2 c15
      refine r_aload_n (pc := 42) d_Md_dancerTo_42 (x := a) rfl ?_
      refine r_iconst (pc := 43) d_Md_dancerTo_43 (v := 3) (by decide) ?_
      refine r_callV (pc := 44) (k := a) (As := [.int 3]) (rest := []) (mc' := 0) (ms' := 0) lk_Md_200 in_Md_fails se_Md_fails sa rfl d_Md_dancerTo_44 k_Md_fails rfl rfl (Nat.le_of_ble_eq_true rfl) (by decide) (by decide) (Sp.mono h ?_)
      rintro rS17 shS17 S17 ⟨qS17, x18, uS17, h⟩
      subst uS17
      rw [qS17]
      obtain ⟨g19, h⟩ := h
      exact r_zreturn (pc := 47) d_Md_dancerTo_47 rfl (aw_nb g19) rfl (Nat.le_refl _) ⟨rfl, _, rfl, h⟩
  · replace h := h.2 c3
    refine r_aload_n (pc := 9) d_Md_dancerTo_9 (x := a) rfl ?_
    refine r_iconst (pc := 10) d_Md_dancerTo_10 (v := 2) (by decide) ?_
    refine r_callV (pc := 11) (k := a) (As := [.int 2]) (rest := []) (mc' := 0) (ms' := 0) lk_Md_200 in_Md_fails se_Md_fails sa rfl d_Md_dancerTo_11 k_Md_fails rfl rfl (Nat.le_of_ble_eq_true rfl) (by decide) (by decide) (Sp.mono h ?_)
    rintro rS20 shS20 S20 ⟨qS20, x21, uS20, h⟩
    subst uS20
    rw [qS20]
    obtain ⟨g22, h⟩ := h
    exact r_zreturn (pc := 14) d_Md_dancerTo_14 rfl (aw_nb g22) rfl (Nat.le_refl _) ⟨rfl, _, rfl, h⟩
set_option maxRecDepth 4000 in
theorem e_Md_test {l : Launch} {d : Nat} {sh : aw_SH} {S : aw_S} {P : Int32 → aw_S → Prop} {a : Nat} {p0 : Int32} (sa : sh[a]? = some (0, 11)) (h : Sp l m_Md_inWords d 0 0 [.ref a, .float 2] sh S (gI sh (fun x2 S1 => ((15 ≤ x2 → ∃ r4, S1.2.2 a 0 = some r4 ∧ ∃ n6, sh[r4]? = some (3, n6) ∧ vp_in p0 n6 ∧ Sp l m_Md_ahead d 0 0 [.ref a] sh (aw_uI S1 r4 p0.toNatClampNeg ((1100 : Int32) + x2)) (gV sh (fun S8 => ((((x2 : Int32).toInt < 15 ∨ 17 < (x2 : Int32).toInt) → Sp l m_Md_isSign d 0 0 [.ref a, .int 60] sh S8 (gI sh (fun x10 S9 => ((¬ x10 = 0 → ∃ r12, S9.2.2 a 0 = some r12 ∧ ∃ n14, sh[r12]? = some (3, n14) ∧ vp_in (p0 + (5 : Int32)) n14 ∧ Sp l m_Md_ahead d 0 0 [.ref a] sh (aw_uI S9 r12 ((p0 + (5 : Int32) : Int32).toNatClampNeg) (S9.1 a 15)) (gV sh (fun S16 => Sp l m_Md_number d 0 0 [.ref a, .int (p0 + (2 : Int32)), .int 0, .int 40] sh S16 (gI sh (fun x18 S17 => ((x18 = 0 ∨ x18 = 1) ∧ P x18 S17)))))) ∧ (x10 = 0 → Sp l m_Md_isSign d 0 0 [.ref a, .int 62] sh S9 (gI sh (fun x21 S20 => ((¬ x21 = 0 → ∃ r23, S20.2.2 a 0 = some r23 ∧ ∃ n25, sh[r23]? = some (3, n25) ∧ vp_in (p0 + (5 : Int32)) n25 ∧ Sp l m_Md_ahead d 0 0 [.ref a] sh (aw_uI S20 r23 ((p0 + (5 : Int32) : Int32).toNatClampNeg) (S20.1 a 15)) (gV sh (fun S27 => Sp l m_Md_number d 0 0 [.ref a, .int (p0 + (2 : Int32)), .int 0, .int 40] sh S27 (gI sh (fun x29 S28 => ((x29 = 0 ∨ x29 = 1) ∧ P x29 S28)))))) ∧ (x21 = 0 → Sp l m_Md_isSign d 0 0 [.ref a, .int 61] sh S20 (gI sh (fun x32 S31 => ((¬ x32 = 0 → ∃ r34, S31.2.2 a 0 = some r34 ∧ ∃ n36, sh[r34]? = some (3, n36) ∧ vp_in (p0 + (5 : Int32)) n36 ∧ Sp l m_Md_ahead d 0 0 [.ref a] sh (aw_uI S31 r34 ((p0 + (5 : Int32) : Int32).toNatClampNeg) (S31.1 a 15)) (gV sh (fun S38 => Sp l m_Md_number d 0 0 [.ref a, .int (p0 + (2 : Int32)), .int 0, .int 40] sh S38 (gI sh (fun x40 S39 => ((x40 = 0 ∨ x40 = 1) ∧ P x40 S39)))))) ∧ (x32 = 0 → Sp l m_Md_fails d 0 0 [.ref a, .int 2] sh S31 (gI sh (fun x43 S42 => ((x43 = 0 ∨ x43 = 1) ∧ P x43 S42)))))))))))))))) ∧ (x2 = 15 → Sp l m_Md_dancerTo d 0 0 [.ref a, .int (p0 + (1 : Int32))] sh S8 (gI sh (fun x46 S45 => ((x46 = 0 ∨ x46 = 1) ∧ P x46 S45)))) ∧ (x2 = 16 → Sp l m_Md_dancerTo d 0 0 [.ref a, .int (p0 + (1 : Int32))] sh S8 (gI sh (fun x49 S48 => ((x49 = 0 → P 0 S48) ∧ (¬ x49 = 0 → ∃ r51, S48.2.2 a 0 = some r51 ∧ ∃ n53, sh[r51]? = some (3, n53) ∧ vp_in 0 n53 ∧ Sp l m_Md_number d 0 0 [.ref a, .int (p0 + (2 : Int32)), .int 0, .int ((S48.1 r51 (0 : Int32).toNatClampNeg) - (1 : Int32))] sh S48 (gI sh (fun x56 S55 => ((x56 = 0 → P 0 S55) ∧ (¬ x56 = 0 → P 1 S55))))))))) ∧ (x2 = 17 → Sp l m_Md_gapTo d 0 0 [.ref a, .int 0, .int (p0 + (1 : Int32))] sh S8 (gI sh (fun x59 S58 => ((x59 = 0 → P 0 S58) ∧ (¬ x59 = 0 → Sp l m_Md_number d 0 0 [.ref a, .int (p0 + (2 : Int32)), .int 0, .int 6] sh S58 (gI sh (fun x62 S61 => ((x62 = 0 → P 0 S61) ∧ (¬ x62 = 0 → P 1 S61))))))))))))) ∧ (¬ 15 ≤ x2 → Sp l m_Md_fails d 0 0 [.ref a, .int 2] sh S1 (gI sh (fun x66 S65 => ((x66 = 0 ∨ x66 = 1) ∧ P x66 S65)))))))) : Sp l m_Md_test (d + 1) 0 0 [.ref a, .int p0] sh S (gI sh P) := by
  refine Sp.of k_Md_test (ls := [.ref a, .int p0, .null]) rfl (Nat.le_of_ble_eq_true rfl) ?_
  refine r_aload_n (pc := 0) d_Md_test_0 (x := a) rfl ?_
  refine r_ldcS (pc := 1) d_Md_test_1 (w := 2) (by decide) ?_
  refine r_callV (pc := 3) (k := a) (As := [.float 2]) (rest := []) (mc' := 0) (ms' := 0) lk_Md_203 in_Md_inWords se_Md_inWords sa rfl d_Md_test_3 k_Md_inWords rfl rfl (Nat.le_of_ble_eq_true rfl) (by decide) (by decide) (Sp.mono h ?_)
  rintro rS1 shS1 S1 ⟨qS1, x2, uS1, h⟩
  subst uS1
  rw [qS1]
  refine r_istore_n (pc := 6) (hk := rfl) (hd := d_Md_test_6) (hi := by decide) (ls2 := [.ref a, .int p0, .int x2]) (h2 := rfl) ?_
  refine r_iload_n (pc := 7) d_Md_test_7 (x := x2) rfl ?_
  refine r_bipush (pc := 8) d_Md_test_8 (v := 15) (by decide) ?_
  refine r_icmp_ge (pc := 10) d_Md_test_10 (tgt := 19) (by decide) (fun c3 => ?_) (fun c3 => ?_)
  · replace h := h.1 c3
    refine r_aload_n (pc := 19) d_Md_test_19 (x := a) rfl ?_
    obtain ⟨r4, er4, h⟩ := h
    refine r_getR (pc := 20) d_Md_test_20 f_Md_7 sa (Or.inr ⟨_, rfl⟩) (r := r4) er4 ?_
    refine r_iload_n (pc := 23) d_Md_test_23 (x := p0) rfl ?_
    refine r_sipush (pc := 24) d_Md_test_24 (v := 1100) (by decide) ?_
    refine r_iload_n (pc := 27) d_Md_test_27 (x := x2) rfl ?_
    refine r_iadd (pc := 28) d_Md_test_28 ?_
    obtain ⟨n6, s5, h⟩ := h
    obtain ⟨g7, h⟩ := h
    refine r_iast (pc := 29) d_Md_test_29 s5 g7 ?_
    refine r_aload_n (pc := 30) d_Md_test_30 (x := a) rfl ?_
    refine r_callV (pc := 31) (k := a) (As := []) (rest := []) (mc' := 0) (ms' := 0) lk_Md_194 in_Md_ahead se_Md_ahead sa rfl d_Md_test_31 k_Md_ahead rfl rfl (Nat.le_of_ble_eq_true rfl) (by decide) (by decide) (Sp.mono h ?_)
    rintro rS8 shS8 S8 ⟨qS8, uS8, h⟩
    subst uS8
    rw [qS8]
    refine r_iload_n (pc := 34) d_Md_test_34 (x := x2) rfl ?_
    rcases aw_sw (x2) 15 17 with q64 | ⟨kq64, q64, wq64⟩
    · refine r_tabOut (pc := 35) d_Md_test_35 q64 (tgt := 133) (by decide) ?_
      replace h := h.1 q64
      refine r_aload_n (pc := 133) d_Md_test_133 (x := a) rfl ?_
      refine r_bipush (pc := 134) d_Md_test_134 (v := 60) (by decide) ?_
      refine r_callV (pc := 136) (k := a) (As := [.int 60]) (rest := []) (mc' := 0) (ms' := 0) lk_Md_197 in_Md_isSign se_Md_isSign sa rfl d_Md_test_136 k_Md_isSign rfl rfl (Nat.le_of_ble_eq_true rfl) (by decide) (by decide) (Sp.mono h ?_)
      rintro rS9 shS9 S9 ⟨qS9, x10, uS9, h⟩
      subst uS9
      rw [qS9]
      refine r_if_ne (pc := 139) d_Md_test_139 (tgt := 166) (by decide) (fun c11 => ?_) (fun c11 => ?_)
      · replace h := h.1 c11
        refine r_aload_n (pc := 166) d_Md_test_166 (x := a) rfl ?_
        obtain ⟨r12, er12, h⟩ := h
        refine r_getR (pc := 167) d_Md_test_167 f_Md_7 sa (Or.inr ⟨_, rfl⟩) (r := r12) er12 ?_
        refine r_iload_n (pc := 170) d_Md_test_170 (x := p0) rfl ?_
        refine r_iconst (pc := 171) d_Md_test_171 (v := 5) (by decide) ?_
        refine r_iadd (pc := 172) d_Md_test_172 ?_
        refine r_aload_n (pc := 173) d_Md_test_173 (x := a) rfl ?_
        refine r_getI (pc := 174) d_Md_test_174 f_Md_160 sa rfl ?_
        obtain ⟨n14, s13, h⟩ := h
        obtain ⟨g15, h⟩ := h
        refine r_iast (pc := 177) d_Md_test_177 s13 g15 ?_
        refine r_aload_n (pc := 178) d_Md_test_178 (x := a) rfl ?_
        refine r_callV (pc := 179) (k := a) (As := []) (rest := []) (mc' := 0) (ms' := 0) lk_Md_194 in_Md_ahead se_Md_ahead sa rfl d_Md_test_179 k_Md_ahead rfl rfl (Nat.le_of_ble_eq_true rfl) (by decide) (by decide) (Sp.mono h ?_)
        rintro rS16 shS16 S16 ⟨qS16, uS16, h⟩
        subst uS16
        rw [qS16]
        refine r_aload_n (pc := 182) d_Md_test_182 (x := a) rfl ?_
        refine r_iload_n (pc := 183) d_Md_test_183 (x := p0) rfl ?_
        refine r_iconst (pc := 184) d_Md_test_184 (v := 2) (by decide) ?_
        refine r_iadd (pc := 185) d_Md_test_185 ?_
        refine r_iconst (pc := 186) d_Md_test_186 (v := 0) (by decide) ?_
        refine r_bipush (pc := 187) d_Md_test_187 (v := 40) (by decide) ?_
        refine r_callV (pc := 189) (k := a) (As := [.int (p0 + (2 : Int32)), .int 0, .int 40]) (rest := []) (mc' := 0) (ms' := 0) lk_Md_257 in_Md_number se_Md_number sa rfl d_Md_test_189 k_Md_number rfl rfl (Nat.le_of_ble_eq_true rfl) (by decide) (by decide) (Sp.mono h ?_)
        rintro rS17 shS17 S17 ⟨qS17, x18, uS17, h⟩
        subst uS17
        rw [qS17]
        obtain ⟨g19, h⟩ := h
        exact r_zreturn (pc := 192) d_Md_test_192 rfl (aw_nb g19) rfl (Nat.le_refl _) ⟨rfl, _, rfl, h⟩
      · replace h := h.2 c11
        refine r_aload_n (pc := 142) d_Md_test_142 (x := a) rfl ?_
        refine r_bipush (pc := 143) d_Md_test_143 (v := 62) (by decide) ?_
        refine r_callV (pc := 145) (k := a) (As := [.int 62]) (rest := []) (mc' := 0) (ms' := 0) lk_Md_197 in_Md_isSign se_Md_isSign sa rfl d_Md_test_145 k_Md_isSign rfl rfl (Nat.le_of_ble_eq_true rfl) (by decide) (by decide) (Sp.mono h ?_)
        rintro rS20 shS20 S20 ⟨qS20, x21, uS20, h⟩
        subst uS20
        rw [qS20]
        refine r_if_ne (pc := 148) d_Md_test_148 (tgt := 166) (by decide) (fun c22 => ?_) (fun c22 => ?_)
        · replace h := h.1 c22
          refine r_aload_n (pc := 166) d_Md_test_166 (x := a) rfl ?_
          obtain ⟨r23, er23, h⟩ := h
          refine r_getR (pc := 167) d_Md_test_167 f_Md_7 sa (Or.inr ⟨_, rfl⟩) (r := r23) er23 ?_
          refine r_iload_n (pc := 170) d_Md_test_170 (x := p0) rfl ?_
          refine r_iconst (pc := 171) d_Md_test_171 (v := 5) (by decide) ?_
          refine r_iadd (pc := 172) d_Md_test_172 ?_
          refine r_aload_n (pc := 173) d_Md_test_173 (x := a) rfl ?_
          refine r_getI (pc := 174) d_Md_test_174 f_Md_160 sa rfl ?_
          obtain ⟨n25, s24, h⟩ := h
          obtain ⟨g26, h⟩ := h
          refine r_iast (pc := 177) d_Md_test_177 s24 g26 ?_
          refine r_aload_n (pc := 178) d_Md_test_178 (x := a) rfl ?_
          refine r_callV (pc := 179) (k := a) (As := []) (rest := []) (mc' := 0) (ms' := 0) lk_Md_194 in_Md_ahead se_Md_ahead sa rfl d_Md_test_179 k_Md_ahead rfl rfl (Nat.le_of_ble_eq_true rfl) (by decide) (by decide) (Sp.mono h ?_)
          rintro rS27 shS27 S27 ⟨qS27, uS27, h⟩
          subst uS27
          rw [qS27]
          refine r_aload_n (pc := 182) d_Md_test_182 (x := a) rfl ?_
          refine r_iload_n (pc := 183) d_Md_test_183 (x := p0) rfl ?_
          refine r_iconst (pc := 184) d_Md_test_184 (v := 2) (by decide) ?_
          refine r_iadd (pc := 185) d_Md_test_185 ?_
          refine r_iconst (pc := 186) d_Md_test_186 (v := 0) (by decide) ?_
          refine r_bipush (pc := 187) d_Md_test_187 (v := 40) (by decide) ?_
          refine r_callV (pc := 189) (k := a) (As := [.int (p0 + (2 : Int32)), .int 0, .int 40]) (rest := []) (mc' := 0) (ms' := 0) lk_Md_257 in_Md_number se_Md_number sa rfl d_Md_test_189 k_Md_number rfl rfl (Nat.le_of_ble_eq_true rfl) (by decide) (by decide) (Sp.mono h ?_)
          rintro rS28 shS28 S28 ⟨qS28, x29, uS28, h⟩
          subst uS28
          rw [qS28]
          obtain ⟨g30, h⟩ := h
          exact r_zreturn (pc := 192) d_Md_test_192 rfl (aw_nb g30) rfl (Nat.le_refl _) ⟨rfl, _, rfl, h⟩
        · replace h := h.2 c22
          refine r_aload_n (pc := 151) d_Md_test_151 (x := a) rfl ?_
          refine r_bipush (pc := 152) d_Md_test_152 (v := 61) (by decide) ?_
          refine r_callV (pc := 154) (k := a) (As := [.int 61]) (rest := []) (mc' := 0) (ms' := 0) lk_Md_197 in_Md_isSign se_Md_isSign sa rfl d_Md_test_154 k_Md_isSign rfl rfl (Nat.le_of_ble_eq_true rfl) (by decide) (by decide) (Sp.mono h ?_)
          rintro rS31 shS31 S31 ⟨qS31, x32, uS31, h⟩
          subst uS31
          rw [qS31]
          refine r_if_ne (pc := 157) d_Md_test_157 (tgt := 166) (by decide) (fun c33 => ?_) (fun c33 => ?_)
          · replace h := h.1 c33
            refine r_aload_n (pc := 166) d_Md_test_166 (x := a) rfl ?_
            obtain ⟨r34, er34, h⟩ := h
            refine r_getR (pc := 167) d_Md_test_167 f_Md_7 sa (Or.inr ⟨_, rfl⟩) (r := r34) er34 ?_
            refine r_iload_n (pc := 170) d_Md_test_170 (x := p0) rfl ?_
            refine r_iconst (pc := 171) d_Md_test_171 (v := 5) (by decide) ?_
            refine r_iadd (pc := 172) d_Md_test_172 ?_
            refine r_aload_n (pc := 173) d_Md_test_173 (x := a) rfl ?_
            refine r_getI (pc := 174) d_Md_test_174 f_Md_160 sa rfl ?_
            obtain ⟨n36, s35, h⟩ := h
            obtain ⟨g37, h⟩ := h
            refine r_iast (pc := 177) d_Md_test_177 s35 g37 ?_
            refine r_aload_n (pc := 178) d_Md_test_178 (x := a) rfl ?_
            refine r_callV (pc := 179) (k := a) (As := []) (rest := []) (mc' := 0) (ms' := 0) lk_Md_194 in_Md_ahead se_Md_ahead sa rfl d_Md_test_179 k_Md_ahead rfl rfl (Nat.le_of_ble_eq_true rfl) (by decide) (by decide) (Sp.mono h ?_)
            rintro rS38 shS38 S38 ⟨qS38, uS38, h⟩
            subst uS38
            rw [qS38]
            refine r_aload_n (pc := 182) d_Md_test_182 (x := a) rfl ?_
            refine r_iload_n (pc := 183) d_Md_test_183 (x := p0) rfl ?_
            refine r_iconst (pc := 184) d_Md_test_184 (v := 2) (by decide) ?_
            refine r_iadd (pc := 185) d_Md_test_185 ?_
            refine r_iconst (pc := 186) d_Md_test_186 (v := 0) (by decide) ?_
            refine r_bipush (pc := 187) d_Md_test_187 (v := 40) (by decide) ?_
            refine r_callV (pc := 189) (k := a) (As := [.int (p0 + (2 : Int32)), .int 0, .int 40]) (rest := []) (mc' := 0) (ms' := 0) lk_Md_257 in_Md_number se_Md_number sa rfl d_Md_test_189 k_Md_number rfl rfl (Nat.le_of_ble_eq_true rfl) (by decide) (by decide) (Sp.mono h ?_)
            rintro rS39 shS39 S39 ⟨qS39, x40, uS39, h⟩
            subst uS39
            rw [qS39]
            obtain ⟨g41, h⟩ := h
            exact r_zreturn (pc := 192) d_Md_test_192 rfl (aw_nb g41) rfl (Nat.le_refl _) ⟨rfl, _, rfl, h⟩
          · replace h := h.2 c33
            refine r_aload_n (pc := 160) d_Md_test_160 (x := a) rfl ?_
            refine r_iconst (pc := 161) d_Md_test_161 (v := 2) (by decide) ?_
            refine r_callV (pc := 162) (k := a) (As := [.int 2]) (rest := []) (mc' := 0) (ms' := 0) lk_Md_200 in_Md_fails se_Md_fails sa rfl d_Md_test_162 k_Md_fails rfl rfl (Nat.le_of_ble_eq_true rfl) (by decide) (by decide) (Sp.mono h ?_)
            rintro rS42 shS42 S42 ⟨qS42, x43, uS42, h⟩
            subst uS42
            rw [qS42]
            obtain ⟨g44, h⟩ := h
            exact r_zreturn (pc := 165) d_Md_test_165 rfl (aw_nb g44) rfl (Nat.le_refl _) ⟨rfl, _, rfl, h⟩
    · rcases (show kq64 = 0 ∨ kq64 = 1 ∨ kq64 = 2 by omega) with rfl | rfl | rfl
      · refine r_tabIn (pc := 35) d_Md_test_35 (off := 25) (by omega) (by omega) (by rw [q64]; rfl) (tgt := 60) (by decide) ?_
        replace h := h.2.1 (aw_ix (y := 15) q64 (by decide))
        refine r_aload_n (pc := 60) d_Md_test_60 (x := a) rfl ?_
        refine r_iload_n (pc := 61) d_Md_test_61 (x := p0) rfl ?_
        refine r_iconst (pc := 62) d_Md_test_62 (v := 1) (by decide) ?_
        refine r_iadd (pc := 63) d_Md_test_63 ?_
        refine r_callV (pc := 64) (k := a) (As := [.int (p0 + (1 : Int32))]) (rest := []) (mc' := 0) (ms' := 0) lk_Md_292 in_Md_dancerTo se_Md_dancerTo sa rfl d_Md_test_64 k_Md_dancerTo rfl rfl (Nat.le_of_ble_eq_true rfl) (by decide) (by decide) (Sp.mono h ?_)
        rintro rS45 shS45 S45 ⟨qS45, x46, uS45, h⟩
        subst uS45
        rw [qS45]
        obtain ⟨g47, h⟩ := h
        exact r_zreturn (pc := 67) d_Md_test_67 rfl (aw_nb g47) rfl (Nat.le_refl _) ⟨rfl, _, rfl, h⟩
      · refine r_tabIn (pc := 35) d_Md_test_35 (off := 33) (by omega) (by omega) (by rw [q64]; rfl) (tgt := 68) (by decide) ?_
        replace h := h.2.2.1 (aw_ix (y := 16) q64 (by decide))
        refine r_aload_n (pc := 68) d_Md_test_68 (x := a) rfl ?_
        refine r_iload_n (pc := 69) d_Md_test_69 (x := p0) rfl ?_
        refine r_iconst (pc := 70) d_Md_test_70 (v := 1) (by decide) ?_
        refine r_iadd (pc := 71) d_Md_test_71 ?_
        refine r_callV (pc := 72) (k := a) (As := [.int (p0 + (1 : Int32))]) (rest := []) (mc' := 0) (ms' := 0) lk_Md_292 in_Md_dancerTo se_Md_dancerTo sa rfl d_Md_test_72 k_Md_dancerTo rfl rfl (Nat.le_of_ble_eq_true rfl) (by decide) (by decide) (Sp.mono h ?_)
        rintro rS48 shS48 S48 ⟨qS48, x49, uS48, h⟩
        subst uS48
        rw [qS48]
        refine r_if_eq (pc := 75) d_Md_test_75 (tgt := 101) (by decide) (fun c50 => ?_) (fun c50 => ?_)
        · replace h := h.1 c50
          refine r_iconst (pc := 101) d_Md_test_101 (v := 0) (by decide) ?_
          exact r_zreturn (pc := 102) d_Md_test_102 (v := 0) rfl (by decide) rfl (Nat.le_refl _) ⟨rfl, _, rfl, h⟩
        · replace h := h.2 c50
          refine r_aload_n (pc := 78) d_Md_test_78 (x := a) rfl ?_
          refine r_iload_n (pc := 79) d_Md_test_79 (x := p0) rfl ?_
          refine r_iconst (pc := 80) d_Md_test_80 (v := 2) (by decide) ?_
          refine r_iadd (pc := 81) d_Md_test_81 ?_
          refine r_iconst (pc := 82) d_Md_test_82 (v := 0) (by decide) ?_
          refine r_aload_n (pc := 83) d_Md_test_83 (x := a) rfl ?_
          obtain ⟨r51, er51, h⟩ := h
          refine r_getR (pc := 84) d_Md_test_84 f_Md_7 sa (Or.inr ⟨_, rfl⟩) (r := r51) er51 ?_
          refine r_iconst (pc := 87) d_Md_test_87 (v := 0) (by decide) ?_
          obtain ⟨n53, s52, h⟩ := h
          obtain ⟨g54, h⟩ := h
          refine r_iald (pc := 88) d_Md_test_88 s52 g54 ?_
          refine r_iconst (pc := 89) d_Md_test_89 (v := 1) (by decide) ?_
          refine r_isub (pc := 90) d_Md_test_90 ?_
          refine r_callV (pc := 91) (k := a) (As := [.int (p0 + (2 : Int32)), .int 0, .int ((S48.1 r51 (0 : Int32).toNatClampNeg) - (1 : Int32))]) (rest := []) (mc' := 0) (ms' := 0) lk_Md_257 in_Md_number se_Md_number sa rfl d_Md_test_91 k_Md_number rfl rfl (Nat.le_of_ble_eq_true rfl) (by decide) (by decide) (Sp.mono h ?_)
          rintro rS55 shS55 S55 ⟨qS55, x56, uS55, h⟩
          subst uS55
          rw [qS55]
          refine r_if_eq (pc := 94) d_Md_test_94 (tgt := 101) (by decide) (fun c57 => ?_) (fun c57 => ?_)
          · replace h := h.1 c57
            refine r_iconst (pc := 101) d_Md_test_101 (v := 0) (by decide) ?_
            exact r_zreturn (pc := 102) d_Md_test_102 (v := 0) rfl (by decide) rfl (Nat.le_refl _) ⟨rfl, _, rfl, h⟩
          · replace h := h.2 c57
            refine r_iconst (pc := 97) d_Md_test_97 (v := 1) (by decide) ?_
            refine r_goto (pc := 98) d_Md_test_98 (tgt := 102) (by decide) ?_
            exact r_zreturn (pc := 102) d_Md_test_102 (v := 1) rfl (by decide) rfl (Nat.le_refl _) ⟨rfl, _, rfl, h⟩
      · refine r_tabIn (pc := 35) d_Md_test_35 (off := 68) (by omega) (by omega) (by rw [q64]; rfl) (tgt := 103) (by decide) ?_
        replace h := h.2.2.2 (aw_ix (y := 17) q64 (by decide))
        refine r_aload_n (pc := 103) d_Md_test_103 (x := a) rfl ?_
        refine r_iconst (pc := 104) d_Md_test_104 (v := 0) (by decide) ?_
        refine r_iload_n (pc := 105) d_Md_test_105 (x := p0) rfl ?_
        refine r_iconst (pc := 106) d_Md_test_106 (v := 1) (by decide) ?_
        refine r_iadd (pc := 107) d_Md_test_107 ?_
        refine r_callV (pc := 108) (k := a) (As := [.int 0, .int (p0 + (1 : Int32))]) (rest := []) (mc' := 0) (ms' := 0) lk_Md_263 in_Md_gapTo se_Md_gapTo sa rfl d_Md_test_108 k_Md_gapTo rfl rfl (Nat.le_of_ble_eq_true rfl) (by decide) (by decide) (Sp.mono h ?_)
        rintro rS58 shS58 S58 ⟨qS58, x59, uS58, h⟩
        subst uS58
        rw [qS58]
        refine r_if_eq (pc := 111) d_Md_test_111 (tgt := 131) (by decide) (fun c60 => ?_) (fun c60 => ?_)
        · replace h := h.1 c60
          refine r_iconst (pc := 131) d_Md_test_131 (v := 0) (by decide) ?_
          exact r_zreturn (pc := 132) d_Md_test_132 (v := 0) rfl (by decide) rfl (Nat.le_refl _) ⟨rfl, _, rfl, h⟩
        · replace h := h.2 c60
          refine r_aload_n (pc := 114) d_Md_test_114 (x := a) rfl ?_
          refine r_iload_n (pc := 115) d_Md_test_115 (x := p0) rfl ?_
          refine r_iconst (pc := 116) d_Md_test_116 (v := 2) (by decide) ?_
          refine r_iadd (pc := 117) d_Md_test_117 ?_
          refine r_iconst (pc := 118) d_Md_test_118 (v := 0) (by decide) ?_
          refine r_bipush (pc := 119) d_Md_test_119 (v := 6) (by decide) ?_
          refine r_callV (pc := 121) (k := a) (As := [.int (p0 + (2 : Int32)), .int 0, .int 6]) (rest := []) (mc' := 0) (ms' := 0) lk_Md_257 in_Md_number se_Md_number sa rfl d_Md_test_121 k_Md_number rfl rfl (Nat.le_of_ble_eq_true rfl) (by decide) (by decide) (Sp.mono h ?_)
          rintro rS61 shS61 S61 ⟨qS61, x62, uS61, h⟩
          subst uS61
          rw [qS61]
          refine r_if_eq (pc := 124) d_Md_test_124 (tgt := 131) (by decide) (fun c63 => ?_) (fun c63 => ?_)
          · replace h := h.1 c63
            refine r_iconst (pc := 131) d_Md_test_131 (v := 0) (by decide) ?_
            exact r_zreturn (pc := 132) d_Md_test_132 (v := 0) rfl (by decide) rfl (Nat.le_refl _) ⟨rfl, _, rfl, h⟩
          · replace h := h.2 c63
            refine r_iconst (pc := 127) d_Md_test_127 (v := 1) (by decide) ?_
            refine r_goto (pc := 128) d_Md_test_128 (tgt := 132) (by decide) ?_
            exact r_zreturn (pc := 132) d_Md_test_132 (v := 1) rfl (by decide) rfl (Nat.le_refl _) ⟨rfl, _, rfl, h⟩
  · replace h := h.2 c3
    refine r_aload_n (pc := 13) d_Md_test_13 (x := a) rfl ?_
    refine r_iconst (pc := 14) d_Md_test_14 (v := 2) (by decide) ?_
    refine r_callV (pc := 15) (k := a) (As := [.int 2]) (rest := []) (mc' := 0) (ms' := 0) lk_Md_200 in_Md_fails se_Md_fails sa rfl d_Md_test_15 k_Md_fails rfl rfl (Nat.le_of_ble_eq_true rfl) (by decide) (by decide) (Sp.mono h ?_)
    rintro rS65 shS65 S65 ⟨qS65, x66, uS65, h⟩
    subst uS65
    rw [qS65]
    obtain ⟨g67, h⟩ := h
    exact r_zreturn (pc := 18) d_Md_test_18 rfl (aw_nb g67) rfl (Nat.le_refl _) ⟨rfl, _, rfl, h⟩
set_option maxRecDepth 4000 in
theorem e_Md_told {l : Launch} {d : Nat} {sh : aw_SH} {S : aw_S} {P : Int32 → aw_S → Prop} {a : Nat} {p0 : Int32} (sa : sh[a]? = some (0, 11)) (h : ((((p0 : Int32).toInt < 0 ∨ 9 < (p0 : Int32).toInt) → Sp l m_Md_refuse d 0 0 [.ref a, .int 1] sh S (gI sh (fun x2 S1 => P x2 S1))) ∧ (p0 = 0 → ∃ r3, S.2.2 a 0 = some r3 ∧ ∃ n5, sh[r3]? = some (3, n5) ∧ vp_in 0 n5 ∧ Sp l m_Md_gives d 0 0 [.ref a, .int (S.1 r3 (0 : Int32).toNatClampNeg)] sh S (gI sh (fun x8 S7 => P x8 S7))) ∧ (p0 = 1 → Sp l m_Md_gapsOf d 0 0 [.ref a, .int 0] sh S (gI sh (fun x10 S9 => Sp l m_Md_gives d 0 0 [.ref a, .int x10] sh S9 (gI sh (fun x12 S11 => P x12 S11))))) ∧ (p0 = 2 → ∃ r13, S.2.2 a 0 = some r13 ∧ ∃ n15, sh[r13]? = some (3, n15) ∧ vp_in 3 n15 ∧ Sp l m_Md_gives d 0 0 [.ref a, .int (S.1 r13 (3 : Int32).toNatClampNeg)] sh S (gI sh (fun x18 S17 => P x18 S17))) ∧ (p0 = 3 → ∃ r19, S.2.2 a 0 = some r19 ∧ ∃ n21, sh[r19]? = some (3, n21) ∧ vp_in 1 n21 ∧ Sp l m_Md_gives d 0 0 [.ref a, .int (S.1 r19 (1 : Int32).toNatClampNeg)] sh S (gI sh (fun x24 S23 => P x24 S23))) ∧ (p0 = 4 → ∃ r25, S.2.2 a 0 = some r25 ∧ ∃ n27, sh[r25]? = some (3, n27) ∧ vp_in 2 n27 ∧ Sp l m_Md_gives d 0 0 [.ref a, .int (S.1 r25 (2 : Int32).toNatClampNeg)] sh S (gI sh (fun x30 S29 => P x30 S29))) ∧ (p0 = 5 → Sp l m_Md_laysRows d 0 0 [.ref a] sh S (gI sh (fun x32 S31 => Sp l m_Md_gives d 0 0 [.ref a, .int x32] sh S31 (gI sh (fun x34 S33 => P x34 S33))))) ∧ (p0 = 6 → ∃ r35, S.2.2 a 0 = some r35 ∧ ∃ n37, sh[r35]? = some (3, n37) ∧ vp_in 4 n37 ∧ Sp l m_Md_gives d 0 0 [.ref a, .int (S.1 r35 (4 : Int32).toNatClampNeg)] sh S (gI sh (fun x40 S39 => P x40 S39))) ∧ (p0 = 7 → Sp l m_Md_atHome d 0 0 [.ref a] sh S (gI sh (fun x42 S41 => Sp l m_Md_gives d 0 0 [.ref a, .int x42] sh S41 (gI sh (fun x44 S43 => P x44 S43))))) ∧ (p0 = 8 → Sp l m_Md_freeGaps d 0 0 [.ref a] sh S (gI sh (fun x46 S45 => Sp l m_Md_gives d 0 0 [.ref a, .int x46] sh S45 (gI sh (fun x48 S47 => P x48 S47))))) ∧ (p0 = 9 → Sp l m_Md_howManyShow d 0 0 [.ref a] sh S (gI sh (fun x50 S49 => Sp l m_Md_gives d 0 0 [.ref a, .int x50] sh S49 (gI sh (fun x52 S51 => P x52 S51))))))) : Sp l m_Md_told (d + 1) 0 0 [.ref a, .int p0] sh S (gI sh P) := by
  refine Sp.of k_Md_told (ls := [.ref a, .int p0]) rfl (Nat.le_of_ble_eq_true rfl) ?_
  refine r_iload_n (pc := 0) d_Md_told_0 (x := p0) rfl ?_
  rcases aw_sw (p0) 0 9 with q53 | ⟨kq53, q53, wq53⟩
  · refine r_tabOut (pc := 1) d_Md_told_1 q53 (tgt := 157) (by decide) ?_
    replace h := h.1 q53
    refine r_aload_n (pc := 157) d_Md_told_157 (x := a) rfl ?_
    refine r_iconst (pc := 158) d_Md_told_158 (v := 1) (by decide) ?_
    refine r_callV (pc := 159) (k := a) (As := [.int 1]) (rest := []) (mc' := 0) (ms' := 0) lk_Md_118 in_Md_refuse se_Md_refuse sa rfl d_Md_told_159 k_Md_refuse rfl rfl (Nat.le_of_ble_eq_true rfl) (by decide) (by decide) (Sp.mono h ?_)
    rintro rS1 shS1 S1 ⟨qS1, x2, uS1, h⟩
    subst uS1
    rw [qS1]
    exact r_ireturn (pc := 162) d_Md_told_162 rfl rfl (Nat.le_refl _) ⟨rfl, _, rfl, h⟩
  · rcases (show kq53 = 0 ∨ kq53 = 1 ∨ kq53 = 2 ∨ kq53 = 3 ∨ kq53 = 4 ∨ kq53 = 5 ∨ kq53 = 6 ∨ kq53 = 7 ∨ kq53 = 8 ∨ kq53 = 9 by omega) with rfl | rfl | rfl | rfl | rfl | rfl | rfl | rfl | rfl | rfl
    · refine r_tabIn (pc := 1) d_Md_told_1 (off := 55) (by omega) (by omega) (by rw [q53]; rfl) (tgt := 56) (by decide) ?_
      replace h := h.2.1 (aw_ix (y := 0) q53 (by decide))
      refine r_aload_n (pc := 56) d_Md_told_56 (x := a) rfl ?_
      refine r_aload_n (pc := 57) d_Md_told_57 (x := a) rfl ?_
      obtain ⟨r3, er3, h⟩ := h
      refine r_getR (pc := 58) d_Md_told_58 f_Md_7 sa (Or.inr ⟨_, rfl⟩) (r := r3) er3 ?_
      refine r_iconst (pc := 61) d_Md_told_61 (v := 0) (by decide) ?_
      obtain ⟨n5, s4, h⟩ := h
      obtain ⟨g6, h⟩ := h
      refine r_iald (pc := 62) d_Md_told_62 s4 g6 ?_
      refine r_callV (pc := 63) (k := a) (As := [.int (S.1 r3 (0 : Int32).toNatClampNeg)]) (rest := []) (mc' := 0) (ms' := 0) lk_Md_122 in_Md_gives se_Md_gives sa rfl d_Md_told_63 k_Md_gives rfl rfl (Nat.le_of_ble_eq_true rfl) (by decide) (by decide) (Sp.mono h ?_)
      rintro rS7 shS7 S7 ⟨qS7, x8, uS7, h⟩
      subst uS7
      rw [qS7]
      exact r_ireturn (pc := 66) d_Md_told_66 rfl rfl (Nat.le_refl _) ⟨rfl, _, rfl, h⟩
    · refine r_tabIn (pc := 1) d_Md_told_1 (off := 66) (by omega) (by omega) (by rw [q53]; rfl) (tgt := 67) (by decide) ?_
      replace h := h.2.2.1 (aw_ix (y := 1) q53 (by decide))
      refine r_aload_n (pc := 67) d_Md_told_67 (x := a) rfl ?_
      refine r_aload_n (pc := 68) d_Md_told_68 (x := a) rfl ?_
      refine r_iconst (pc := 69) d_Md_told_69 (v := 0) (by decide) ?_
      refine r_callV (pc := 70) (k := a) (As := [.int 0]) (rest := [.ref a]) (mc' := 0) (ms' := 0) lk_Md_260 in_Md_gapsOf se_Md_gapsOf sa rfl d_Md_told_70 k_Md_gapsOf rfl rfl (Nat.le_of_ble_eq_true rfl) (by decide) (by decide) (Sp.mono h ?_)
      rintro rS9 shS9 S9 ⟨qS9, x10, uS9, h⟩
      subst uS9
      rw [qS9]
      refine r_callV (pc := 73) (k := a) (As := [.int x10]) (rest := []) (mc' := 0) (ms' := 0) lk_Md_122 in_Md_gives se_Md_gives sa rfl d_Md_told_73 k_Md_gives rfl rfl (Nat.le_of_ble_eq_true rfl) (by decide) (by decide) (Sp.mono h ?_)
      rintro rS11 shS11 S11 ⟨qS11, x12, uS11, h⟩
      subst uS11
      rw [qS11]
      exact r_ireturn (pc := 76) d_Md_told_76 rfl rfl (Nat.le_refl _) ⟨rfl, _, rfl, h⟩
    · refine r_tabIn (pc := 1) d_Md_told_1 (off := 76) (by omega) (by omega) (by rw [q53]; rfl) (tgt := 77) (by decide) ?_
      replace h := h.2.2.2.1 (aw_ix (y := 2) q53 (by decide))
      refine r_aload_n (pc := 77) d_Md_told_77 (x := a) rfl ?_
      refine r_aload_n (pc := 78) d_Md_told_78 (x := a) rfl ?_
      obtain ⟨r13, er13, h⟩ := h
      refine r_getR (pc := 79) d_Md_told_79 f_Md_7 sa (Or.inr ⟨_, rfl⟩) (r := r13) er13 ?_
      refine r_iconst (pc := 82) d_Md_told_82 (v := 3) (by decide) ?_
      obtain ⟨n15, s14, h⟩ := h
      obtain ⟨g16, h⟩ := h
      refine r_iald (pc := 83) d_Md_told_83 s14 g16 ?_
      refine r_callV (pc := 84) (k := a) (As := [.int (S.1 r13 (3 : Int32).toNatClampNeg)]) (rest := []) (mc' := 0) (ms' := 0) lk_Md_122 in_Md_gives se_Md_gives sa rfl d_Md_told_84 k_Md_gives rfl rfl (Nat.le_of_ble_eq_true rfl) (by decide) (by decide) (Sp.mono h ?_)
      rintro rS17 shS17 S17 ⟨qS17, x18, uS17, h⟩
      subst uS17
      rw [qS17]
      exact r_ireturn (pc := 87) d_Md_told_87 rfl rfl (Nat.le_refl _) ⟨rfl, _, rfl, h⟩
    · refine r_tabIn (pc := 1) d_Md_told_1 (off := 87) (by omega) (by omega) (by rw [q53]; rfl) (tgt := 88) (by decide) ?_
      replace h := h.2.2.2.2.1 (aw_ix (y := 3) q53 (by decide))
      refine r_aload_n (pc := 88) d_Md_told_88 (x := a) rfl ?_
      refine r_aload_n (pc := 89) d_Md_told_89 (x := a) rfl ?_
      obtain ⟨r19, er19, h⟩ := h
      refine r_getR (pc := 90) d_Md_told_90 f_Md_7 sa (Or.inr ⟨_, rfl⟩) (r := r19) er19 ?_
      refine r_iconst (pc := 93) d_Md_told_93 (v := 1) (by decide) ?_
      obtain ⟨n21, s20, h⟩ := h
      obtain ⟨g22, h⟩ := h
      refine r_iald (pc := 94) d_Md_told_94 s20 g22 ?_
      refine r_callV (pc := 95) (k := a) (As := [.int (S.1 r19 (1 : Int32).toNatClampNeg)]) (rest := []) (mc' := 0) (ms' := 0) lk_Md_122 in_Md_gives se_Md_gives sa rfl d_Md_told_95 k_Md_gives rfl rfl (Nat.le_of_ble_eq_true rfl) (by decide) (by decide) (Sp.mono h ?_)
      rintro rS23 shS23 S23 ⟨qS23, x24, uS23, h⟩
      subst uS23
      rw [qS23]
      exact r_ireturn (pc := 98) d_Md_told_98 rfl rfl (Nat.le_refl _) ⟨rfl, _, rfl, h⟩
    · refine r_tabIn (pc := 1) d_Md_told_1 (off := 98) (by omega) (by omega) (by rw [q53]; rfl) (tgt := 99) (by decide) ?_
      replace h := h.2.2.2.2.2.1 (aw_ix (y := 4) q53 (by decide))
      refine r_aload_n (pc := 99) d_Md_told_99 (x := a) rfl ?_
      refine r_aload_n (pc := 100) d_Md_told_100 (x := a) rfl ?_
      obtain ⟨r25, er25, h⟩ := h
      refine r_getR (pc := 101) d_Md_told_101 f_Md_7 sa (Or.inr ⟨_, rfl⟩) (r := r25) er25 ?_
      refine r_iconst (pc := 104) d_Md_told_104 (v := 2) (by decide) ?_
      obtain ⟨n27, s26, h⟩ := h
      obtain ⟨g28, h⟩ := h
      refine r_iald (pc := 105) d_Md_told_105 s26 g28 ?_
      refine r_callV (pc := 106) (k := a) (As := [.int (S.1 r25 (2 : Int32).toNatClampNeg)]) (rest := []) (mc' := 0) (ms' := 0) lk_Md_122 in_Md_gives se_Md_gives sa rfl d_Md_told_106 k_Md_gives rfl rfl (Nat.le_of_ble_eq_true rfl) (by decide) (by decide) (Sp.mono h ?_)
      rintro rS29 shS29 S29 ⟨qS29, x30, uS29, h⟩
      subst uS29
      rw [qS29]
      exact r_ireturn (pc := 109) d_Md_told_109 rfl rfl (Nat.le_refl _) ⟨rfl, _, rfl, h⟩
    · refine r_tabIn (pc := 1) d_Md_told_1 (off := 109) (by omega) (by omega) (by rw [q53]; rfl) (tgt := 110) (by decide) ?_
      replace h := h.2.2.2.2.2.2.1 (aw_ix (y := 5) q53 (by decide))
      refine r_aload_n (pc := 110) d_Md_told_110 (x := a) rfl ?_
      refine r_aload_n (pc := 111) d_Md_told_111 (x := a) rfl ?_
      refine r_callV (pc := 112) (k := a) (As := []) (rest := [.ref a]) (mc' := 0) (ms' := 0) lk_Md_325 in_Md_laysRows se_Md_laysRows sa rfl d_Md_told_112 k_Md_laysRows rfl rfl (Nat.le_of_ble_eq_true rfl) (by decide) (by decide) (Sp.mono h ?_)
      rintro rS31 shS31 S31 ⟨qS31, x32, uS31, h⟩
      subst uS31
      rw [qS31]
      refine r_callV (pc := 115) (k := a) (As := [.int x32]) (rest := []) (mc' := 0) (ms' := 0) lk_Md_122 in_Md_gives se_Md_gives sa rfl d_Md_told_115 k_Md_gives rfl rfl (Nat.le_of_ble_eq_true rfl) (by decide) (by decide) (Sp.mono h ?_)
      rintro rS33 shS33 S33 ⟨qS33, x34, uS33, h⟩
      subst uS33
      rw [qS33]
      exact r_ireturn (pc := 118) d_Md_told_118 rfl rfl (Nat.le_refl _) ⟨rfl, _, rfl, h⟩
    · refine r_tabIn (pc := 1) d_Md_told_1 (off := 118) (by omega) (by omega) (by rw [q53]; rfl) (tgt := 119) (by decide) ?_
      replace h := h.2.2.2.2.2.2.2.1 (aw_ix (y := 6) q53 (by decide))
      refine r_aload_n (pc := 119) d_Md_told_119 (x := a) rfl ?_
      refine r_aload_n (pc := 120) d_Md_told_120 (x := a) rfl ?_
      obtain ⟨r35, er35, h⟩ := h
      refine r_getR (pc := 121) d_Md_told_121 f_Md_7 sa (Or.inr ⟨_, rfl⟩) (r := r35) er35 ?_
      refine r_iconst (pc := 124) d_Md_told_124 (v := 4) (by decide) ?_
      obtain ⟨n37, s36, h⟩ := h
      obtain ⟨g38, h⟩ := h
      refine r_iald (pc := 125) d_Md_told_125 s36 g38 ?_
      refine r_callV (pc := 126) (k := a) (As := [.int (S.1 r35 (4 : Int32).toNatClampNeg)]) (rest := []) (mc' := 0) (ms' := 0) lk_Md_122 in_Md_gives se_Md_gives sa rfl d_Md_told_126 k_Md_gives rfl rfl (Nat.le_of_ble_eq_true rfl) (by decide) (by decide) (Sp.mono h ?_)
      rintro rS39 shS39 S39 ⟨qS39, x40, uS39, h⟩
      subst uS39
      rw [qS39]
      exact r_ireturn (pc := 129) d_Md_told_129 rfl rfl (Nat.le_refl _) ⟨rfl, _, rfl, h⟩
    · refine r_tabIn (pc := 1) d_Md_told_1 (off := 129) (by omega) (by omega) (by rw [q53]; rfl) (tgt := 130) (by decide) ?_
      replace h := h.2.2.2.2.2.2.2.2.1 (aw_ix (y := 7) q53 (by decide))
      refine r_aload_n (pc := 130) d_Md_told_130 (x := a) rfl ?_
      refine r_aload_n (pc := 131) d_Md_told_131 (x := a) rfl ?_
      refine r_callV (pc := 132) (k := a) (As := []) (rest := [.ref a]) (mc' := 0) (ms' := 0) lk_Md_328 in_Md_atHome se_Md_atHome sa rfl d_Md_told_132 k_Md_atHome rfl rfl (Nat.le_of_ble_eq_true rfl) (by decide) (by decide) (Sp.mono h ?_)
      rintro rS41 shS41 S41 ⟨qS41, x42, uS41, h⟩
      subst uS41
      rw [qS41]
      refine r_callV (pc := 135) (k := a) (As := [.int x42]) (rest := []) (mc' := 0) (ms' := 0) lk_Md_122 in_Md_gives se_Md_gives sa rfl d_Md_told_135 k_Md_gives rfl rfl (Nat.le_of_ble_eq_true rfl) (by decide) (by decide) (Sp.mono h ?_)
      rintro rS43 shS43 S43 ⟨qS43, x44, uS43, h⟩
      subst uS43
      rw [qS43]
      exact r_ireturn (pc := 138) d_Md_told_138 rfl rfl (Nat.le_refl _) ⟨rfl, _, rfl, h⟩
    · refine r_tabIn (pc := 1) d_Md_told_1 (off := 138) (by omega) (by omega) (by rw [q53]; rfl) (tgt := 139) (by decide) ?_
      replace h := h.2.2.2.2.2.2.2.2.2.1 (aw_ix (y := 8) q53 (by decide))
      refine r_aload_n (pc := 139) d_Md_told_139 (x := a) rfl ?_
      refine r_aload_n (pc := 140) d_Md_told_140 (x := a) rfl ?_
      refine r_callV (pc := 141) (k := a) (As := []) (rest := [.ref a]) (mc' := 0) (ms' := 0) lk_Md_331 in_Md_freeGaps se_Md_freeGaps sa rfl d_Md_told_141 k_Md_freeGaps rfl rfl (Nat.le_of_ble_eq_true rfl) (by decide) (by decide) (Sp.mono h ?_)
      rintro rS45 shS45 S45 ⟨qS45, x46, uS45, h⟩
      subst uS45
      rw [qS45]
      refine r_callV (pc := 144) (k := a) (As := [.int x46]) (rest := []) (mc' := 0) (ms' := 0) lk_Md_122 in_Md_gives se_Md_gives sa rfl d_Md_told_144 k_Md_gives rfl rfl (Nat.le_of_ble_eq_true rfl) (by decide) (by decide) (Sp.mono h ?_)
      rintro rS47 shS47 S47 ⟨qS47, x48, uS47, h⟩
      subst uS47
      rw [qS47]
      exact r_ireturn (pc := 147) d_Md_told_147 rfl rfl (Nat.le_refl _) ⟨rfl, _, rfl, h⟩
    · refine r_tabIn (pc := 1) d_Md_told_1 (off := 147) (by omega) (by omega) (by rw [q53]; rfl) (tgt := 148) (by decide) ?_
      replace h := h.2.2.2.2.2.2.2.2.2.2 (aw_ix (y := 9) q53 (by decide))
      refine r_aload_n (pc := 148) d_Md_told_148 (x := a) rfl ?_
      refine r_aload_n (pc := 149) d_Md_told_149 (x := a) rfl ?_
      refine r_callV (pc := 150) (k := a) (As := []) (rest := [.ref a]) (mc' := 0) (ms' := 0) lk_Md_334 in_Md_howManyShow se_Md_howManyShow sa rfl d_Md_told_150 k_Md_howManyShow rfl rfl (Nat.le_of_ble_eq_true rfl) (by decide) (by decide) (Sp.mono h ?_)
      rintro rS49 shS49 S49 ⟨qS49, x50, uS49, h⟩
      subst uS49
      rw [qS49]
      refine r_callV (pc := 153) (k := a) (As := [.int x50]) (rest := []) (mc' := 0) (ms' := 0) lk_Md_122 in_Md_gives se_Md_gives sa rfl d_Md_told_153 k_Md_gives rfl rfl (Nat.le_of_ble_eq_true rfl) (by decide) (by decide) (Sp.mono h ?_)
      rintro rS51 shS51 S51 ⟨qS51, x52, uS51, h⟩
      subst uS51
      rw [qS51]
      exact r_ireturn (pc := 156) d_Md_told_156 rfl rfl (Nat.le_refl _) ⟨rfl, _, rfl, h⟩
set_option maxRecDepth 4000 in
theorem e_Md_laysRows {l : Launch} {d : Nat} {sh : aw_SH} {S : aw_S} {P : Int32 → aw_S → Prop} {a : Nat} (sa : sh[a]? = some (0, 11)) (h : AW l m_Md_laysRows (d + 1) 0 0 (gI sh P) 0 0 4 [.ref a, .int 0, .int 0, .null] [] sh S) : Sp l m_Md_laysRows (d + 1) 0 0 [.ref a] sh S (gI sh P) := by
  refine Sp.of k_Md_laysRows (ls := [.ref a, .null, .null, .null]) rfl (Nat.le_of_ble_eq_true rfl) ?_
  refine r_iconst (pc := 0) d_Md_laysRows_0 (v := 0) (by decide) ?_
  refine r_istore_n (pc := 1) (hk := rfl) (hd := d_Md_laysRows_1) (hi := by decide) (ls2 := [.ref a, .int 0, .null, .null]) (h2 := rfl) ?_
  refine r_iconst (pc := 2) d_Md_laysRows_2 (v := 0) (by decide) ?_
  refine r_istore_n (pc := 3) (hk := rfl) (hd := d_Md_laysRows_3) (hi := by decide) (ls2 := [.ref a, .int 0, .int 0, .null]) (h2 := rfl) ?_
  exact h
set_option maxRecDepth 4000 in
theorem s_Md_laysRows_4 {l : Launch} {d : Nat} {sh : aw_SH} {S : aw_S} {P : Int32 → aw_S → Prop} {a : Nat} {i1 : Int32} {i2 : Int32} (sa : sh[a]? = some (0, 11)) (h : ∃ r1, S.2.2 a 0 = some r1 ∧ ∃ n3, sh[r1]? = some (3, n3) ∧ vp_in 3 n3 ∧ (((S.1 r1 (3 : Int32).toNatClampNeg) ≤ i2 → P i1 S) ∧ (¬ (S.1 r1 (3 : Int32).toNatClampNeg) ≤ i2 → ∃ r6, S.2.2 a 24 = some r6 ∧ ∃ n8, sh[r6]? = some (3, n8) ∧ vp_in i2 n8 ∧ AW l m_Md_laysRows (d + 1) 0 0 (gI sh P) 0 0 23 [.ref a, .int i1, .int i2, .int 0] [] sh (aw_uI S r6 i2.toNatClampNeg 1)))) : AW l m_Md_laysRows (d + 1) 0 0 (gI sh P) 0 0 4 [.ref a, .int i1, .int i2, .null] [] sh S := by
  refine r_iload_n (pc := 4) d_Md_laysRows_4 (x := i2) rfl ?_
  refine r_aload_n (pc := 5) d_Md_laysRows_5 (x := a) rfl ?_
  obtain ⟨r1, er1, h⟩ := h
  refine r_getR (pc := 6) d_Md_laysRows_6 f_Md_7 sa (Or.inr ⟨_, rfl⟩) (r := r1) er1 ?_
  refine r_iconst (pc := 9) d_Md_laysRows_9 (v := 3) (by decide) ?_
  obtain ⟨n3, s2, h⟩ := h
  obtain ⟨g4, h⟩ := h
  refine r_iald (pc := 10) d_Md_laysRows_10 s2 g4 ?_
  refine r_icmp_ge (pc := 11) d_Md_laysRows_11 (tgt := 94) (by decide) (fun c5 => ?_) (fun c5 => ?_)
  · replace h := h.1 c5
    refine r_iload_n (pc := 94) d_Md_laysRows_94 (x := i1) rfl ?_
    exact r_ireturn (pc := 95) d_Md_laysRows_95 rfl rfl (Nat.le_refl _) ⟨rfl, _, rfl, h⟩
  · replace h := h.2 c5
    refine r_aload_n (pc := 14) d_Md_laysRows_14 (x := a) rfl ?_
    obtain ⟨r6, er6, h⟩ := h
    refine r_getR (pc := 15) d_Md_laysRows_15 f_Md_47 sa (Or.inr ⟨_, rfl⟩) (r := r6) er6 ?_
    refine r_iload_n (pc := 18) d_Md_laysRows_18 (x := i2) rfl ?_
    refine r_iconst (pc := 19) d_Md_laysRows_19 (v := 1) (by decide) ?_
    obtain ⟨n8, s7, h⟩ := h
    obtain ⟨g9, h⟩ := h
    refine r_iast (pc := 20) d_Md_laysRows_20 s7 g9 ?_
    refine r_iconst (pc := 21) d_Md_laysRows_21 (v := 0) (by decide) ?_
    refine r_istore_n (pc := 22) (hk := rfl) (hd := d_Md_laysRows_22) (hi := by decide) (ls2 := [.ref a, .int i1, .int i2, .int 0]) (h2 := rfl) ?_
    exact h
set_option maxRecDepth 4000 in
theorem s_Md_laysRows_23 {l : Launch} {d : Nat} {sh : aw_SH} {S : aw_S} {P : Int32 → aw_S → Prop} {a : Nat} {i1 : Int32} {i2 : Int32} {i3 : Int32} (sa : sh[a]? = some (0, 11)) (h : ((i2 ≤ i3 → ∃ r2, S.2.2 a 24 = some r2 ∧ ∃ n4, sh[r2]? = some (3, n4) ∧ vp_in i2 n4 ∧ Sp l m_Ma_max d 0 0 [.int i1, .int (S.1 r2 i2.toNatClampNeg)] sh S (gI sh (fun x7 S6 => AW l m_Md_laysRows (d + 1) 0 0 (gI sh P) 0 0 4 [.ref a, .int x7, .int (i2 + 1), .null] [] sh S6))) ∧ (¬ i2 ≤ i3 → Sp l m_Md_passOf d 0 0 [.ref a, .int i3, .int 0] sh S (gI sh (fun x9 S8 => Sp l m_Md_passOf d 0 0 [.ref a, .int i2, .int 0] sh S8 (gI sh (fun x11 S10 => Sp l m_Md_isTouching d 0 0 [.ref a, .int 0, .int x9, .int x11] sh S10 (gI sh (fun x13 S12 => ((x13 = 0 → AW l m_Md_laysRows (d + 1) 0 0 (gI sh P) 0 0 23 [.ref a, .int i1, .int i2, .int (i3 + 1)] [] sh S12) ∧ (¬ x13 = 0 → ∃ r15, S12.2.2 a 24 = some r15 ∧ ∃ n17, sh[r15]? = some (3, n17) ∧ vp_in i2 n17 ∧ vp_in i3 n17 ∧ Sp l m_Ma_max d 0 0 [.int (S12.1 r15 i2.toNatClampNeg), .int ((S12.1 r15 i3.toNatClampNeg) + (1 : Int32))] sh S12 (gI sh (fun x21 S20 => vp_in i2 n17 ∧ AW l m_Md_laysRows (d + 1) 0 0 (gI sh P) 0 0 23 [.ref a, .int i1, .int i2, .int (i3 + 1)] [] sh (aw_uI S20 r15 i2.toNatClampNeg x21)))))))))))))) : AW l m_Md_laysRows (d + 1) 0 0 (gI sh P) 0 0 23 [.ref a, .int i1, .int i2, .int i3] [] sh S := by
  refine r_iload_n (pc := 23) d_Md_laysRows_23 (x := i3) rfl ?_
  refine r_iload_n (pc := 24) d_Md_laysRows_24 (x := i2) rfl ?_
  refine r_icmp_ge (pc := 25) d_Md_laysRows_25 (tgt := 77) (by decide) (fun c1 => ?_) (fun c1 => ?_)
  · replace h := h.1 c1
    refine r_iload_n (pc := 77) d_Md_laysRows_77 (x := i1) rfl ?_
    refine r_aload_n (pc := 78) d_Md_laysRows_78 (x := a) rfl ?_
    obtain ⟨r2, er2, h⟩ := h
    refine r_getR (pc := 79) d_Md_laysRows_79 f_Md_47 sa (Or.inr ⟨_, rfl⟩) (r := r2) er2 ?_
    refine r_iload_n (pc := 82) d_Md_laysRows_82 (x := i2) rfl ?_
    obtain ⟨n4, s3, h⟩ := h
    obtain ⟨g5, h⟩ := h
    refine r_iald (pc := 83) d_Md_laysRows_83 s3 g5 ?_
    refine r_callS (pc := 84) (k := 0) (As := [.int i1, .int (S.1 r2 i2.toNatClampNeg)]) (rest := []) (mc' := 0) (ms' := 0) lk_Md_214 st_Ma_max d_Md_laysRows_84 k_Ma_max rfl rfl (Nat.le_of_ble_eq_true rfl) (by decide) (by decide) (Sp.mono h ?_)
    rintro rS6 shS6 S6 ⟨qS6, x7, uS6, h⟩
    subst uS6
    rw [qS6]
    refine r_istore_n (pc := 87) (hk := rfl) (hd := d_Md_laysRows_87) (hi := by decide) (ls2 := [.ref a, .int x7, .int i2, .int i3]) (h2 := rfl) ?_
    refine r_iinc (pc := 88) d_Md_laysRows_88 (hi := by decide) (x := i2) rfl (v := i2 + 1) rfl (ls2 := [.ref a, .int x7, .int (i2 + 1), .int i3]) rfl ?_
    refine r_goto (pc := 91) d_Md_laysRows_91 (tgt := 4) (by decide) ?_
    exact r_weak (ls2 := [.ref a, .int x7, .int (i2 + 1), .null]) ⟨Or.inr rfl, Or.inr rfl, Or.inr rfl, Or.inl rfl, trivial⟩ h
  · replace h := h.2 c1
    refine r_aload_n (pc := 28) d_Md_laysRows_28 (x := a) rfl ?_
    refine r_iconst (pc := 29) d_Md_laysRows_29 (v := 0) (by decide) ?_
    refine r_aload_n (pc := 30) d_Md_laysRows_30 (x := a) rfl ?_
    refine r_iload_n (pc := 31) d_Md_laysRows_31 (x := i3) rfl ?_
    refine r_iconst (pc := 32) d_Md_laysRows_32 (v := 0) (by decide) ?_
    refine r_callV (pc := 33) (k := a) (As := [.int i3, .int 0]) (rest := [.int 0, .ref a]) (mc' := 0) (ms' := 0) lk_Md_316 in_Md_passOf se_Md_passOf sa rfl d_Md_laysRows_33 k_Md_passOf rfl rfl (Nat.le_of_ble_eq_true rfl) (by decide) (by decide) (Sp.mono h ?_)
    rintro rS8 shS8 S8 ⟨qS8, x9, uS8, h⟩
    subst uS8
    rw [qS8]
    refine r_aload_n (pc := 36) d_Md_laysRows_36 (x := a) rfl ?_
    refine r_iload_n (pc := 37) d_Md_laysRows_37 (x := i2) rfl ?_
    refine r_iconst (pc := 38) d_Md_laysRows_38 (v := 0) (by decide) ?_
    refine r_callV (pc := 39) (k := a) (As := [.int i2, .int 0]) (rest := [.int x9, .int 0, .ref a]) (mc' := 0) (ms' := 0) lk_Md_316 in_Md_passOf se_Md_passOf sa rfl d_Md_laysRows_39 k_Md_passOf rfl rfl (Nat.le_of_ble_eq_true rfl) (by decide) (by decide) (Sp.mono h ?_)
    rintro rS10 shS10 S10 ⟨qS10, x11, uS10, h⟩
    subst uS10
    rw [qS10]
    refine r_callV (pc := 42) (k := a) (As := [.int 0, .int x9, .int x11]) (rest := []) (mc' := 0) (ms' := 0) lk_Md_217 in_Md_isTouching se_Md_isTouching sa rfl d_Md_laysRows_42 k_Md_isTouching rfl rfl (Nat.le_of_ble_eq_true rfl) (by decide) (by decide) (Sp.mono h ?_)
    rintro rS12 shS12 S12 ⟨qS12, x13, uS12, h⟩
    subst uS12
    rw [qS12]
    refine r_if_eq (pc := 45) d_Md_laysRows_45 (tgt := 71) (by decide) (fun c14 => ?_) (fun c14 => ?_)
    · replace h := h.1 c14
      refine r_iinc (pc := 71) d_Md_laysRows_71 (hi := by decide) (x := i3) rfl (v := i3 + 1) rfl (ls2 := [.ref a, .int i1, .int i2, .int (i3 + 1)]) rfl ?_
      refine r_goto (pc := 74) d_Md_laysRows_74 (tgt := 23) (by decide) ?_
      exact h
    · replace h := h.2 c14
      refine r_aload_n (pc := 48) d_Md_laysRows_48 (x := a) rfl ?_
      obtain ⟨r15, er15, h⟩ := h
      refine r_getR (pc := 49) d_Md_laysRows_49 f_Md_47 sa (Or.inr ⟨_, rfl⟩) (r := r15) er15 ?_
      refine r_iload_n (pc := 52) d_Md_laysRows_52 (x := i2) rfl ?_
      refine r_aload_n (pc := 53) d_Md_laysRows_53 (x := a) rfl ?_
      refine r_getR (pc := 54) d_Md_laysRows_54 f_Md_47 sa (Or.inr ⟨_, rfl⟩) (r := r15) er15 ?_
      refine r_iload_n (pc := 57) d_Md_laysRows_57 (x := i2) rfl ?_
      obtain ⟨n17, s16, h⟩ := h
      obtain ⟨g18, h⟩ := h
      refine r_iald (pc := 58) d_Md_laysRows_58 s16 g18 ?_
      refine r_aload_n (pc := 59) d_Md_laysRows_59 (x := a) rfl ?_
      refine r_getR (pc := 60) d_Md_laysRows_60 f_Md_47 sa (Or.inr ⟨_, rfl⟩) (r := r15) er15 ?_
      refine r_iload_n (pc := 63) d_Md_laysRows_63 (x := i3) rfl ?_
      obtain ⟨g19, h⟩ := h
      refine r_iald (pc := 64) d_Md_laysRows_64 s16 g19 ?_
      refine r_iconst (pc := 65) d_Md_laysRows_65 (v := 1) (by decide) ?_
      refine r_iadd (pc := 66) d_Md_laysRows_66 ?_
      refine r_callS (pc := 67) (k := 0) (As := [.int (S12.1 r15 i2.toNatClampNeg), .int ((S12.1 r15 i3.toNatClampNeg) + (1 : Int32))]) (rest := [.int i2, .ref r15]) (mc' := 0) (ms' := 0) lk_Md_214 st_Ma_max d_Md_laysRows_67 k_Ma_max rfl rfl (Nat.le_of_ble_eq_true rfl) (by decide) (by decide) (Sp.mono h ?_)
      rintro rS20 shS20 S20 ⟨qS20, x21, uS20, h⟩
      subst uS20
      rw [qS20]
      obtain ⟨g22, h⟩ := h
      refine r_iast (pc := 70) d_Md_laysRows_70 s16 g22 ?_
      refine r_iinc (pc := 71) d_Md_laysRows_71 (hi := by decide) (x := i3) rfl (v := i3 + 1) rfl (ls2 := [.ref a, .int i1, .int i2, .int (i3 + 1)]) rfl ?_
      refine r_goto (pc := 74) d_Md_laysRows_74 (tgt := 23) (by decide) ?_
      exact h
set_option maxRecDepth 4000 in
theorem e_Md_passOf {l : Launch} {d : Nat} {sh : aw_SH} {S : aw_S} {P : Int32 → aw_S → Prop} {a : Nat} {p0 : Int32} {p1 : Int32} (sa : sh[a]? = some (0, 11)) (h : ∃ r1, S.2.2 a 0 = some r1 ∧ Sp l m_Md_plaitRow d 0 0 [.int p0] sh S (gI sh (fun x3 S2 => ∃ n5, sh[r1]? = some (3, n5) ∧ vp_in (x3 + p1) n5 ∧ P (S2.1 r1 (x3 + p1 : Int32).toNatClampNeg) S2))) : Sp l m_Md_passOf (d + 1) 0 0 [.ref a, .int p0, .int p1] sh S (gI sh P) := by
  refine Sp.of k_Md_passOf (ls := [.ref a, .int p0, .int p1]) rfl (Nat.le_of_ble_eq_true rfl) ?_
  refine r_aload_n (pc := 0) d_Md_passOf_0 (x := a) rfl ?_
  obtain ⟨r1, er1, h⟩ := h
  refine r_getR (pc := 1) d_Md_passOf_1 f_Md_7 sa (Or.inr ⟨_, rfl⟩) (r := r1) er1 ?_
  refine r_iload_n (pc := 4) d_Md_passOf_4 (x := p0) rfl ?_
  refine r_callS (pc := 5) (k := 0) (As := [.int p0]) (rest := [.ref r1]) (mc' := 0) (ms' := 0) lk_Md_211 st_Md_plaitRow d_Md_passOf_5 k_Md_plaitRow rfl rfl (Nat.le_of_ble_eq_true rfl) (by decide) (by decide) (Sp.mono h ?_)
  rintro rS2 shS2 S2 ⟨qS2, x3, uS2, h⟩
  subst uS2
  rw [qS2]
  refine r_iload_n (pc := 8) d_Md_passOf_8 (x := p1) rfl ?_
  refine r_iadd (pc := 9) d_Md_passOf_9 ?_
  obtain ⟨n5, s4, h⟩ := h
  obtain ⟨g6, h⟩ := h
  refine r_iald (pc := 10) d_Md_passOf_10 s4 g6 ?_
  exact r_ireturn (pc := 11) d_Md_passOf_11 rfl rfl (Nat.le_refl _) ⟨rfl, _, rfl, h⟩
set_option maxRecDepth 4000 in
theorem e_Md_atHome {l : Launch} {d : Nat} {sh : aw_SH} {S : aw_S} {P : Int32 → aw_S → Prop} {a : Nat} (sa : sh[a]? = some (0, 11)) (h : AW l m_Md_atHome (d + 1) 0 0 (gI sh P) 0 0 4 [.ref a, .int 0, .int 0] [] sh S) : Sp l m_Md_atHome (d + 1) 0 0 [.ref a] sh S (gI sh P) := by
  refine Sp.of k_Md_atHome (ls := [.ref a, .null, .null]) rfl (Nat.le_of_ble_eq_true rfl) ?_
  refine r_iconst (pc := 0) d_Md_atHome_0 (v := 0) (by decide) ?_
  refine r_istore_n (pc := 1) (hk := rfl) (hd := d_Md_atHome_1) (hi := by decide) (ls2 := [.ref a, .int 0, .null]) (h2 := rfl) ?_
  refine r_iconst (pc := 2) d_Md_atHome_2 (v := 0) (by decide) ?_
  refine r_istore_n (pc := 3) (hk := rfl) (hd := d_Md_atHome_3) (hi := by decide) (ls2 := [.ref a, .int 0, .int 0]) (h2 := rfl) ?_
  exact h
set_option maxRecDepth 4000 in
theorem s_Md_atHome_4 {l : Launch} {d : Nat} {sh : aw_SH} {S : aw_S} {P : Int32 → aw_S → Prop} {a : Nat} {i1 : Int32} {i2 : Int32} (sa : sh[a]? = some (0, 11)) (h : ∃ r1, S.2.2 a 0 = some r1 ∧ ∃ n3, sh[r1]? = some (3, n3) ∧ vp_in 0 n3 ∧ (((S.1 r1 (0 : Int32).toNatClampNeg) ≤ i2 → P i1 S) ∧ (¬ (S.1 r1 (0 : Int32).toNatClampNeg) ≤ i2 → vp_in ((17 : Int32) + i2) n3 ∧ ((¬ (S.1 r1 ((17 : Int32) + i2 : Int32).toNatClampNeg) = i2 → AW l m_Md_atHome (d + 1) 0 0 (gI sh P) 0 0 4 [.ref a, .int (i1 ||| (0 : Int32)), .int (i2 + 1)] [] sh S) ∧ ((S.1 r1 ((17 : Int32) + i2 : Int32).toNatClampNeg) = i2 → AW l m_Md_atHome (d + 1) 0 0 (gI sh P) 0 0 4 [.ref a, .int (i1 ||| ((1 : Int32) <<< (i2 &&& 31))), .int (i2 + 1)] [] sh S))))) : AW l m_Md_atHome (d + 1) 0 0 (gI sh P) 0 0 4 [.ref a, .int i1, .int i2] [] sh S := by
  refine r_iload_n (pc := 4) d_Md_atHome_4 (x := i2) rfl ?_
  refine r_aload_n (pc := 5) d_Md_atHome_5 (x := a) rfl ?_
  obtain ⟨r1, er1, h⟩ := h
  refine r_getR (pc := 6) d_Md_atHome_6 f_Md_7 sa (Or.inr ⟨_, rfl⟩) (r := r1) er1 ?_
  refine r_iconst (pc := 9) d_Md_atHome_9 (v := 0) (by decide) ?_
  obtain ⟨n3, s2, h⟩ := h
  obtain ⟨g4, h⟩ := h
  refine r_iald (pc := 10) d_Md_atHome_10 s2 g4 ?_
  refine r_icmp_ge (pc := 11) d_Md_atHome_11 (tgt := 43) (by decide) (fun c5 => ?_) (fun c5 => ?_)
  · replace h := h.1 c5
    refine r_iload_n (pc := 43) d_Md_atHome_43 (x := i1) rfl ?_
    exact r_ireturn (pc := 44) d_Md_atHome_44 rfl rfl (Nat.le_refl _) ⟨rfl, _, rfl, h⟩
  · replace h := h.2 c5
    refine r_iload_n (pc := 14) d_Md_atHome_14 (x := i1) rfl ?_
    refine r_aload_n (pc := 15) d_Md_atHome_15 (x := a) rfl ?_
    refine r_getR (pc := 16) d_Md_atHome_16 f_Md_7 sa (Or.inr ⟨_, rfl⟩) (r := r1) er1 ?_
    refine r_bipush (pc := 19) d_Md_atHome_19 (v := 17) (by decide) ?_
    refine r_iload_n (pc := 21) d_Md_atHome_21 (x := i2) rfl ?_
    refine r_iadd (pc := 22) d_Md_atHome_22 ?_
    obtain ⟨g6, h⟩ := h
    refine r_iald (pc := 23) d_Md_atHome_23 s2 g6 ?_
    refine r_iload_n (pc := 24) d_Md_atHome_24 (x := i2) rfl ?_
    refine r_icmp_ne (pc := 25) d_Md_atHome_25 (tgt := 34) (by decide) (fun c7 => ?_) (fun c7 => ?_)
    · replace h := h.1 c7
      refine r_iconst (pc := 34) d_Md_atHome_34 (v := 0) (by decide) ?_
      refine r_ior (pc := 35) d_Md_atHome_35 ?_
      refine r_istore_n (pc := 36) (hk := rfl) (hd := d_Md_atHome_36) (hi := by decide) (ls2 := [.ref a, .int (i1 ||| (0 : Int32)), .int i2]) (h2 := rfl) ?_
      refine r_iinc (pc := 37) d_Md_atHome_37 (hi := by decide) (x := i2) rfl (v := i2 + 1) rfl (ls2 := [.ref a, .int (i1 ||| (0 : Int32)), .int (i2 + 1)]) rfl ?_
      refine r_goto (pc := 40) d_Md_atHome_40 (tgt := 4) (by decide) ?_
      exact h
    · replace h := h.2 c7
      refine r_iconst (pc := 28) d_Md_atHome_28 (v := 1) (by decide) ?_
      refine r_iload_n (pc := 29) d_Md_atHome_29 (x := i2) rfl ?_
      refine r_ishl (pc := 30) d_Md_atHome_30 ?_
      refine r_goto (pc := 31) d_Md_atHome_31 (tgt := 35) (by decide) ?_
      refine r_ior (pc := 35) d_Md_atHome_35 ?_
      refine r_istore_n (pc := 36) (hk := rfl) (hd := d_Md_atHome_36) (hi := by decide) (ls2 := [.ref a, .int (i1 ||| ((1 : Int32) <<< (i2 &&& 31))), .int i2]) (h2 := rfl) ?_
      refine r_iinc (pc := 37) d_Md_atHome_37 (hi := by decide) (x := i2) rfl (v := i2 + 1) rfl (ls2 := [.ref a, .int (i1 ||| ((1 : Int32) <<< (i2 &&& 31))), .int (i2 + 1)]) rfl ?_
      refine r_goto (pc := 40) d_Md_atHome_40 (tgt := 4) (by decide) ?_
      exact h
set_option maxRecDepth 4000 in
theorem e_Md_freeGaps {l : Launch} {d : Nat} {sh : aw_SH} {S : aw_S} {P : Int32 → aw_S → Prop} {a : Nat} (sa : sh[a]? = some (0, 11)) (h : AW l m_Md_freeGaps (d + 1) 0 0 (gI sh P) 0 0 4 [.ref a, .int 0, .int 0] [] sh S) : Sp l m_Md_freeGaps (d + 1) 0 0 [.ref a] sh S (gI sh P) := by
  refine Sp.of k_Md_freeGaps (ls := [.ref a, .null, .null]) rfl (Nat.le_of_ble_eq_true rfl) ?_
  refine r_iconst (pc := 0) d_Md_freeGaps_0 (v := 0) (by decide) ?_
  refine r_istore_n (pc := 1) (hk := rfl) (hd := d_Md_freeGaps_1) (hi := by decide) (ls2 := [.ref a, .int 0, .null]) (h2 := rfl) ?_
  refine r_iconst (pc := 2) d_Md_freeGaps_2 (v := 0) (by decide) ?_
  refine r_istore_n (pc := 3) (hk := rfl) (hd := d_Md_freeGaps_3) (hi := by decide) (ls2 := [.ref a, .int 0, .int 0]) (h2 := rfl) ?_
  exact h
set_option maxRecDepth 4000 in
theorem s_Md_freeGaps_4 {l : Launch} {d : Nat} {sh : aw_SH} {S : aw_S} {P : Int32 → aw_S → Prop} {a : Nat} {i1 : Int32} {i2 : Int32} (sa : sh[a]? = some (0, 11)) (h : ∃ r1, S.2.2 a 0 = some r1 ∧ ∃ n3, sh[r1]? = some (3, n3) ∧ vp_in 3 n3 ∧ (((S.1 r1 (3 : Int32).toNatClampNeg) ≤ i2 → P i1 S) ∧ (¬ (S.1 r1 (3 : Int32).toNatClampNeg) ≤ i2 → Sp l m_Md_isFreeIn d 0 0 [.ref a, .int 0, .int i2] sh S (gI sh (fun x7 S6 => ((x7 = 0 → AW l m_Md_freeGaps (d + 1) 0 0 (gI sh P) 0 0 4 [.ref a, .int (i1 ||| (0 : Int32)), .int (i2 + 1)] [] sh S6) ∧ (¬ x7 = 0 → Sp l m_Md_passOf d 0 0 [.ref a, .int i2, .int 0] sh S6 (gI sh (fun x10 S9 => AW l m_Md_freeGaps (d + 1) 0 0 (gI sh P) 0 0 4 [.ref a, .int (i1 ||| ((1 : Int32) <<< (x10 &&& 31))), .int (i2 + 1)] [] sh S9))))))))) : AW l m_Md_freeGaps (d + 1) 0 0 (gI sh P) 0 0 4 [.ref a, .int i1, .int i2] [] sh S := by
  refine r_iload_n (pc := 4) d_Md_freeGaps_4 (x := i2) rfl ?_
  refine r_aload_n (pc := 5) d_Md_freeGaps_5 (x := a) rfl ?_
  obtain ⟨r1, er1, h⟩ := h
  refine r_getR (pc := 6) d_Md_freeGaps_6 f_Md_7 sa (Or.inr ⟨_, rfl⟩) (r := r1) er1 ?_
  refine r_iconst (pc := 9) d_Md_freeGaps_9 (v := 3) (by decide) ?_
  obtain ⟨n3, s2, h⟩ := h
  obtain ⟨g4, h⟩ := h
  refine r_iald (pc := 10) d_Md_freeGaps_10 s2 g4 ?_
  refine r_icmp_ge (pc := 11) d_Md_freeGaps_11 (tgt := 44) (by decide) (fun c5 => ?_) (fun c5 => ?_)
  · replace h := h.1 c5
    refine r_iload_n (pc := 44) d_Md_freeGaps_44 (x := i1) rfl ?_
    exact r_ireturn (pc := 45) d_Md_freeGaps_45 rfl rfl (Nat.le_refl _) ⟨rfl, _, rfl, h⟩
  · replace h := h.2 c5
    refine r_iload_n (pc := 14) d_Md_freeGaps_14 (x := i1) rfl ?_
    refine r_aload_n (pc := 15) d_Md_freeGaps_15 (x := a) rfl ?_
    refine r_iconst (pc := 16) d_Md_freeGaps_16 (v := 0) (by decide) ?_
    refine r_iload_n (pc := 17) d_Md_freeGaps_17 (x := i2) rfl ?_
    refine r_callV (pc := 18) (k := a) (As := [.int 0, .int i2]) (rest := [.int i1]) (mc' := 0) (ms' := 0) lk_Md_224 in_Md_isFreeIn se_Md_isFreeIn sa rfl d_Md_freeGaps_18 k_Md_isFreeIn rfl rfl (Nat.le_of_ble_eq_true rfl) (by decide) (by decide) (Sp.mono h ?_)
    rintro rS6 shS6 S6 ⟨qS6, x7, uS6, h⟩
    subst uS6
    rw [qS6]
    refine r_if_eq (pc := 21) d_Md_freeGaps_21 (tgt := 35) (by decide) (fun c8 => ?_) (fun c8 => ?_)
    · replace h := h.1 c8
      refine r_iconst (pc := 35) d_Md_freeGaps_35 (v := 0) (by decide) ?_
      refine r_ior (pc := 36) d_Md_freeGaps_36 ?_
      refine r_istore_n (pc := 37) (hk := rfl) (hd := d_Md_freeGaps_37) (hi := by decide) (ls2 := [.ref a, .int (i1 ||| (0 : Int32)), .int i2]) (h2 := rfl) ?_
      refine r_iinc (pc := 38) d_Md_freeGaps_38 (hi := by decide) (x := i2) rfl (v := i2 + 1) rfl (ls2 := [.ref a, .int (i1 ||| (0 : Int32)), .int (i2 + 1)]) rfl ?_
      refine r_goto (pc := 41) d_Md_freeGaps_41 (tgt := 4) (by decide) ?_
      exact h
    · replace h := h.2 c8
      refine r_iconst (pc := 24) d_Md_freeGaps_24 (v := 1) (by decide) ?_
      refine r_aload_n (pc := 25) d_Md_freeGaps_25 (x := a) rfl ?_
      refine r_iload_n (pc := 26) d_Md_freeGaps_26 (x := i2) rfl ?_
      refine r_iconst (pc := 27) d_Md_freeGaps_27 (v := 0) (by decide) ?_
      refine r_callV (pc := 28) (k := a) (As := [.int i2, .int 0]) (rest := [.int 1, .int i1]) (mc' := 0) (ms' := 0) lk_Md_316 in_Md_passOf se_Md_passOf sa rfl d_Md_freeGaps_28 k_Md_passOf rfl rfl (Nat.le_of_ble_eq_true rfl) (by decide) (by decide) (Sp.mono h ?_)
      rintro rS9 shS9 S9 ⟨qS9, x10, uS9, h⟩
      subst uS9
      rw [qS9]
      refine r_ishl (pc := 31) d_Md_freeGaps_31 ?_
      refine r_goto (pc := 32) d_Md_freeGaps_32 (tgt := 36) (by decide) ?_
      refine r_ior (pc := 36) d_Md_freeGaps_36 ?_
      refine r_istore_n (pc := 37) (hk := rfl) (hd := d_Md_freeGaps_37) (hi := by decide) (ls2 := [.ref a, .int (i1 ||| ((1 : Int32) <<< (x10 &&& 31))), .int i2]) (h2 := rfl) ?_
      refine r_iinc (pc := 38) d_Md_freeGaps_38 (hi := by decide) (x := i2) rfl (v := i2 + 1) rfl (ls2 := [.ref a, .int (i1 ||| ((1 : Int32) <<< (x10 &&& 31))), .int (i2 + 1)]) rfl ?_
      refine r_goto (pc := 41) d_Md_freeGaps_41 (tgt := 4) (by decide) ?_
      exact h
set_option maxRecDepth 4000 in
theorem e_Md_howManyShow {l : Launch} {d : Nat} {sh : aw_SH} {S : aw_S} {P : Int32 → aw_S → Prop} {a : Nat} (sa : sh[a]? = some (0, 11)) (h : AW l m_Md_howManyShow (d + 1) 0 0 (gI sh P) 0 0 4 [.ref a, .int 0, .int 0] [] sh S) : Sp l m_Md_howManyShow (d + 1) 0 0 [.ref a] sh S (gI sh P) := by
  refine Sp.of k_Md_howManyShow (ls := [.ref a, .null, .null]) rfl (Nat.le_of_ble_eq_true rfl) ?_
  refine r_iconst (pc := 0) d_Md_howManyShow_0 (v := 0) (by decide) ?_
  refine r_istore_n (pc := 1) (hk := rfl) (hd := d_Md_howManyShow_1) (hi := by decide) (ls2 := [.ref a, .int 0, .null]) (h2 := rfl) ?_
  refine r_iconst (pc := 2) d_Md_howManyShow_2 (v := 0) (by decide) ?_
  refine r_istore_n (pc := 3) (hk := rfl) (hd := d_Md_howManyShow_3) (hi := by decide) (ls2 := [.ref a, .int 0, .int 0]) (h2 := rfl) ?_
  exact h
set_option maxRecDepth 4000 in
theorem s_Md_howManyShow_4 {l : Launch} {d : Nat} {sh : aw_SH} {S : aw_S} {P : Int32 → aw_S → Prop} {a : Nat} {i1 : Int32} {i2 : Int32} (sa : sh[a]? = some (0, 11)) (h : Sp l m_Md_gapsOf d 0 0 [.ref a, .int 0] sh S (gI sh (fun x2 S1 => ((x2 ≤ i2 → Sp l m_Md_bits d 0 0 [.int (i1 &&& (63 : Int32))] sh S1 (gI sh (fun x5 S4 => P x5 S4))) ∧ (¬ x2 ≤ i2 → Sp l m_Md_showsOf d 0 0 [.ref a, .int i2] sh S1 (gI sh (fun x7 S6 => AW l m_Md_howManyShow (d + 1) 0 0 (gI sh P) 0 0 4 [.ref a, .int (i1 ||| ((1 : Int32) <<< (x7 &&& 31))), .int (i2 + 1)] [] sh S6))))))) : AW l m_Md_howManyShow (d + 1) 0 0 (gI sh P) 0 0 4 [.ref a, .int i1, .int i2] [] sh S := by
  refine r_iload_n (pc := 4) d_Md_howManyShow_4 (x := i2) rfl ?_
  refine r_aload_n (pc := 5) d_Md_howManyShow_5 (x := a) rfl ?_
  refine r_iconst (pc := 6) d_Md_howManyShow_6 (v := 0) (by decide) ?_
  refine r_callV (pc := 7) (k := a) (As := [.int 0]) (rest := [.int i2]) (mc' := 0) (ms' := 0) lk_Md_260 in_Md_gapsOf se_Md_gapsOf sa rfl d_Md_howManyShow_7 k_Md_gapsOf rfl rfl (Nat.le_of_ble_eq_true rfl) (by decide) (by decide) (Sp.mono h ?_)
  rintro rS1 shS1 S1 ⟨qS1, x2, uS1, h⟩
  subst uS1
  rw [qS1]
  refine r_icmp_ge (pc := 10) d_Md_howManyShow_10 (tgt := 29) (by decide) (fun c3 => ?_) (fun c3 => ?_)
  · replace h := h.1 c3
    refine r_iload_n (pc := 29) d_Md_howManyShow_29 (x := i1) rfl ?_
    refine r_bipush (pc := 30) d_Md_howManyShow_30 (v := 63) (by decide) ?_
    refine r_iand (pc := 32) d_Md_howManyShow_32 ?_
    refine r_callS (pc := 33) (k := 0) (As := [.int (i1 &&& (63 : Int32))]) (rest := []) (mc' := 0) (ms' := 0) lk_Md_322 st_Md_bits d_Md_howManyShow_33 k_Md_bits rfl rfl (Nat.le_of_ble_eq_true rfl) (by decide) (by decide) (Sp.mono h ?_)
    rintro rS4 shS4 S4 ⟨qS4, x5, uS4, h⟩
    subst uS4
    rw [qS4]
    exact r_ireturn (pc := 36) d_Md_howManyShow_36 rfl rfl (Nat.le_refl _) ⟨rfl, _, rfl, h⟩
  · replace h := h.2 c3
    refine r_iload_n (pc := 13) d_Md_howManyShow_13 (x := i1) rfl ?_
    refine r_iconst (pc := 14) d_Md_howManyShow_14 (v := 1) (by decide) ?_
    refine r_aload_n (pc := 15) d_Md_howManyShow_15 (x := a) rfl ?_
    refine r_iload_n (pc := 16) d_Md_howManyShow_16 (x := i2) rfl ?_
    refine r_callV (pc := 17) (k := a) (As := [.int i2]) (rest := [.int 1, .int i1]) (mc' := 0) (ms' := 0) lk_Md_319 in_Md_showsOf se_Md_showsOf sa rfl d_Md_howManyShow_17 k_Md_showsOf rfl rfl (Nat.le_of_ble_eq_true rfl) (by decide) (by decide) (Sp.mono h ?_)
    rintro rS6 shS6 S6 ⟨qS6, x7, uS6, h⟩
    subst uS6
    rw [qS6]
    refine r_ishl (pc := 20) d_Md_howManyShow_20 ?_
    refine r_ior (pc := 21) d_Md_howManyShow_21 ?_
    refine r_istore_n (pc := 22) (hk := rfl) (hd := d_Md_howManyShow_22) (hi := by decide) (ls2 := [.ref a, .int (i1 ||| ((1 : Int32) <<< (x7 &&& 31))), .int i2]) (h2 := rfl) ?_
    refine r_iinc (pc := 23) d_Md_howManyShow_23 (hi := by decide) (x := i2) rfl (v := i2 + 1) rfl (ls2 := [.ref a, .int (i1 ||| ((1 : Int32) <<< (x7 &&& 31))), .int (i2 + 1)]) rfl ?_
    refine r_goto (pc := 26) d_Md_howManyShow_26 (tgt := 4) (by decide) ?_
    exact h
set_option maxRecDepth 4000 in
theorem e_Md_showsOf {l : Launch} {d : Nat} {sh : aw_SH} {S : aw_S} {P : Int32 → aw_S → Prop} {a : Nat} {p0 : Int32} (sa : sh[a]? = some (0, 11)) (h : Sp l m_Md_latestIn d 0 0 [.ref a, .int 0, .int p0] sh S (gI sh (fun x2 S1 => ((¬ x2 = (-1) → ∃ r4, S1.2.2 a 0 = some r4 ∧ Sp l m_Md_passOf d 0 0 [.ref a, .int x2, .int 2] sh S1 (gI sh (fun x6 S5 => ∃ n8, sh[r4]? = some (3, n8) ∧ vp_in ((10 : Int32) + x6) n8 ∧ P (S5.1 r4 ((10 : Int32) + x6 : Int32).toNatClampNeg) S5))) ∧ (x2 = (-1) → P 6 S1))))) : Sp l m_Md_showsOf (d + 1) 0 0 [.ref a, .int p0] sh S (gI sh P) := by
  refine Sp.of k_Md_showsOf (ls := [.ref a, .int p0, .null]) rfl (Nat.le_of_ble_eq_true rfl) ?_
  refine r_aload_n (pc := 0) d_Md_showsOf_0 (x := a) rfl ?_
  refine r_iconst (pc := 1) d_Md_showsOf_1 (v := 0) (by decide) ?_
  refine r_iload_n (pc := 2) d_Md_showsOf_2 (x := p0) rfl ?_
  refine r_callV (pc := 3) (k := a) (As := [.int 0, .int p0]) (rest := []) (mc' := 0) (ms' := 0) lk_Md_221 in_Md_latestIn se_Md_latestIn sa rfl d_Md_showsOf_3 k_Md_latestIn rfl rfl (Nat.le_of_ble_eq_true rfl) (by decide) (by decide) (Sp.mono h ?_)
  rintro rS1 shS1 S1 ⟨qS1, x2, uS1, h⟩
  subst uS1
  rw [qS1]
  refine r_istore_n (pc := 6) (hk := rfl) (hd := d_Md_showsOf_6) (hi := by decide) (ls2 := [.ref a, .int p0, .int x2]) (h2 := rfl) ?_
  refine r_iload_n (pc := 7) d_Md_showsOf_7 (x := x2) rfl ?_
  refine r_iconst (pc := 8) d_Md_showsOf_8 (v := (-1)) (by decide) ?_
  refine r_icmp_ne (pc := 9) d_Md_showsOf_9 (tgt := 17) (by decide) (fun c3 => ?_) (fun c3 => ?_)
  · replace h := h.1 c3
    refine r_aload_n (pc := 17) d_Md_showsOf_17 (x := a) rfl ?_
    obtain ⟨r4, er4, h⟩ := h
    refine r_getR (pc := 18) d_Md_showsOf_18 f_Md_7 sa (Or.inr ⟨_, rfl⟩) (r := r4) er4 ?_
    refine r_bipush (pc := 21) d_Md_showsOf_21 (v := 10) (by decide) ?_
    refine r_aload_n (pc := 23) d_Md_showsOf_23 (x := a) rfl ?_
    refine r_iload_n (pc := 24) d_Md_showsOf_24 (x := x2) rfl ?_
    refine r_iconst (pc := 25) d_Md_showsOf_25 (v := 2) (by decide) ?_
    refine r_callV (pc := 26) (k := a) (As := [.int x2, .int 2]) (rest := [.int 10, .ref r4]) (mc' := 0) (ms' := 0) lk_Md_316 in_Md_passOf se_Md_passOf sa rfl d_Md_showsOf_26 k_Md_passOf rfl rfl (Nat.le_of_ble_eq_true rfl) (by decide) (by decide) (Sp.mono h ?_)
    rintro rS5 shS5 S5 ⟨qS5, x6, uS5, h⟩
    subst uS5
    rw [qS5]
    refine r_iadd (pc := 29) d_Md_showsOf_29 ?_
    obtain ⟨n8, s7, h⟩ := h
    obtain ⟨g9, h⟩ := h
    refine r_iald (pc := 30) d_Md_showsOf_30 s7 g9 ?_
    exact r_ireturn (pc := 31) d_Md_showsOf_31 rfl rfl (Nat.le_refl _) ⟨rfl, _, rfl, h⟩
  · replace h := h.2 c3
    refine r_bipush (pc := 12) d_Md_showsOf_12 (v := 6) (by decide) ?_
    refine r_goto (pc := 14) d_Md_showsOf_14 (tgt := 31) (by decide) ?_
    exact r_ireturn (pc := 31) d_Md_showsOf_31 rfl rfl (Nat.le_refl _) ⟨rfl, _, rfl, h⟩
set_option maxRecDepth 4000 in
theorem e_Md_bits {l : Launch} {d : Nat} {sh : aw_SH} {S : aw_S} {P : Int32 → aw_S → Prop} {p0 : Int32} (h : AW l m_Md_bits (d + 1) 0 0 (gI sh P) 0 0 4 [.null, .int 0, .int p0] [] sh S) : Sp l m_Md_bits (d + 1) 0 0 [.int p0] sh S (gI sh P) := by
  refine Sp.of k_Md_bits (ls := [.int p0, .null, .null]) rfl (Nat.le_of_ble_eq_true rfl) ?_
  refine r_iconst (pc := 0) d_Md_bits_0 (v := 0) (by decide) ?_
  refine r_istore_n (pc := 1) (hk := rfl) (hd := d_Md_bits_1) (hi := by decide) (ls2 := [.int p0, .int 0, .null]) (h2 := rfl) ?_
  refine r_iload_n (pc := 2) d_Md_bits_2 (x := p0) rfl ?_
  refine r_istore_n (pc := 3) (hk := rfl) (hd := d_Md_bits_3) (hi := by decide) (ls2 := [.int p0, .int 0, .int p0]) (h2 := rfl) ?_
  exact r_weak (ls2 := [.null, .int 0, .int p0]) ⟨Or.inl rfl, Or.inr rfl, Or.inr rfl, trivial⟩ h
set_option maxRecDepth 4000 in
theorem s_Md_bits_4 {l : Launch} {d : Nat} {sh : aw_SH} {S : aw_S} {P : Int32 → aw_S → Prop} {i1 : Int32} {i2 : Int32} (h : ((i2 = 0 → P i1 S) ∧ (¬ i2 = 0 → AW l m_Md_bits (d + 1) 0 0 (gI sh P) 0 0 4 [.null, .int (i1 + 1), .int (i2 &&& (i2 - (1 : Int32)))] [] sh S))) : AW l m_Md_bits (d + 1) 0 0 (gI sh P) 0 0 4 [.null, .int i1, .int i2] [] sh S := by
  refine r_iload_n (pc := 4) d_Md_bits_4 (x := i2) rfl ?_
  refine r_if_eq (pc := 5) d_Md_bits_5 (tgt := 20) (by decide) (fun c1 => ?_) (fun c1 => ?_)
  · replace h := h.1 c1
    refine r_iload_n (pc := 20) d_Md_bits_20 (x := i1) rfl ?_
    exact r_ireturn (pc := 21) d_Md_bits_21 rfl rfl (Nat.le_refl _) ⟨rfl, _, rfl, h⟩
  · replace h := h.2 c1
    refine r_iinc (pc := 8) d_Md_bits_8 (hi := by decide) (x := i1) rfl (v := i1 + 1) rfl (ls2 := [.null, .int (i1 + 1), .int i2]) rfl ?_
    refine r_iload_n (pc := 11) d_Md_bits_11 (x := i2) rfl ?_
    refine r_iload_n (pc := 12) d_Md_bits_12 (x := i2) rfl ?_
    refine r_iconst (pc := 13) d_Md_bits_13 (v := 1) (by decide) ?_
    refine r_isub (pc := 14) d_Md_bits_14 ?_
    refine r_iand (pc := 15) d_Md_bits_15 ?_
    refine r_istore_n (pc := 16) (hk := rfl) (hd := d_Md_bits_16) (hi := by decide) (ls2 := [.null, .int (i1 + 1), .int (i2 &&& (i2 - (1 : Int32)))]) (h2 := rfl) ?_
    refine r_goto (pc := 17) d_Md_bits_17 (tgt := 4) (by decide) ?_
    exact h
set_option maxRecDepth 4000 in
theorem e_Md_dancer {l : Launch} {d : Nat} {sh : aw_SH} {S : aw_S} {P : Int32 → aw_S → Prop} {a : Nat} {p0 : Int32} {p1 : Int32} (sa : sh[a]? = some (0, 11)) (h : Sp l m_Md_isDancer d 0 0 [.ref a, .int p0] sh S (gI sh (fun x2 S1 => ((¬ x2 = 0 → ((((p1 : Int32).toInt < 0 ∨ 4 < (p1 : Int32).toInt) → Sp l m_Md_refuse d 0 0 [.ref a, .int 1] sh S1 (gI sh (fun x5 S4 => P x5 S4))) ∧ (p1 = 0 → Sp l m_Md_placeOf d 0 0 [.ref a, .int p0] sh S1 (gI sh (fun x7 S6 => Sp l m_Md_gives d 0 0 [.ref a, .int x7] sh S6 (gI sh (fun x9 S8 => P x9 S8))))) ∧ (p1 = 1 → ∃ r10, S1.2.2 a 0 = some r10 ∧ ∃ n12, sh[r10]? = some (3, n12) ∧ vp_in ((10 : Int32) + p0) n12 ∧ Sp l m_Md_gives d 0 0 [.ref a, .int (S1.1 r10 ((10 : Int32) + p0 : Int32).toNatClampNeg)] sh S1 (gI sh (fun x15 S14 => P x15 S14))) ∧ (p1 = 2 → Sp l m_Md_leftOf d 0 0 [.ref a, .int 0, .int p0] sh S1 (gI sh (fun x17 S16 => Sp l m_Md_gives d 0 0 [.ref a, .int x17] sh S16 (gI sh (fun x19 S18 => P x19 S18))))) ∧ (p1 = 3 → Sp l m_Md_wentSo d 0 0 [.ref a, .int p0, .int 2] sh S1 (gI sh (fun x21 S20 => Sp l m_Md_gives d 0 0 [.ref a, .int x21] sh S20 (gI sh (fun x23 S22 => P x23 S22))))) ∧ (p1 = 4 → Sp l m_Md_wentSo d 0 0 [.ref a, .int p0, .int 3] sh S1 (gI sh (fun x25 S24 => Sp l m_Md_gives d 0 0 [.ref a, .int x25] sh S24 (gI sh (fun x27 S26 => P x27 S26))))))) ∧ (x2 = 0 → Sp l m_Md_refuse d 0 0 [.ref a, .int 1] sh S1 (gI sh (fun x30 S29 => P x30 S29))))))) : Sp l m_Md_dancer (d + 1) 0 0 [.ref a, .int p0, .int p1] sh S (gI sh P) := by
  refine Sp.of k_Md_dancer (ls := [.ref a, .int p0, .int p1]) rfl (Nat.le_of_ble_eq_true rfl) ?_
  refine r_aload_n (pc := 0) d_Md_dancer_0 (x := a) rfl ?_
  refine r_iload_n (pc := 1) d_Md_dancer_1 (x := p0) rfl ?_
  refine r_callV (pc := 2) (k := a) (As := [.int p0]) (rest := []) (mc' := 0) (ms' := 0) lk_Md_313 in_Md_isDancer se_Md_isDancer sa rfl d_Md_dancer_2 k_Md_isDancer rfl rfl (Nat.le_of_ble_eq_true rfl) (by decide) (by decide) (Sp.mono h ?_)
  rintro rS1 shS1 S1 ⟨qS1, x2, uS1, h⟩
  subst uS1
  rw [qS1]
  refine r_if_ne (pc := 5) d_Md_dancer_5 (tgt := 14) (by decide) (fun c3 => ?_) (fun c3 => ?_)
  · replace h := h.1 c3
    refine r_iload_n (pc := 14) d_Md_dancer_14 (x := p1) rfl ?_
    rcases aw_sw (p1) 0 4 with q28 | ⟨kq28, q28, wq28⟩
    · refine r_tabOut (pc := 15) d_Md_dancer_15 q28 (tgt := 105) (by decide) ?_
      replace h := h.1 q28
      refine r_aload_n (pc := 105) d_Md_dancer_105 (x := a) rfl ?_
      refine r_iconst (pc := 106) d_Md_dancer_106 (v := 1) (by decide) ?_
      refine r_callV (pc := 107) (k := a) (As := [.int 1]) (rest := []) (mc' := 0) (ms' := 0) lk_Md_118 in_Md_refuse se_Md_refuse sa rfl d_Md_dancer_107 k_Md_refuse rfl rfl (Nat.le_of_ble_eq_true rfl) (by decide) (by decide) (Sp.mono h ?_)
      rintro rS4 shS4 S4 ⟨qS4, x5, uS4, h⟩
      subst uS4
      rw [qS4]
      exact r_ireturn (pc := 110) d_Md_dancer_110 rfl rfl (Nat.le_refl _) ⟨rfl, _, rfl, h⟩
    · rcases (show kq28 = 0 ∨ kq28 = 1 ∨ kq28 = 2 ∨ kq28 = 3 ∨ kq28 = 4 by omega) with rfl | rfl | rfl | rfl | rfl
      · refine r_tabIn (pc := 15) d_Md_dancer_15 (off := 33) (by omega) (by omega) (by rw [q28]; rfl) (tgt := 48) (by decide) ?_
        replace h := h.2.1 (aw_ix (y := 0) q28 (by decide))
        refine r_aload_n (pc := 48) d_Md_dancer_48 (x := a) rfl ?_
        refine r_aload_n (pc := 49) d_Md_dancer_49 (x := a) rfl ?_
        refine r_iload_n (pc := 50) d_Md_dancer_50 (x := p0) rfl ?_
        refine r_callV (pc := 51) (k := a) (As := [.int p0]) (rest := [.ref a]) (mc' := 0) (ms' := 0) lk_Md_337 in_Md_placeOf se_Md_placeOf sa rfl d_Md_dancer_51 k_Md_placeOf rfl rfl (Nat.le_of_ble_eq_true rfl) (by decide) (by decide) (Sp.mono h ?_)
        rintro rS6 shS6 S6 ⟨qS6, x7, uS6, h⟩
        subst uS6
        rw [qS6]
        refine r_callV (pc := 54) (k := a) (As := [.int x7]) (rest := []) (mc' := 0) (ms' := 0) lk_Md_122 in_Md_gives se_Md_gives sa rfl d_Md_dancer_54 k_Md_gives rfl rfl (Nat.le_of_ble_eq_true rfl) (by decide) (by decide) (Sp.mono h ?_)
        rintro rS8 shS8 S8 ⟨qS8, x9, uS8, h⟩
        subst uS8
        rw [qS8]
        exact r_ireturn (pc := 57) d_Md_dancer_57 rfl rfl (Nat.le_refl _) ⟨rfl, _, rfl, h⟩
      · refine r_tabIn (pc := 15) d_Md_dancer_15 (off := 43) (by omega) (by omega) (by rw [q28]; rfl) (tgt := 58) (by decide) ?_
        replace h := h.2.2.1 (aw_ix (y := 1) q28 (by decide))
        refine r_aload_n (pc := 58) d_Md_dancer_58 (x := a) rfl ?_
        refine r_aload_n (pc := 59) d_Md_dancer_59 (x := a) rfl ?_
        obtain ⟨r10, er10, h⟩ := h
        refine r_getR (pc := 60) d_Md_dancer_60 f_Md_7 sa (Or.inr ⟨_, rfl⟩) (r := r10) er10 ?_
        refine r_bipush (pc := 63) d_Md_dancer_63 (v := 10) (by decide) ?_
        refine r_iload_n (pc := 65) d_Md_dancer_65 (x := p0) rfl ?_
        refine r_iadd (pc := 66) d_Md_dancer_66 ?_
        obtain ⟨n12, s11, h⟩ := h
        obtain ⟨g13, h⟩ := h
        refine r_iald (pc := 67) d_Md_dancer_67 s11 g13 ?_
        refine r_callV (pc := 68) (k := a) (As := [.int (S1.1 r10 ((10 : Int32) + p0 : Int32).toNatClampNeg)]) (rest := []) (mc' := 0) (ms' := 0) lk_Md_122 in_Md_gives se_Md_gives sa rfl d_Md_dancer_68 k_Md_gives rfl rfl (Nat.le_of_ble_eq_true rfl) (by decide) (by decide) (Sp.mono h ?_)
        rintro rS14 shS14 S14 ⟨qS14, x15, uS14, h⟩
        subst uS14
        rw [qS14]
        exact r_ireturn (pc := 71) d_Md_dancer_71 rfl rfl (Nat.le_refl _) ⟨rfl, _, rfl, h⟩
      · refine r_tabIn (pc := 15) d_Md_dancer_15 (off := 57) (by omega) (by omega) (by rw [q28]; rfl) (tgt := 72) (by decide) ?_
        replace h := h.2.2.2.1 (aw_ix (y := 2) q28 (by decide))
        refine r_aload_n (pc := 72) d_Md_dancer_72 (x := a) rfl ?_
        refine r_aload_n (pc := 73) d_Md_dancer_73 (x := a) rfl ?_
        refine r_iconst (pc := 74) d_Md_dancer_74 (v := 0) (by decide) ?_
        refine r_iload_n (pc := 75) d_Md_dancer_75 (x := p0) rfl ?_
        refine r_callV (pc := 76) (k := a) (As := [.int 0, .int p0]) (rest := [.ref a]) (mc' := 0) (ms' := 0) lk_Md_235 in_Md_leftOf se_Md_leftOf sa rfl d_Md_dancer_76 k_Md_leftOf rfl rfl (Nat.le_of_ble_eq_true rfl) (by decide) (by decide) (Sp.mono h ?_)
        rintro rS16 shS16 S16 ⟨qS16, x17, uS16, h⟩
        subst uS16
        rw [qS16]
        refine r_callV (pc := 79) (k := a) (As := [.int x17]) (rest := []) (mc' := 0) (ms' := 0) lk_Md_122 in_Md_gives se_Md_gives sa rfl d_Md_dancer_79 k_Md_gives rfl rfl (Nat.le_of_ble_eq_true rfl) (by decide) (by decide) (Sp.mono h ?_)
        rintro rS18 shS18 S18 ⟨qS18, x19, uS18, h⟩
        subst uS18
        rw [qS18]
        exact r_ireturn (pc := 82) d_Md_dancer_82 rfl rfl (Nat.le_refl _) ⟨rfl, _, rfl, h⟩
      · refine r_tabIn (pc := 15) d_Md_dancer_15 (off := 68) (by omega) (by omega) (by rw [q28]; rfl) (tgt := 83) (by decide) ?_
        replace h := h.2.2.2.2.1 (aw_ix (y := 3) q28 (by decide))
        refine r_aload_n (pc := 83) d_Md_dancer_83 (x := a) rfl ?_
        refine r_aload_n (pc := 84) d_Md_dancer_84 (x := a) rfl ?_
        refine r_iload_n (pc := 85) d_Md_dancer_85 (x := p0) rfl ?_
        refine r_iconst (pc := 86) d_Md_dancer_86 (v := 2) (by decide) ?_
        refine r_callV (pc := 87) (k := a) (As := [.int p0, .int 2]) (rest := [.ref a]) (mc' := 0) (ms' := 0) lk_Md_340 in_Md_wentSo se_Md_wentSo sa rfl d_Md_dancer_87 k_Md_wentSo rfl rfl (Nat.le_of_ble_eq_true rfl) (by decide) (by decide) (Sp.mono h ?_)
        rintro rS20 shS20 S20 ⟨qS20, x21, uS20, h⟩
        subst uS20
        rw [qS20]
        refine r_callV (pc := 90) (k := a) (As := [.int x21]) (rest := []) (mc' := 0) (ms' := 0) lk_Md_122 in_Md_gives se_Md_gives sa rfl d_Md_dancer_90 k_Md_gives rfl rfl (Nat.le_of_ble_eq_true rfl) (by decide) (by decide) (Sp.mono h ?_)
        rintro rS22 shS22 S22 ⟨qS22, x23, uS22, h⟩
        subst uS22
        rw [qS22]
        exact r_ireturn (pc := 93) d_Md_dancer_93 rfl rfl (Nat.le_refl _) ⟨rfl, _, rfl, h⟩
      · refine r_tabIn (pc := 15) d_Md_dancer_15 (off := 79) (by omega) (by omega) (by rw [q28]; rfl) (tgt := 94) (by decide) ?_
        replace h := h.2.2.2.2.2 (aw_ix (y := 4) q28 (by decide))
        refine r_aload_n (pc := 94) d_Md_dancer_94 (x := a) rfl ?_
        refine r_aload_n (pc := 95) d_Md_dancer_95 (x := a) rfl ?_
        refine r_iload_n (pc := 96) d_Md_dancer_96 (x := p0) rfl ?_
        refine r_iconst (pc := 97) d_Md_dancer_97 (v := 3) (by decide) ?_
        refine r_callV (pc := 98) (k := a) (As := [.int p0, .int 3]) (rest := [.ref a]) (mc' := 0) (ms' := 0) lk_Md_340 in_Md_wentSo se_Md_wentSo sa rfl d_Md_dancer_98 k_Md_wentSo rfl rfl (Nat.le_of_ble_eq_true rfl) (by decide) (by decide) (Sp.mono h ?_)
        rintro rS24 shS24 S24 ⟨qS24, x25, uS24, h⟩
        subst uS24
        rw [qS24]
        refine r_callV (pc := 101) (k := a) (As := [.int x25]) (rest := []) (mc' := 0) (ms' := 0) lk_Md_122 in_Md_gives se_Md_gives sa rfl d_Md_dancer_101 k_Md_gives rfl rfl (Nat.le_of_ble_eq_true rfl) (by decide) (by decide) (Sp.mono h ?_)
        rintro rS26 shS26 S26 ⟨qS26, x27, uS26, h⟩
        subst uS26
        rw [qS26]
        exact r_ireturn (pc := 104) d_Md_dancer_104 rfl rfl (Nat.le_refl _) ⟨rfl, _, rfl, h⟩
  · replace h := h.2 c3
    refine r_aload_n (pc := 8) d_Md_dancer_8 (x := a) rfl ?_
    refine r_iconst (pc := 9) d_Md_dancer_9 (v := 1) (by decide) ?_
    refine r_callV (pc := 10) (k := a) (As := [.int 1]) (rest := []) (mc' := 0) (ms' := 0) lk_Md_118 in_Md_refuse se_Md_refuse sa rfl d_Md_dancer_10 k_Md_refuse rfl rfl (Nat.le_of_ble_eq_true rfl) (by decide) (by decide) (Sp.mono h ?_)
    rintro rS29 shS29 S29 ⟨qS29, x30, uS29, h⟩
    subst uS29
    rw [qS29]
    exact r_ireturn (pc := 13) d_Md_dancer_13 rfl rfl (Nat.le_refl _) ⟨rfl, _, rfl, h⟩
set_option maxRecDepth 4000 in
theorem e_Md_isDancer {l : Launch} {d : Nat} {sh : aw_SH} {S : aw_S} {P : Int32 → aw_S → Prop} {a : Nat} {p0 : Int32} (sa : sh[a]? = some (0, 11)) (h : ((p0 < 0 → P 0 S) ∧ (¬ p0 < 0 → ∃ r2, S.2.2 a 0 = some r2 ∧ ∃ n4, sh[r2]? = some (3, n4) ∧ vp_in 0 n4 ∧ (((S.1 r2 (0 : Int32).toNatClampNeg) ≤ p0 → P 0 S) ∧ (¬ (S.1 r2 (0 : Int32).toNatClampNeg) ≤ p0 → P 1 S))))) : Sp l m_Md_isDancer (d + 1) 0 0 [.ref a, .int p0] sh S (gI sh P) := by
  refine Sp.of k_Md_isDancer (ls := [.ref a, .int p0]) rfl (Nat.le_of_ble_eq_true rfl) ?_
  refine r_iload_n (pc := 0) d_Md_isDancer_0 (x := p0) rfl ?_
  refine r_if_lt (pc := 1) d_Md_isDancer_1 (tgt := 18) (by decide) (fun c1 => ?_) (fun c1 => ?_)
  · replace h := h.1 c1
    refine r_iconst (pc := 18) d_Md_isDancer_18 (v := 0) (by decide) ?_
    exact r_zreturn (pc := 19) d_Md_isDancer_19 (v := 0) rfl (by decide) rfl (Nat.le_refl _) ⟨rfl, _, rfl, h⟩
  · replace h := h.2 c1
    refine r_iload_n (pc := 4) d_Md_isDancer_4 (x := p0) rfl ?_
    refine r_aload_n (pc := 5) d_Md_isDancer_5 (x := a) rfl ?_
    obtain ⟨r2, er2, h⟩ := h
    refine r_getR (pc := 6) d_Md_isDancer_6 f_Md_7 sa (Or.inr ⟨_, rfl⟩) (r := r2) er2 ?_
    refine r_iconst (pc := 9) d_Md_isDancer_9 (v := 0) (by decide) ?_
    obtain ⟨n4, s3, h⟩ := h
    obtain ⟨g5, h⟩ := h
    refine r_iald (pc := 10) d_Md_isDancer_10 s3 g5 ?_
    refine r_icmp_ge (pc := 11) d_Md_isDancer_11 (tgt := 18) (by decide) (fun c6 => ?_) (fun c6 => ?_)
    · replace h := h.1 c6
      refine r_iconst (pc := 18) d_Md_isDancer_18 (v := 0) (by decide) ?_
      exact r_zreturn (pc := 19) d_Md_isDancer_19 (v := 0) rfl (by decide) rfl (Nat.le_refl _) ⟨rfl, _, rfl, h⟩
    · replace h := h.2 c6
      refine r_iconst (pc := 14) d_Md_isDancer_14 (v := 1) (by decide) ?_
      refine r_goto (pc := 15) d_Md_isDancer_15 (tgt := 19) (by decide) ?_
      exact r_zreturn (pc := 19) d_Md_isDancer_19 (v := 1) rfl (by decide) rfl (Nat.le_refl _) ⟨rfl, _, rfl, h⟩
set_option maxRecDepth 4000 in
theorem e_Md_placeOf {l : Launch} {d : Nat} {sh : aw_SH} {S : aw_S} {P : Int32 → aw_S → Prop} {a : Nat} {p0 : Int32} (sa : sh[a]? = some (0, 11)) (h : AW l m_Md_placeOf (d + 1) 0 0 (gI sh P) 0 0 2 [.ref a, .int p0, .int 0] [] sh S) : Sp l m_Md_placeOf (d + 1) 0 0 [.ref a, .int p0] sh S (gI sh P) := by
  refine Sp.of k_Md_placeOf (ls := [.ref a, .int p0, .null]) rfl (Nat.le_of_ble_eq_true rfl) ?_
  refine r_iconst (pc := 0) d_Md_placeOf_0 (v := 0) (by decide) ?_
  refine r_istore_n (pc := 1) (hk := rfl) (hd := d_Md_placeOf_1) (hi := by decide) (ls2 := [.ref a, .int p0, .int 0]) (h2 := rfl) ?_
  exact h
set_option maxRecDepth 4000 in
theorem s_Md_placeOf_2 {l : Launch} {d : Nat} {sh : aw_SH} {S : aw_S} {P : Int32 → aw_S → Prop} {a : Nat} {i1 : Int32} {i2 : Int32} (sa : sh[a]? = some (0, 11)) (h : ∃ r1, S.2.2 a 0 = some r1 ∧ ∃ n3, sh[r1]? = some (3, n3) ∧ vp_in ((17 : Int32) + i2) n3 ∧ (((S.1 r1 ((17 : Int32) + i2 : Int32).toNatClampNeg) = i1 → P i2 S) ∧ (¬ (S.1 r1 ((17 : Int32) + i2 : Int32).toNatClampNeg) = i1 → AW l m_Md_placeOf (d + 1) 0 0 (gI sh P) 0 0 2 [.ref a, .int i1, .int (i2 + 1)] [] sh S))) : AW l m_Md_placeOf (d + 1) 0 0 (gI sh P) 0 0 2 [.ref a, .int i1, .int i2] [] sh S := by
  refine r_aload_n (pc := 2) d_Md_placeOf_2 (x := a) rfl ?_
  obtain ⟨r1, er1, h⟩ := h
  refine r_getR (pc := 3) d_Md_placeOf_3 f_Md_7 sa (Or.inr ⟨_, rfl⟩) (r := r1) er1 ?_
  refine r_bipush (pc := 6) d_Md_placeOf_6 (v := 17) (by decide) ?_
  refine r_iload_n (pc := 8) d_Md_placeOf_8 (x := i2) rfl ?_
  refine r_iadd (pc := 9) d_Md_placeOf_9 ?_
  obtain ⟨n3, s2, h⟩ := h
  obtain ⟨g4, h⟩ := h
  refine r_iald (pc := 10) d_Md_placeOf_10 s2 g4 ?_
  refine r_iload_n (pc := 11) d_Md_placeOf_11 (x := i1) rfl ?_
  refine r_icmp_eq (pc := 12) d_Md_placeOf_12 (tgt := 21) (by decide) (fun c5 => ?_) (fun c5 => ?_)
  · replace h := h.1 c5
    refine r_iload_n (pc := 21) d_Md_placeOf_21 (x := i2) rfl ?_
    exact r_ireturn (pc := 22) d_Md_placeOf_22 rfl rfl (Nat.le_refl _) ⟨rfl, _, rfl, h⟩
  · replace h := h.2 c5
    refine r_iinc (pc := 15) d_Md_placeOf_15 (hi := by decide) (x := i2) rfl (v := i2 + 1) rfl (ls2 := [.ref a, .int i1, .int (i2 + 1)]) rfl ?_
    refine r_goto (pc := 18) d_Md_placeOf_18 (tgt := 2) (by decide) ?_
    exact h
set_option maxRecDepth 4000 in
theorem e_Md_wentSo {l : Launch} {d : Nat} {sh : aw_SH} {S : aw_S} {P : Int32 → aw_S → Prop} {a : Nat} {p0 : Int32} {p1 : Int32} (sa : sh[a]? = some (0, 11)) (h : AW l m_Md_wentSo (d + 1) 0 0 (gI sh P) 0 0 5 [.ref a, .int p0, .int p1, .int 0, .int 0] [] sh S) : Sp l m_Md_wentSo (d + 1) 0 0 [.ref a, .int p0, .int p1] sh S (gI sh P) := by
  refine Sp.of k_Md_wentSo (ls := [.ref a, .int p0, .int p1, .null, .null]) rfl (Nat.le_of_ble_eq_true rfl) ?_
  refine r_iconst (pc := 0) d_Md_wentSo_0 (v := 0) (by decide) ?_
  refine r_istore_n (pc := 1) (hk := rfl) (hd := d_Md_wentSo_1) (hi := by decide) (ls2 := [.ref a, .int p0, .int p1, .int 0, .null]) (h2 := rfl) ?_
  refine r_iconst (pc := 2) d_Md_wentSo_2 (v := 0) (by decide) ?_
  refine r_istore (pc := 3) (hd := d_Md_wentSo_3) (hi := by decide) (ls2 := [.ref a, .int p0, .int p1, .int 0, .int 0]) (h2 := rfl) ?_
  exact h
set_option maxRecDepth 4000 in
theorem s_Md_wentSo_5 {l : Launch} {d : Nat} {sh : aw_SH} {S : aw_S} {P : Int32 → aw_S → Prop} {a : Nat} {i1 : Int32} {i2 : Int32} {i3 : Int32} {i4 : Int32} (sa : sh[a]? = some (0, 11)) (h : ∃ r1, S.2.2 a 0 = some r1 ∧ ∃ n3, sh[r1]? = some (3, n3) ∧ vp_in 3 n3 ∧ (((S.1 r1 (3 : Int32).toNatClampNeg) ≤ i4 → P i3 S) ∧ (¬ (S.1 r1 (3 : Int32).toNatClampNeg) ≤ i4 → Sp l m_Md_passOf d 0 0 [.ref a, .int i4, .int i2] sh S (gI sh (fun x7 S6 => ((¬ x7 = i1 → AW l m_Md_wentSo (d + 1) 0 0 (gI sh P) 0 0 5 [.ref a, .int i1, .int i2, .int (i3 + (0 : Int32)), .int (i4 + 1)] [] sh S6) ∧ (x7 = i1 → AW l m_Md_wentSo (d + 1) 0 0 (gI sh P) 0 0 5 [.ref a, .int i1, .int i2, .int (i3 + (1 : Int32)), .int (i4 + 1)] [] sh S6))))))) : AW l m_Md_wentSo (d + 1) 0 0 (gI sh P) 0 0 5 [.ref a, .int i1, .int i2, .int i3, .int i4] [] sh S := by
  refine r_iload (pc := 5) d_Md_wentSo_5 (x := i4) rfl ?_
  refine r_aload_n (pc := 7) d_Md_wentSo_7 (x := a) rfl ?_
  obtain ⟨r1, er1, h⟩ := h
  refine r_getR (pc := 8) d_Md_wentSo_8 f_Md_7 sa (Or.inr ⟨_, rfl⟩) (r := r1) er1 ?_
  refine r_iconst (pc := 11) d_Md_wentSo_11 (v := 3) (by decide) ?_
  obtain ⟨n3, s2, h⟩ := h
  obtain ⟨g4, h⟩ := h
  refine r_iald (pc := 12) d_Md_wentSo_12 s2 g4 ?_
  refine r_icmp_ge (pc := 13) d_Md_wentSo_13 (tgt := 41) (by decide) (fun c5 => ?_) (fun c5 => ?_)
  · replace h := h.1 c5
    refine r_iload_n (pc := 41) d_Md_wentSo_41 (x := i3) rfl ?_
    exact r_ireturn (pc := 42) d_Md_wentSo_42 rfl rfl (Nat.le_refl _) ⟨rfl, _, rfl, h⟩
  · replace h := h.2 c5
    refine r_iload_n (pc := 16) d_Md_wentSo_16 (x := i3) rfl ?_
    refine r_aload_n (pc := 17) d_Md_wentSo_17 (x := a) rfl ?_
    refine r_iload (pc := 18) d_Md_wentSo_18 (x := i4) rfl ?_
    refine r_iload_n (pc := 20) d_Md_wentSo_20 (x := i2) rfl ?_
    refine r_callV (pc := 21) (k := a) (As := [.int i4, .int i2]) (rest := [.int i3]) (mc' := 0) (ms' := 0) lk_Md_316 in_Md_passOf se_Md_passOf sa rfl d_Md_wentSo_21 k_Md_passOf rfl rfl (Nat.le_of_ble_eq_true rfl) (by decide) (by decide) (Sp.mono h ?_)
    rintro rS6 shS6 S6 ⟨qS6, x7, uS6, h⟩
    subst uS6
    rw [qS6]
    refine r_iload_n (pc := 24) d_Md_wentSo_24 (x := i1) rfl ?_
    refine r_icmp_ne (pc := 25) d_Md_wentSo_25 (tgt := 32) (by decide) (fun c8 => ?_) (fun c8 => ?_)
    · replace h := h.1 c8
      refine r_iconst (pc := 32) d_Md_wentSo_32 (v := 0) (by decide) ?_
      refine r_iadd (pc := 33) d_Md_wentSo_33 ?_
      refine r_istore_n (pc := 34) (hk := rfl) (hd := d_Md_wentSo_34) (hi := by decide) (ls2 := [.ref a, .int i1, .int i2, .int (i3 + (0 : Int32)), .int i4]) (h2 := rfl) ?_
      refine r_iinc (pc := 35) d_Md_wentSo_35 (hi := by decide) (x := i4) rfl (v := i4 + 1) rfl (ls2 := [.ref a, .int i1, .int i2, .int (i3 + (0 : Int32)), .int (i4 + 1)]) rfl ?_
      refine r_goto (pc := 38) d_Md_wentSo_38 (tgt := 5) (by decide) ?_
      exact h
    · replace h := h.2 c8
      refine r_iconst (pc := 28) d_Md_wentSo_28 (v := 1) (by decide) ?_
      refine r_goto (pc := 29) d_Md_wentSo_29 (tgt := 33) (by decide) ?_
      refine r_iadd (pc := 33) d_Md_wentSo_33 ?_
      refine r_istore_n (pc := 34) (hk := rfl) (hd := d_Md_wentSo_34) (hi := by decide) (ls2 := [.ref a, .int i1, .int i2, .int (i3 + (1 : Int32)), .int i4]) (h2 := rfl) ?_
      refine r_iinc (pc := 35) d_Md_wentSo_35 (hi := by decide) (x := i4) rfl (v := i4 + 1) rfl (ls2 := [.ref a, .int i1, .int i2, .int (i3 + (1 : Int32)), .int (i4 + 1)]) rfl ?_
      refine r_goto (pc := 38) d_Md_wentSo_38 (tgt := 5) (by decide) ?_
      exact h
set_option maxRecDepth 4000 in
theorem e_Md_place {l : Launch} {d : Nat} {sh : aw_SH} {S : aw_S} {P : Int32 → aw_S → Prop} {a : Nat} {p0 : Int32} (sa : sh[a]? = some (0, 11)) (h : Sp l m_Md_isDancer d 0 0 [.ref a, .int p0] sh S (gI sh (fun x2 S1 => ((x2 = 0 → Sp l m_Md_refuse d 0 0 [.ref a, .int 1] sh S1 (gI sh (fun x5 S4 => P x5 S4))) ∧ (¬ x2 = 0 → ∃ r6, S1.2.2 a 0 = some r6 ∧ ∃ n8, sh[r6]? = some (3, n8) ∧ vp_in ((17 : Int32) + p0) n8 ∧ Sp l m_Md_gives d 0 0 [.ref a, .int (S1.1 r6 ((17 : Int32) + p0 : Int32).toNatClampNeg)] sh S1 (gI sh (fun x11 S10 => P x11 S10))))))) : Sp l m_Md_place (d + 1) 0 0 [.ref a, .int p0] sh S (gI sh P) := by
  refine Sp.of k_Md_place (ls := [.ref a, .int p0]) rfl (Nat.le_of_ble_eq_true rfl) ?_
  refine r_aload_n (pc := 0) d_Md_place_0 (x := a) rfl ?_
  refine r_iload_n (pc := 1) d_Md_place_1 (x := p0) rfl ?_
  refine r_callV (pc := 2) (k := a) (As := [.int p0]) (rest := []) (mc' := 0) (ms' := 0) lk_Md_313 in_Md_isDancer se_Md_isDancer sa rfl d_Md_place_2 k_Md_isDancer rfl rfl (Nat.le_of_ble_eq_true rfl) (by decide) (by decide) (Sp.mono h ?_)
  rintro rS1 shS1 S1 ⟨qS1, x2, uS1, h⟩
  subst uS1
  rw [qS1]
  refine r_if_eq (pc := 5) d_Md_place_5 (tgt := 24) (by decide) (fun c3 => ?_) (fun c3 => ?_)
  · replace h := h.1 c3
    refine r_aload_n (pc := 24) d_Md_place_24 (x := a) rfl ?_
    refine r_iconst (pc := 25) d_Md_place_25 (v := 1) (by decide) ?_
    refine r_callV (pc := 26) (k := a) (As := [.int 1]) (rest := []) (mc' := 0) (ms' := 0) lk_Md_118 in_Md_refuse se_Md_refuse sa rfl d_Md_place_26 k_Md_refuse rfl rfl (Nat.le_of_ble_eq_true rfl) (by decide) (by decide) (Sp.mono h ?_)
    rintro rS4 shS4 S4 ⟨qS4, x5, uS4, h⟩
    subst uS4
    rw [qS4]
    exact r_ireturn (pc := 29) d_Md_place_29 rfl rfl (Nat.le_refl _) ⟨rfl, _, rfl, h⟩
  · replace h := h.2 c3
    refine r_aload_n (pc := 8) d_Md_place_8 (x := a) rfl ?_
    refine r_aload_n (pc := 9) d_Md_place_9 (x := a) rfl ?_
    obtain ⟨r6, er6, h⟩ := h
    refine r_getR (pc := 10) d_Md_place_10 f_Md_7 sa (Or.inr ⟨_, rfl⟩) (r := r6) er6 ?_
    refine r_bipush (pc := 13) d_Md_place_13 (v := 17) (by decide) ?_
    refine r_iload_n (pc := 15) d_Md_place_15 (x := p0) rfl ?_
    refine r_iadd (pc := 16) d_Md_place_16 ?_
    obtain ⟨n8, s7, h⟩ := h
    obtain ⟨g9, h⟩ := h
    refine r_iald (pc := 17) d_Md_place_17 s7 g9 ?_
    refine r_callV (pc := 18) (k := a) (As := [.int (S1.1 r6 ((17 : Int32) + p0 : Int32).toNatClampNeg)]) (rest := []) (mc' := 0) (ms' := 0) lk_Md_122 in_Md_gives se_Md_gives sa rfl d_Md_place_18 k_Md_gives rfl rfl (Nat.le_of_ble_eq_true rfl) (by decide) (by decide) (Sp.mono h ?_)
    rintro rS10 shS10 S10 ⟨qS10, x11, uS10, h⟩
    subst uS10
    rw [qS10]
    refine r_goto (pc := 21) d_Md_place_21 (tgt := 29) (by decide) ?_
    exact r_ireturn (pc := 29) d_Md_place_29 rfl rfl (Nat.le_refl _) ⟨rfl, _, rfl, h⟩
set_option maxRecDepth 4000 in
theorem e_Md_plait {l : Launch} {d : Nat} {sh : aw_SH} {S : aw_S} {P : Int32 → aw_S → Prop} {a : Nat} {p0 : Int32} {p1 : Int32} (sa : sh[a]? = some (0, 11)) (h : ((p1 < 0 → Sp l m_Md_refuse d 0 0 [.ref a, .int 1] sh S (gI sh (fun x3 S2 => P x3 S2))) ∧ (¬ p1 < 0 → ((p1 ≤ 6 → ((p0 < 0 → Sp l m_Md_refuse d 0 0 [.ref a, .int 6] sh S (gI sh (fun x7 S6 => P x7 S6))) ∧ (¬ p0 < 0 → ∃ r8, S.2.2 a 0 = some r8 ∧ ∃ n10, sh[r8]? = some (3, n10) ∧ vp_in 3 n10 ∧ ((p0 < (S.1 r8 (3 : Int32).toNatClampNeg) → ((((p1 : Int32).toInt < 4 ∨ 6 < (p1 : Int32).toInt) → Sp l m_Md_passOf d 0 0 [.ref a, .int p0, .int p1] sh S (gI sh (fun x14 S13 => Sp l m_Md_gives d 0 0 [.ref a, .int x14] sh S13 (gI sh (fun x16 S15 => P x16 S15))))) ∧ (p1 = 4 → Sp l m_Md_laysRows d 0 0 [.ref a] sh S (gI sh (fun x18 S17 => ∃ r19, S17.2.2 a 24 = some r19 ∧ ∃ n21, sh[r19]? = some (3, n21) ∧ vp_in p0 n21 ∧ Sp l m_Md_gives d 0 0 [.ref a, .int (S17.1 r19 p0.toNatClampNeg)] sh S17 (gI sh (fun x24 S23 => P x24 S23))))) ∧ (p1 = 5 → Sp l m_Md_isFreeIn d 0 0 [.ref a, .int 0, .int p0] sh S (gI sh (fun x26 S25 => ((x26 = 0 → Sp l m_Md_gives d 0 0 [.ref a, .int 0] sh S25 (gI sh (fun x29 S28 => P x29 S28))) ∧ (¬ x26 = 0 → Sp l m_Md_gives d 0 0 [.ref a, .int 1] sh S25 (gI sh (fun x31 S30 => P x31 S30))))))) ∧ (p1 = 6 → Sp l m_Md_holdsOf d 0 0 [.ref a, .int p0] sh S (gI sh (fun x33 S32 => Sp l m_Md_gives d 0 0 [.ref a, .int x33] sh S32 (gI sh (fun x35 S34 => P x35 S34))))))) ∧ (¬ p0 < (S.1 r8 (3 : Int32).toNatClampNeg) → Sp l m_Md_refuse d 0 0 [.ref a, .int 6] sh S (gI sh (fun x38 S37 => P x38 S37))))))) ∧ (¬ p1 ≤ 6 → Sp l m_Md_refuse d 0 0 [.ref a, .int 1] sh S (gI sh (fun x40 S39 => P x40 S39))))))) : Sp l m_Md_plait (d + 1) 0 0 [.ref a, .int p0, .int p1] sh S (gI sh P) := by
  refine Sp.of k_Md_plait (ls := [.ref a, .int p0, .int p1]) rfl (Nat.le_of_ble_eq_true rfl) ?_
  refine r_iload_n (pc := 0) d_Md_plait_0 (x := p1) rfl ?_
  refine r_if_lt (pc := 1) d_Md_plait_1 (tgt := 10) (by decide) (fun c1 => ?_) (fun c1 => ?_)
  · replace h := h.1 c1
    refine r_aload_n (pc := 10) d_Md_plait_10 (x := a) rfl ?_
    refine r_iconst (pc := 11) d_Md_plait_11 (v := 1) (by decide) ?_
    refine r_callV (pc := 12) (k := a) (As := [.int 1]) (rest := []) (mc' := 0) (ms' := 0) lk_Md_118 in_Md_refuse se_Md_refuse sa rfl d_Md_plait_12 k_Md_refuse rfl rfl (Nat.le_of_ble_eq_true rfl) (by decide) (by decide) (Sp.mono h ?_)
    rintro rS2 shS2 S2 ⟨qS2, x3, uS2, h⟩
    subst uS2
    rw [qS2]
    exact r_ireturn (pc := 15) d_Md_plait_15 rfl rfl (Nat.le_refl _) ⟨rfl, _, rfl, h⟩
  · replace h := h.2 c1
    refine r_iload_n (pc := 4) d_Md_plait_4 (x := p1) rfl ?_
    refine r_bipush (pc := 5) d_Md_plait_5 (v := 6) (by decide) ?_
    refine r_icmp_le (pc := 7) d_Md_plait_7 (tgt := 16) (by decide) (fun c4 => ?_) (fun c4 => ?_)
    · replace h := h.1 c4
      refine r_iload_n (pc := 16) d_Md_plait_16 (x := p0) rfl ?_
      refine r_if_lt (pc := 17) d_Md_plait_17 (tgt := 30) (by decide) (fun c5 => ?_) (fun c5 => ?_)
      · replace h := h.1 c5
        refine r_aload_n (pc := 30) d_Md_plait_30 (x := a) rfl ?_
        refine r_bipush (pc := 31) d_Md_plait_31 (v := 6) (by decide) ?_
        refine r_callV (pc := 33) (k := a) (As := [.int 6]) (rest := []) (mc' := 0) (ms' := 0) lk_Md_118 in_Md_refuse se_Md_refuse sa rfl d_Md_plait_33 k_Md_refuse rfl rfl (Nat.le_of_ble_eq_true rfl) (by decide) (by decide) (Sp.mono h ?_)
        rintro rS6 shS6 S6 ⟨qS6, x7, uS6, h⟩
        subst uS6
        rw [qS6]
        exact r_ireturn (pc := 36) d_Md_plait_36 rfl rfl (Nat.le_refl _) ⟨rfl, _, rfl, h⟩
      · replace h := h.2 c5
        refine r_iload_n (pc := 20) d_Md_plait_20 (x := p0) rfl ?_
        refine r_aload_n (pc := 21) d_Md_plait_21 (x := a) rfl ?_
        obtain ⟨r8, er8, h⟩ := h
        refine r_getR (pc := 22) d_Md_plait_22 f_Md_7 sa (Or.inr ⟨_, rfl⟩) (r := r8) er8 ?_
        refine r_iconst (pc := 25) d_Md_plait_25 (v := 3) (by decide) ?_
        obtain ⟨n10, s9, h⟩ := h
        obtain ⟨g11, h⟩ := h
        refine r_iald (pc := 26) d_Md_plait_26 s9 g11 ?_
        refine r_icmp_lt (pc := 27) d_Md_plait_27 (tgt := 37) (by decide) (fun c12 => ?_) (fun c12 => ?_)
        · replace h := h.1 c12
          refine r_iload_n (pc := 37) d_Md_plait_37 (x := p1) rfl ?_
          rcases aw_sw (p1) 4 6 with q36 | ⟨kq36, q36, wq36⟩
          · refine r_tabOut (pc := 38) d_Md_plait_38 q36 (tgt := 109) (by decide) ?_
            replace h := h.1 q36
            refine r_aload_n (pc := 109) d_Md_plait_109 (x := a) rfl ?_
            refine r_aload_n (pc := 110) d_Md_plait_110 (x := a) rfl ?_
            refine r_iload_n (pc := 111) d_Md_plait_111 (x := p0) rfl ?_
            refine r_iload_n (pc := 112) d_Md_plait_112 (x := p1) rfl ?_
            refine r_callV (pc := 113) (k := a) (As := [.int p0, .int p1]) (rest := [.ref a]) (mc' := 0) (ms' := 0) lk_Md_316 in_Md_passOf se_Md_passOf sa rfl d_Md_plait_113 k_Md_passOf rfl rfl (Nat.le_of_ble_eq_true rfl) (by decide) (by decide) (Sp.mono h ?_)
            rintro rS13 shS13 S13 ⟨qS13, x14, uS13, h⟩
            subst uS13
            rw [qS13]
            refine r_callV (pc := 116) (k := a) (As := [.int x14]) (rest := []) (mc' := 0) (ms' := 0) lk_Md_122 in_Md_gives se_Md_gives sa rfl d_Md_plait_116 k_Md_gives rfl rfl (Nat.le_of_ble_eq_true rfl) (by decide) (by decide) (Sp.mono h ?_)
            rintro rS15 shS15 S15 ⟨qS15, x16, uS15, h⟩
            subst uS15
            rw [qS15]
            exact r_ireturn (pc := 119) d_Md_plait_119 rfl rfl (Nat.le_refl _) ⟨rfl, _, rfl, h⟩
          · rcases (show kq36 = 0 ∨ kq36 = 1 ∨ kq36 = 2 by omega) with rfl | rfl | rfl
            · refine r_tabIn (pc := 38) d_Md_plait_38 (off := 26) (by omega) (by omega) (by rw [q36]; rfl) (tgt := 64) (by decide) ?_
              replace h := h.2.1 (aw_ix (y := 4) q36 (by decide))
              refine r_aload_n (pc := 64) d_Md_plait_64 (x := a) rfl ?_
              refine r_callV (pc := 65) (k := a) (As := []) (rest := []) (mc' := 0) (ms' := 0) lk_Md_325 in_Md_laysRows se_Md_laysRows sa rfl d_Md_plait_65 k_Md_laysRows rfl rfl (Nat.le_of_ble_eq_true rfl) (by decide) (by decide) (Sp.mono h ?_)
              rintro rS17 shS17 S17 ⟨qS17, x18, uS17, h⟩
              subst uS17
              rw [qS17]
              refine r_pop (pc := 68) d_Md_plait_68 rfl ?_
              refine r_aload_n (pc := 69) d_Md_plait_69 (x := a) rfl ?_
              refine r_aload_n (pc := 70) d_Md_plait_70 (x := a) rfl ?_
              obtain ⟨r19, er19, h⟩ := h
              refine r_getR (pc := 71) d_Md_plait_71 f_Md_47 sa (Or.inr ⟨_, rfl⟩) (r := r19) er19 ?_
              refine r_iload_n (pc := 74) d_Md_plait_74 (x := p0) rfl ?_
              obtain ⟨n21, s20, h⟩ := h
              obtain ⟨g22, h⟩ := h
              refine r_iald (pc := 75) d_Md_plait_75 s20 g22 ?_
              refine r_callV (pc := 76) (k := a) (As := [.int (S17.1 r19 p0.toNatClampNeg)]) (rest := []) (mc' := 0) (ms' := 0) lk_Md_122 in_Md_gives se_Md_gives sa rfl d_Md_plait_76 k_Md_gives rfl rfl (Nat.le_of_ble_eq_true rfl) (by decide) (by decide) (Sp.mono h ?_)
              rintro rS23 shS23 S23 ⟨qS23, x24, uS23, h⟩
              subst uS23
              rw [qS23]
              exact r_ireturn (pc := 79) d_Md_plait_79 rfl rfl (Nat.le_refl _) ⟨rfl, _, rfl, h⟩
            · refine r_tabIn (pc := 38) d_Md_plait_38 (off := 42) (by omega) (by omega) (by rw [q36]; rfl) (tgt := 80) (by decide) ?_
              replace h := h.2.2.1 (aw_ix (y := 5) q36 (by decide))
              refine r_aload_n (pc := 80) d_Md_plait_80 (x := a) rfl ?_
              refine r_aload_n (pc := 81) d_Md_plait_81 (x := a) rfl ?_
              refine r_iconst (pc := 82) d_Md_plait_82 (v := 0) (by decide) ?_
              refine r_iload_n (pc := 83) d_Md_plait_83 (x := p0) rfl ?_
              refine r_callV (pc := 84) (k := a) (As := [.int 0, .int p0]) (rest := [.ref a]) (mc' := 0) (ms' := 0) lk_Md_224 in_Md_isFreeIn se_Md_isFreeIn sa rfl d_Md_plait_84 k_Md_isFreeIn rfl rfl (Nat.le_of_ble_eq_true rfl) (by decide) (by decide) (Sp.mono h ?_)
              rintro rS25 shS25 S25 ⟨qS25, x26, uS25, h⟩
              subst uS25
              rw [qS25]
              refine r_if_eq (pc := 87) d_Md_plait_87 (tgt := 94) (by decide) (fun c27 => ?_) (fun c27 => ?_)
              · replace h := h.1 c27
                refine r_iconst (pc := 94) d_Md_plait_94 (v := 0) (by decide) ?_
                refine r_callV (pc := 95) (k := a) (As := [.int 0]) (rest := []) (mc' := 0) (ms' := 0) lk_Md_122 in_Md_gives se_Md_gives sa rfl d_Md_plait_95 k_Md_gives rfl rfl (Nat.le_of_ble_eq_true rfl) (by decide) (by decide) (Sp.mono h ?_)
                rintro rS28 shS28 S28 ⟨qS28, x29, uS28, h⟩
                subst uS28
                rw [qS28]
                exact r_ireturn (pc := 98) d_Md_plait_98 rfl rfl (Nat.le_refl _) ⟨rfl, _, rfl, h⟩
              · replace h := h.2 c27
                refine r_iconst (pc := 90) d_Md_plait_90 (v := 1) (by decide) ?_
                refine r_goto (pc := 91) d_Md_plait_91 (tgt := 95) (by decide) ?_
                refine r_callV (pc := 95) (k := a) (As := [.int 1]) (rest := []) (mc' := 0) (ms' := 0) lk_Md_122 in_Md_gives se_Md_gives sa rfl d_Md_plait_95 k_Md_gives rfl rfl (Nat.le_of_ble_eq_true rfl) (by decide) (by decide) (Sp.mono h ?_)
                rintro rS30 shS30 S30 ⟨qS30, x31, uS30, h⟩
                subst uS30
                rw [qS30]
                exact r_ireturn (pc := 98) d_Md_plait_98 rfl rfl (Nat.le_refl _) ⟨rfl, _, rfl, h⟩
            · refine r_tabIn (pc := 38) d_Md_plait_38 (off := 61) (by omega) (by omega) (by rw [q36]; rfl) (tgt := 99) (by decide) ?_
              replace h := h.2.2.2 (aw_ix (y := 6) q36 (by decide))
              refine r_aload_n (pc := 99) d_Md_plait_99 (x := a) rfl ?_
              refine r_aload_n (pc := 100) d_Md_plait_100 (x := a) rfl ?_
              refine r_iload_n (pc := 101) d_Md_plait_101 (x := p0) rfl ?_
              refine r_callV (pc := 102) (k := a) (As := [.int p0]) (rest := [.ref a]) (mc' := 0) (ms' := 0) lk_Md_346 in_Md_holdsOf se_Md_holdsOf sa rfl d_Md_plait_102 k_Md_holdsOf rfl rfl (Nat.le_of_ble_eq_true rfl) (by decide) (by decide) (Sp.mono h ?_)
              rintro rS32 shS32 S32 ⟨qS32, x33, uS32, h⟩
              subst uS32
              rw [qS32]
              refine r_callV (pc := 105) (k := a) (As := [.int x33]) (rest := []) (mc' := 0) (ms' := 0) lk_Md_122 in_Md_gives se_Md_gives sa rfl d_Md_plait_105 k_Md_gives rfl rfl (Nat.le_of_ble_eq_true rfl) (by decide) (by decide) (Sp.mono h ?_)
              rintro rS34 shS34 S34 ⟨qS34, x35, uS34, h⟩
              subst uS34
              rw [qS34]
              exact r_ireturn (pc := 108) d_Md_plait_108 rfl rfl (Nat.le_refl _) ⟨rfl, _, rfl, h⟩
        · replace h := h.2 c12
          refine r_aload_n (pc := 30) d_Md_plait_30 (x := a) rfl ?_
          refine r_bipush (pc := 31) d_Md_plait_31 (v := 6) (by decide) ?_
          refine r_callV (pc := 33) (k := a) (As := [.int 6]) (rest := []) (mc' := 0) (ms' := 0) lk_Md_118 in_Md_refuse se_Md_refuse sa rfl d_Md_plait_33 k_Md_refuse rfl rfl (Nat.le_of_ble_eq_true rfl) (by decide) (by decide) (Sp.mono h ?_)
          rintro rS37 shS37 S37 ⟨qS37, x38, uS37, h⟩
          subst uS37
          rw [qS37]
          exact r_ireturn (pc := 36) d_Md_plait_36 rfl rfl (Nat.le_refl _) ⟨rfl, _, rfl, h⟩
    · replace h := h.2 c4
      refine r_aload_n (pc := 10) d_Md_plait_10 (x := a) rfl ?_
      refine r_iconst (pc := 11) d_Md_plait_11 (v := 1) (by decide) ?_
      refine r_callV (pc := 12) (k := a) (As := [.int 1]) (rest := []) (mc' := 0) (ms' := 0) lk_Md_118 in_Md_refuse se_Md_refuse sa rfl d_Md_plait_12 k_Md_refuse rfl rfl (Nat.le_of_ble_eq_true rfl) (by decide) (by decide) (Sp.mono h ?_)
      rintro rS39 shS39 S39 ⟨qS39, x40, uS39, h⟩
      subst uS39
      rw [qS39]
      exact r_ireturn (pc := 15) d_Md_plait_15 rfl rfl (Nat.le_refl _) ⟨rfl, _, rfl, h⟩
set_option maxRecDepth 4000 in
theorem e_Md_holdsOf {l : Launch} {d : Nat} {sh : aw_SH} {S : aw_S} {P : Int32 → aw_S → Prop} {a : Nat} {p0 : Int32} (sa : sh[a]? = some (0, 11)) (h : AW l m_Md_holdsOf (d + 1) 0 0 (gI sh P) 0 0 2 [.ref a, .int p0, .int 0] [] sh S) : Sp l m_Md_holdsOf (d + 1) 0 0 [.ref a, .int p0] sh S (gI sh P) := by
  refine Sp.of k_Md_holdsOf (ls := [.ref a, .int p0, .null]) rfl (Nat.le_of_ble_eq_true rfl) ?_
  refine r_iconst (pc := 0) d_Md_holdsOf_0 (v := 0) (by decide) ?_
  refine r_istore_n (pc := 1) (hk := rfl) (hd := d_Md_holdsOf_1) (hi := by decide) (ls2 := [.ref a, .int p0, .int 0]) (h2 := rfl) ?_
  exact h
set_option maxRecDepth 4000 in
theorem s_Md_holdsOf_2 {l : Launch} {d : Nat} {sh : aw_SH} {S : aw_S} {P : Int32 → aw_S → Prop} {a : Nat} {i1 : Int32} {i2 : Int32} (sa : sh[a]? = some (0, 11)) (h : ((40 ≤ i2 → Sp l m_Md_laysHeld d 0 0 [.ref a] sh S (gI sh (fun x3 S2 => P x3 S2))) ∧ (¬ 40 ≤ i2 → ∃ r4, S.2.2 a 25 = some r4 ∧ ((¬ i2 = i1 → ∃ n7, sh[r4]? = some (2, n7) ∧ vp_in i2 n7 ∧ AW l m_Md_holdsOf (d + 1) 0 0 (gI sh P) 0 0 2 [.ref a, .int i1, .int (i2 + 1)] [] sh (aw_uI S r4 i2.toNatClampNeg (vp_nar .boolean 0))) ∧ (i2 = i1 → ∃ n10, sh[r4]? = some (2, n10) ∧ vp_in i2 n10 ∧ AW l m_Md_holdsOf (d + 1) 0 0 (gI sh P) 0 0 2 [.ref a, .int i1, .int (i2 + 1)] [] sh (aw_uI S r4 i2.toNatClampNeg (vp_nar .boolean 1))))))) : AW l m_Md_holdsOf (d + 1) 0 0 (gI sh P) 0 0 2 [.ref a, .int i1, .int i2] [] sh S := by
  refine r_iload_n (pc := 2) d_Md_holdsOf_2 (x := i2) rfl ?_
  refine r_bipush (pc := 3) d_Md_holdsOf_3 (v := 40) (by decide) ?_
  refine r_icmp_ge (pc := 5) d_Md_holdsOf_5 (tgt := 30) (by decide) (fun c1 => ?_) (fun c1 => ?_)
  · replace h := h.1 c1
    refine r_aload_n (pc := 30) d_Md_holdsOf_30 (x := a) rfl ?_
    refine r_callV (pc := 31) (k := a) (As := []) (rest := []) (mc' := 0) (ms' := 0) lk_Md_343 in_Md_laysHeld se_Md_laysHeld sa rfl d_Md_holdsOf_31 k_Md_laysHeld rfl rfl (Nat.le_of_ble_eq_true rfl) (by decide) (by decide) (Sp.mono h ?_)
    rintro rS2 shS2 S2 ⟨qS2, x3, uS2, h⟩
    subst uS2
    rw [qS2]
    exact r_ireturn (pc := 34) d_Md_holdsOf_34 rfl rfl (Nat.le_refl _) ⟨rfl, _, rfl, h⟩
  · replace h := h.2 c1
    refine r_aload_n (pc := 8) d_Md_holdsOf_8 (x := a) rfl ?_
    obtain ⟨r4, er4, h⟩ := h
    refine r_getR (pc := 9) d_Md_holdsOf_9 f_Md_50 sa (Or.inr ⟨_, rfl⟩) (r := r4) er4 ?_
    refine r_iload_n (pc := 12) d_Md_holdsOf_12 (x := i2) rfl ?_
    refine r_iload_n (pc := 13) d_Md_holdsOf_13 (x := i2) rfl ?_
    refine r_iload_n (pc := 14) d_Md_holdsOf_14 (x := i1) rfl ?_
    refine r_icmp_ne (pc := 15) d_Md_holdsOf_15 (tgt := 22) (by decide) (fun c5 => ?_) (fun c5 => ?_)
    · replace h := h.1 c5
      refine r_iconst (pc := 22) d_Md_holdsOf_22 (v := 0) (by decide) ?_
      obtain ⟨n7, s6, h⟩ := h
      obtain ⟨g8, h⟩ := h
      refine r_zast (pc := 23) d_Md_holdsOf_23 s6 g8 ?_
      refine r_iinc (pc := 24) d_Md_holdsOf_24 (hi := by decide) (x := i2) rfl (v := i2 + 1) rfl (ls2 := [.ref a, .int i1, .int (i2 + 1)]) rfl ?_
      refine r_goto (pc := 27) d_Md_holdsOf_27 (tgt := 2) (by decide) ?_
      exact h
    · replace h := h.2 c5
      refine r_iconst (pc := 18) d_Md_holdsOf_18 (v := 1) (by decide) ?_
      refine r_goto (pc := 19) d_Md_holdsOf_19 (tgt := 23) (by decide) ?_
      obtain ⟨n10, s9, h⟩ := h
      obtain ⟨g11, h⟩ := h
      refine r_zast (pc := 23) d_Md_holdsOf_23 s9 g11 ?_
      refine r_iinc (pc := 24) d_Md_holdsOf_24 (hi := by decide) (x := i2) rfl (v := i2 + 1) rfl (ls2 := [.ref a, .int i1, .int (i2 + 1)]) rfl ?_
      refine r_goto (pc := 27) d_Md_holdsOf_27 (tgt := 2) (by decide) ?_
      exact h
set_option maxRecDepth 4000 in
theorem e_Md_laysHeld {l : Launch} {d : Nat} {sh : aw_SH} {S : aw_S} {P : Int32 → aw_S → Prop} {a : Nat} (sa : sh[a]? = some (0, 11)) (h : AW l m_Md_laysHeld (d + 1) 0 0 (gI sh P) 0 0 4 [.ref a, .int 0, .int 0, .null] [] sh S) : Sp l m_Md_laysHeld (d + 1) 0 0 [.ref a] sh S (gI sh P) := by
  refine Sp.of k_Md_laysHeld (ls := [.ref a, .null, .null, .null]) rfl (Nat.le_of_ble_eq_true rfl) ?_
  refine r_iconst (pc := 0) d_Md_laysHeld_0 (v := 0) (by decide) ?_
  refine r_istore_n (pc := 1) (hk := rfl) (hd := d_Md_laysHeld_1) (hi := by decide) (ls2 := [.ref a, .int 0, .null, .null]) (h2 := rfl) ?_
  refine r_iconst (pc := 2) d_Md_laysHeld_2 (v := 0) (by decide) ?_
  refine r_istore_n (pc := 3) (hk := rfl) (hd := d_Md_laysHeld_3) (hi := by decide) (ls2 := [.ref a, .int 0, .int 0, .null]) (h2 := rfl) ?_
  exact h
set_option maxRecDepth 4000 in
theorem s_Md_laysHeld_4 {l : Launch} {d : Nat} {sh : aw_SH} {S : aw_S} {P : Int32 → aw_S → Prop} {a : Nat} {i1 : Int32} {i2 : Int32} (sa : sh[a]? = some (0, 11)) (h : ∃ r1, S.2.2 a 0 = some r1 ∧ ∃ n3, sh[r1]? = some (3, n3) ∧ vp_in 3 n3 ∧ (((S.1 r1 (3 : Int32).toNatClampNeg) ≤ i2 → P i1 S) ∧ (¬ (S.1 r1 (3 : Int32).toNatClampNeg) ≤ i2 → AW l m_Md_laysHeld (d + 1) 0 0 (gI sh P) 0 0 16 [.ref a, .int i1, .int i2, .int 0] [] sh S))) : AW l m_Md_laysHeld (d + 1) 0 0 (gI sh P) 0 0 4 [.ref a, .int i1, .int i2, .null] [] sh S := by
  refine r_iload_n (pc := 4) d_Md_laysHeld_4 (x := i2) rfl ?_
  refine r_aload_n (pc := 5) d_Md_laysHeld_5 (x := a) rfl ?_
  obtain ⟨r1, er1, h⟩ := h
  refine r_getR (pc := 6) d_Md_laysHeld_6 f_Md_7 sa (Or.inr ⟨_, rfl⟩) (r := r1) er1 ?_
  refine r_iconst (pc := 9) d_Md_laysHeld_9 (v := 3) (by decide) ?_
  obtain ⟨n3, s2, h⟩ := h
  obtain ⟨g4, h⟩ := h
  refine r_iald (pc := 10) d_Md_laysHeld_10 s2 g4 ?_
  refine r_icmp_ge (pc := 11) d_Md_laysHeld_11 (tgt := 99) (by decide) (fun c5 => ?_) (fun c5 => ?_)
  · replace h := h.1 c5
    refine r_iload_n (pc := 99) d_Md_laysHeld_99 (x := i1) rfl ?_
    exact r_ireturn (pc := 100) d_Md_laysHeld_100 rfl rfl (Nat.le_refl _) ⟨rfl, _, rfl, h⟩
  · replace h := h.2 c5
    refine r_iconst (pc := 14) d_Md_laysHeld_14 (v := 0) (by decide) ?_
    refine r_istore_n (pc := 15) (hk := rfl) (hd := d_Md_laysHeld_15) (hi := by decide) (ls2 := [.ref a, .int i1, .int i2, .int 0]) (h2 := rfl) ?_
    exact h
set_option maxRecDepth 4000 in
theorem s_Md_laysHeld_16 {l : Launch} {d : Nat} {sh : aw_SH} {S : aw_S} {P : Int32 → aw_S → Prop} {a : Nat} {i1 : Int32} {i2 : Int32} {i3 : Int32} (sa : sh[a]? = some (0, 11)) (h : ((i2 ≤ i3 → ∃ r2, S.2.2 a 25 = some r2 ∧ ∃ n4, sh[r2]? = some (2, n4) ∧ vp_in i2 n4 ∧ (((S.1 r2 i2.toNatClampNeg) = 0 → AW l m_Md_laysHeld (d + 1) 0 0 (gI sh P) 0 0 4 [.ref a, .int (i1 + (0 : Int32)), .int (i2 + 1), .null] [] sh S) ∧ (¬ (S.1 r2 i2.toNatClampNeg) = 0 → AW l m_Md_laysHeld (d + 1) 0 0 (gI sh P) 0 0 4 [.ref a, .int (i1 + (1 : Int32)), .int (i2 + 1), .null] [] sh S))) ∧ (¬ i2 ≤ i3 → ∃ r7, S.2.2 a 25 = some r7 ∧ ∃ n9, sh[r7]? = some (2, n9) ∧ vp_in i2 n9 ∧ ((¬ (S.1 r7 i2.toNatClampNeg) = 0 → vp_in i2 n9 ∧ (((S.1 r7 i2.toNatClampNeg) = 0 → AW l m_Md_laysHeld (d + 1) 0 0 (gI sh P) 0 0 4 [.ref a, .int (i1 + (0 : Int32)), .int (i2 + 1), .null] [] sh S) ∧ (¬ (S.1 r7 i2.toNatClampNeg) = 0 → AW l m_Md_laysHeld (d + 1) 0 0 (gI sh P) 0 0 4 [.ref a, .int (i1 + (1 : Int32)), .int (i2 + 1), .null] [] sh S))) ∧ ((S.1 r7 i2.toNatClampNeg) = 0 → vp_in i3 n9 ∧ (((S.1 r7 i3.toNatClampNeg) = 0 → vp_in i2 n9 ∧ AW l m_Md_laysHeld (d + 1) 0 0 (gI sh P) 0 0 16 [.ref a, .int i1, .int i2, .int (i3 + 1)] [] sh (aw_uI S r7 i2.toNatClampNeg (vp_nar .boolean 0))) ∧ (¬ (S.1 r7 i3.toNatClampNeg) = 0 → Sp l m_Md_passOf d 0 0 [.ref a, .int i3, .int 0] sh S (gI sh (fun x18 S17 => Sp l m_Md_passOf d 0 0 [.ref a, .int i2, .int 0] sh S17 (gI sh (fun x20 S19 => Sp l m_Md_isTouching d 0 0 [.ref a, .int 0, .int x18, .int x20] sh S19 (gI sh (fun x22 S21 => ((x22 = 0 → vp_in i2 n9 ∧ AW l m_Md_laysHeld (d + 1) 0 0 (gI sh P) 0 0 16 [.ref a, .int i1, .int i2, .int (i3 + 1)] [] sh (aw_uI S21 r7 i2.toNatClampNeg (vp_nar .boolean 0))) ∧ (¬ x22 = 0 → vp_in i2 n9 ∧ AW l m_Md_laysHeld (d + 1) 0 0 (gI sh P) 0 0 16 [.ref a, .int i1, .int i2, .int (i3 + 1)] [] sh (aw_uI S21 r7 i2.toNatClampNeg (vp_nar .boolean 1))))))))))))))))) : AW l m_Md_laysHeld (d + 1) 0 0 (gI sh P) 0 0 16 [.ref a, .int i1, .int i2, .int i3] [] sh S := by
  refine r_iload_n (pc := 16) d_Md_laysHeld_16 (x := i3) rfl ?_
  refine r_iload_n (pc := 17) d_Md_laysHeld_17 (x := i2) rfl ?_
  refine r_icmp_ge (pc := 18) d_Md_laysHeld_18 (tgt := 76) (by decide) (fun c1 => ?_) (fun c1 => ?_)
  · replace h := h.1 c1
    refine r_iload_n (pc := 76) d_Md_laysHeld_76 (x := i1) rfl ?_
    refine r_aload_n (pc := 77) d_Md_laysHeld_77 (x := a) rfl ?_
    obtain ⟨r2, er2, h⟩ := h
    refine r_getR (pc := 78) d_Md_laysHeld_78 f_Md_50 sa (Or.inr ⟨_, rfl⟩) (r := r2) er2 ?_
    refine r_iload_n (pc := 81) d_Md_laysHeld_81 (x := i2) rfl ?_
    obtain ⟨n4, s3, h⟩ := h
    obtain ⟨g5, h⟩ := h
    refine r_zald (pc := 82) d_Md_laysHeld_82 s3 g5 ?_
    refine r_if_eq (pc := 83) d_Md_laysHeld_83 (tgt := 90) (by decide) (fun c6 => ?_) (fun c6 => ?_)
    · replace h := h.1 c6
      refine r_iconst (pc := 90) d_Md_laysHeld_90 (v := 0) (by decide) ?_
      refine r_iadd (pc := 91) d_Md_laysHeld_91 ?_
      refine r_istore_n (pc := 92) (hk := rfl) (hd := d_Md_laysHeld_92) (hi := by decide) (ls2 := [.ref a, .int (i1 + (0 : Int32)), .int i2, .int i3]) (h2 := rfl) ?_
      refine r_iinc (pc := 93) d_Md_laysHeld_93 (hi := by decide) (x := i2) rfl (v := i2 + 1) rfl (ls2 := [.ref a, .int (i1 + (0 : Int32)), .int (i2 + 1), .int i3]) rfl ?_
      refine r_goto (pc := 96) d_Md_laysHeld_96 (tgt := 4) (by decide) ?_
      exact r_weak (ls2 := [.ref a, .int (i1 + (0 : Int32)), .int (i2 + 1), .null]) ⟨Or.inr rfl, Or.inr rfl, Or.inr rfl, Or.inl rfl, trivial⟩ h
    · replace h := h.2 c6
      refine r_iconst (pc := 86) d_Md_laysHeld_86 (v := 1) (by decide) ?_
      refine r_goto (pc := 87) d_Md_laysHeld_87 (tgt := 91) (by decide) ?_
      refine r_iadd (pc := 91) d_Md_laysHeld_91 ?_
      refine r_istore_n (pc := 92) (hk := rfl) (hd := d_Md_laysHeld_92) (hi := by decide) (ls2 := [.ref a, .int (i1 + (1 : Int32)), .int i2, .int i3]) (h2 := rfl) ?_
      refine r_iinc (pc := 93) d_Md_laysHeld_93 (hi := by decide) (x := i2) rfl (v := i2 + 1) rfl (ls2 := [.ref a, .int (i1 + (1 : Int32)), .int (i2 + 1), .int i3]) rfl ?_
      refine r_goto (pc := 96) d_Md_laysHeld_96 (tgt := 4) (by decide) ?_
      exact r_weak (ls2 := [.ref a, .int (i1 + (1 : Int32)), .int (i2 + 1), .null]) ⟨Or.inr rfl, Or.inr rfl, Or.inr rfl, Or.inl rfl, trivial⟩ h
  · replace h := h.2 c1
    refine r_aload_n (pc := 21) d_Md_laysHeld_21 (x := a) rfl ?_
    obtain ⟨r7, er7, h⟩ := h
    refine r_getR (pc := 22) d_Md_laysHeld_22 f_Md_50 sa (Or.inr ⟨_, rfl⟩) (r := r7) er7 ?_
    refine r_iload_n (pc := 25) d_Md_laysHeld_25 (x := i2) rfl ?_
    obtain ⟨n9, s8, h⟩ := h
    obtain ⟨g10, h⟩ := h
    refine r_zald (pc := 26) d_Md_laysHeld_26 s8 g10 ?_
    refine r_if_ne (pc := 27) d_Md_laysHeld_27 (tgt := 76) (by decide) (fun c11 => ?_) (fun c11 => ?_)
    · replace h := h.1 c11
      refine r_iload_n (pc := 76) d_Md_laysHeld_76 (x := i1) rfl ?_
      refine r_aload_n (pc := 77) d_Md_laysHeld_77 (x := a) rfl ?_
      refine r_getR (pc := 78) d_Md_laysHeld_78 f_Md_50 sa (Or.inr ⟨_, rfl⟩) (r := r7) er7 ?_
      refine r_iload_n (pc := 81) d_Md_laysHeld_81 (x := i2) rfl ?_
      obtain ⟨g12, h⟩ := h
      refine r_zald (pc := 82) d_Md_laysHeld_82 s8 g12 ?_
      refine r_if_eq (pc := 83) d_Md_laysHeld_83 (tgt := 90) (by decide) (fun c13 => ?_) (fun c13 => ?_)
      · replace h := h.1 c13
        refine r_iconst (pc := 90) d_Md_laysHeld_90 (v := 0) (by decide) ?_
        refine r_iadd (pc := 91) d_Md_laysHeld_91 ?_
        refine r_istore_n (pc := 92) (hk := rfl) (hd := d_Md_laysHeld_92) (hi := by decide) (ls2 := [.ref a, .int (i1 + (0 : Int32)), .int i2, .int i3]) (h2 := rfl) ?_
        refine r_iinc (pc := 93) d_Md_laysHeld_93 (hi := by decide) (x := i2) rfl (v := i2 + 1) rfl (ls2 := [.ref a, .int (i1 + (0 : Int32)), .int (i2 + 1), .int i3]) rfl ?_
        refine r_goto (pc := 96) d_Md_laysHeld_96 (tgt := 4) (by decide) ?_
        exact r_weak (ls2 := [.ref a, .int (i1 + (0 : Int32)), .int (i2 + 1), .null]) ⟨Or.inr rfl, Or.inr rfl, Or.inr rfl, Or.inl rfl, trivial⟩ h
      · replace h := h.2 c13
        refine r_iconst (pc := 86) d_Md_laysHeld_86 (v := 1) (by decide) ?_
        refine r_goto (pc := 87) d_Md_laysHeld_87 (tgt := 91) (by decide) ?_
        refine r_iadd (pc := 91) d_Md_laysHeld_91 ?_
        refine r_istore_n (pc := 92) (hk := rfl) (hd := d_Md_laysHeld_92) (hi := by decide) (ls2 := [.ref a, .int (i1 + (1 : Int32)), .int i2, .int i3]) (h2 := rfl) ?_
        refine r_iinc (pc := 93) d_Md_laysHeld_93 (hi := by decide) (x := i2) rfl (v := i2 + 1) rfl (ls2 := [.ref a, .int (i1 + (1 : Int32)), .int (i2 + 1), .int i3]) rfl ?_
        refine r_goto (pc := 96) d_Md_laysHeld_96 (tgt := 4) (by decide) ?_
        exact r_weak (ls2 := [.ref a, .int (i1 + (1 : Int32)), .int (i2 + 1), .null]) ⟨Or.inr rfl, Or.inr rfl, Or.inr rfl, Or.inl rfl, trivial⟩ h
    · replace h := h.2 c11
      refine r_aload_n (pc := 30) d_Md_laysHeld_30 (x := a) rfl ?_
      refine r_getR (pc := 31) d_Md_laysHeld_31 f_Md_50 sa (Or.inr ⟨_, rfl⟩) (r := r7) er7 ?_
      refine r_iload_n (pc := 34) d_Md_laysHeld_34 (x := i2) rfl ?_
      refine r_aload_n (pc := 35) d_Md_laysHeld_35 (x := a) rfl ?_
      refine r_getR (pc := 36) d_Md_laysHeld_36 f_Md_50 sa (Or.inr ⟨_, rfl⟩) (r := r7) er7 ?_
      refine r_iload_n (pc := 39) d_Md_laysHeld_39 (x := i3) rfl ?_
      obtain ⟨g14, h⟩ := h
      refine r_zald (pc := 40) d_Md_laysHeld_40 s8 g14 ?_
      refine r_if_eq (pc := 41) d_Md_laysHeld_41 (tgt := 68) (by decide) (fun c15 => ?_) (fun c15 => ?_)
      · replace h := h.1 c15
        refine r_iconst (pc := 68) d_Md_laysHeld_68 (v := 0) (by decide) ?_
        obtain ⟨g16, h⟩ := h
        refine r_zast (pc := 69) d_Md_laysHeld_69 s8 g16 ?_
        refine r_iinc (pc := 70) d_Md_laysHeld_70 (hi := by decide) (x := i3) rfl (v := i3 + 1) rfl (ls2 := [.ref a, .int i1, .int i2, .int (i3 + 1)]) rfl ?_
        refine r_goto (pc := 73) d_Md_laysHeld_73 (tgt := 16) (by decide) ?_
        exact h
      · replace h := h.2 c15
        refine r_aload_n (pc := 44) d_Md_laysHeld_44 (x := a) rfl ?_
        refine r_iconst (pc := 45) d_Md_laysHeld_45 (v := 0) (by decide) ?_
        refine r_aload_n (pc := 46) d_Md_laysHeld_46 (x := a) rfl ?_
        refine r_iload_n (pc := 47) d_Md_laysHeld_47 (x := i3) rfl ?_
        refine r_iconst (pc := 48) d_Md_laysHeld_48 (v := 0) (by decide) ?_
        refine r_callV (pc := 49) (k := a) (As := [.int i3, .int 0]) (rest := [.int 0, .ref a, .int i2, .ref r7]) (mc' := 0) (ms' := 0) lk_Md_316 in_Md_passOf se_Md_passOf sa rfl d_Md_laysHeld_49 k_Md_passOf rfl rfl (Nat.le_of_ble_eq_true rfl) (by decide) (by decide) (Sp.mono h ?_)
        rintro rS17 shS17 S17 ⟨qS17, x18, uS17, h⟩
        subst uS17
        rw [qS17]
        refine r_aload_n (pc := 52) d_Md_laysHeld_52 (x := a) rfl ?_
        refine r_iload_n (pc := 53) d_Md_laysHeld_53 (x := i2) rfl ?_
        refine r_iconst (pc := 54) d_Md_laysHeld_54 (v := 0) (by decide) ?_
        refine r_callV (pc := 55) (k := a) (As := [.int i2, .int 0]) (rest := [.int x18, .int 0, .ref a, .int i2, .ref r7]) (mc' := 0) (ms' := 0) lk_Md_316 in_Md_passOf se_Md_passOf sa rfl d_Md_laysHeld_55 k_Md_passOf rfl rfl (Nat.le_of_ble_eq_true rfl) (by decide) (by decide) (Sp.mono h ?_)
        rintro rS19 shS19 S19 ⟨qS19, x20, uS19, h⟩
        subst uS19
        rw [qS19]
        refine r_callV (pc := 58) (k := a) (As := [.int 0, .int x18, .int x20]) (rest := [.int i2, .ref r7]) (mc' := 0) (ms' := 0) lk_Md_217 in_Md_isTouching se_Md_isTouching sa rfl d_Md_laysHeld_58 k_Md_isTouching rfl rfl (Nat.le_of_ble_eq_true rfl) (by decide) (by decide) (Sp.mono h ?_)
        rintro rS21 shS21 S21 ⟨qS21, x22, uS21, h⟩
        subst uS21
        rw [qS21]
        refine r_if_eq (pc := 61) d_Md_laysHeld_61 (tgt := 68) (by decide) (fun c23 => ?_) (fun c23 => ?_)
        · replace h := h.1 c23
          refine r_iconst (pc := 68) d_Md_laysHeld_68 (v := 0) (by decide) ?_
          obtain ⟨g24, h⟩ := h
          refine r_zast (pc := 69) d_Md_laysHeld_69 s8 g24 ?_
          refine r_iinc (pc := 70) d_Md_laysHeld_70 (hi := by decide) (x := i3) rfl (v := i3 + 1) rfl (ls2 := [.ref a, .int i1, .int i2, .int (i3 + 1)]) rfl ?_
          refine r_goto (pc := 73) d_Md_laysHeld_73 (tgt := 16) (by decide) ?_
          exact h
        · replace h := h.2 c23
          refine r_iconst (pc := 64) d_Md_laysHeld_64 (v := 1) (by decide) ?_
          refine r_goto (pc := 65) d_Md_laysHeld_65 (tgt := 69) (by decide) ?_
          obtain ⟨g25, h⟩ := h
          refine r_zast (pc := 69) d_Md_laysHeld_69 s8 g25 ?_
          refine r_iinc (pc := 70) d_Md_laysHeld_70 (hi := by decide) (x := i3) rfl (v := i3 + 1) rfl (ls2 := [.ref a, .int i1, .int i2, .int (i3 + 1)]) rfl ?_
          refine r_goto (pc := 73) d_Md_laysHeld_73 (tgt := 16) (by decide) ?_
          exact h
set_option maxRecDepth 4000 in
theorem e_Md_shows {l : Launch} {d : Nat} {sh : aw_SH} {S : aw_S} {P : Int32 → aw_S → Prop} {a : Nat} {p0 : Int32} (sa : sh[a]? = some (0, 11)) (h : Sp l m_Md_isGap d 0 0 [.ref a, .int p0] sh S (gI sh (fun x2 S1 => ((¬ x2 = 0 → Sp l m_Md_showsOf d 0 0 [.ref a, .int p0] sh S1 (gI sh (fun x5 S4 => ((¬ x5 = 6 → Sp l m_Md_showsOf d 0 0 [.ref a, .int p0] sh S4 (gI sh (fun x8 S7 => Sp l m_Md_gives d 0 0 [.ref a, .int x8] sh S7 (gI sh (fun x10 S9 => P x10 S9))))) ∧ (x5 = 6 → Sp l m_Md_refuse d 0 0 [.ref a, .int 6] sh S4 (gI sh (fun x12 S11 => P x12 S11))))))) ∧ (x2 = 0 → Sp l m_Md_refuse d 0 0 [.ref a, .int 1] sh S1 (gI sh (fun x14 S13 => P x14 S13))))))) : Sp l m_Md_shows (d + 1) 0 0 [.ref a, .int p0] sh S (gI sh P) := by
  refine Sp.of k_Md_shows (ls := [.ref a, .int p0]) rfl (Nat.le_of_ble_eq_true rfl) ?_
  refine r_aload_n (pc := 0) d_Md_shows_0 (x := a) rfl ?_
  refine r_iload_n (pc := 1) d_Md_shows_1 (x := p0) rfl ?_
  refine r_callV (pc := 2) (k := a) (As := [.int p0]) (rest := []) (mc' := 0) (ms' := 0) lk_Md_349 in_Md_isGap se_Md_isGap sa rfl d_Md_shows_2 k_Md_isGap rfl rfl (Nat.le_of_ble_eq_true rfl) (by decide) (by decide) (Sp.mono h ?_)
  rintro rS1 shS1 S1 ⟨qS1, x2, uS1, h⟩
  subst uS1
  rw [qS1]
  refine r_if_ne (pc := 5) d_Md_shows_5 (tgt := 14) (by decide) (fun c3 => ?_) (fun c3 => ?_)
  · replace h := h.1 c3
    refine r_aload_n (pc := 14) d_Md_shows_14 (x := a) rfl ?_
    refine r_iload_n (pc := 15) d_Md_shows_15 (x := p0) rfl ?_
    refine r_callV (pc := 16) (k := a) (As := [.int p0]) (rest := []) (mc' := 0) (ms' := 0) lk_Md_319 in_Md_showsOf se_Md_showsOf sa rfl d_Md_shows_16 k_Md_showsOf rfl rfl (Nat.le_of_ble_eq_true rfl) (by decide) (by decide) (Sp.mono h ?_)
    rintro rS4 shS4 S4 ⟨qS4, x5, uS4, h⟩
    subst uS4
    rw [qS4]
    refine r_bipush (pc := 19) d_Md_shows_19 (v := 6) (by decide) ?_
    refine r_icmp_ne (pc := 21) d_Md_shows_21 (tgt := 33) (by decide) (fun c6 => ?_) (fun c6 => ?_)
    · replace h := h.1 c6
      refine r_aload_n (pc := 33) d_Md_shows_33 (x := a) rfl ?_
      refine r_aload_n (pc := 34) d_Md_shows_34 (x := a) rfl ?_
      refine r_iload_n (pc := 35) d_Md_shows_35 (x := p0) rfl ?_
      refine r_callV (pc := 36) (k := a) (As := [.int p0]) (rest := [.ref a]) (mc' := 0) (ms' := 0) lk_Md_319 in_Md_showsOf se_Md_showsOf sa rfl d_Md_shows_36 k_Md_showsOf rfl rfl (Nat.le_of_ble_eq_true rfl) (by decide) (by decide) (Sp.mono h ?_)
      rintro rS7 shS7 S7 ⟨qS7, x8, uS7, h⟩
      subst uS7
      rw [qS7]
      refine r_callV (pc := 39) (k := a) (As := [.int x8]) (rest := []) (mc' := 0) (ms' := 0) lk_Md_122 in_Md_gives se_Md_gives sa rfl d_Md_shows_39 k_Md_gives rfl rfl (Nat.le_of_ble_eq_true rfl) (by decide) (by decide) (Sp.mono h ?_)
      rintro rS9 shS9 S9 ⟨qS9, x10, uS9, h⟩
      subst uS9
      rw [qS9]
      exact r_ireturn (pc := 42) d_Md_shows_42 rfl rfl (Nat.le_refl _) ⟨rfl, _, rfl, h⟩
    · replace h := h.2 c6
      refine r_aload_n (pc := 24) d_Md_shows_24 (x := a) rfl ?_
      refine r_bipush (pc := 25) d_Md_shows_25 (v := 6) (by decide) ?_
      refine r_callV (pc := 27) (k := a) (As := [.int 6]) (rest := []) (mc' := 0) (ms' := 0) lk_Md_118 in_Md_refuse se_Md_refuse sa rfl d_Md_shows_27 k_Md_refuse rfl rfl (Nat.le_of_ble_eq_true rfl) (by decide) (by decide) (Sp.mono h ?_)
      rintro rS11 shS11 S11 ⟨qS11, x12, uS11, h⟩
      subst uS11
      rw [qS11]
      refine r_goto (pc := 30) d_Md_shows_30 (tgt := 42) (by decide) ?_
      exact r_ireturn (pc := 42) d_Md_shows_42 rfl rfl (Nat.le_refl _) ⟨rfl, _, rfl, h⟩
  · replace h := h.2 c3
    refine r_aload_n (pc := 8) d_Md_shows_8 (x := a) rfl ?_
    refine r_iconst (pc := 9) d_Md_shows_9 (v := 1) (by decide) ?_
    refine r_callV (pc := 10) (k := a) (As := [.int 1]) (rest := []) (mc' := 0) (ms' := 0) lk_Md_118 in_Md_refuse se_Md_refuse sa rfl d_Md_shows_10 k_Md_refuse rfl rfl (Nat.le_of_ble_eq_true rfl) (by decide) (by decide) (Sp.mono h ?_)
    rintro rS13 shS13 S13 ⟨qS13, x14, uS13, h⟩
    subst uS13
    rw [qS13]
    exact r_ireturn (pc := 13) d_Md_shows_13 rfl rfl (Nat.le_refl _) ⟨rfl, _, rfl, h⟩
set_option maxRecDepth 4000 in
theorem e_Md_isGap {l : Launch} {d : Nat} {sh : aw_SH} {S : aw_S} {P : Int32 → aw_S → Prop} {a : Nat} {p0 : Int32} (sa : sh[a]? = some (0, 11)) (h : ((p0 < 0 → P 0 S) ∧ (¬ p0 < 0 → Sp l m_Md_gapsOf d 0 0 [.ref a, .int 0] sh S (gI sh (fun x3 S2 => ((x3 ≤ p0 → P 0 S2) ∧ (¬ x3 ≤ p0 → P 1 S2))))))) : Sp l m_Md_isGap (d + 1) 0 0 [.ref a, .int p0] sh S (gI sh P) := by
  refine Sp.of k_Md_isGap (ls := [.ref a, .int p0]) rfl (Nat.le_of_ble_eq_true rfl) ?_
  refine r_iload_n (pc := 0) d_Md_isGap_0 (x := p0) rfl ?_
  refine r_if_lt (pc := 1) d_Md_isGap_1 (tgt := 17) (by decide) (fun c1 => ?_) (fun c1 => ?_)
  · replace h := h.1 c1
    refine r_iconst (pc := 17) d_Md_isGap_17 (v := 0) (by decide) ?_
    exact r_zreturn (pc := 18) d_Md_isGap_18 (v := 0) rfl (by decide) rfl (Nat.le_refl _) ⟨rfl, _, rfl, h⟩
  · replace h := h.2 c1
    refine r_iload_n (pc := 4) d_Md_isGap_4 (x := p0) rfl ?_
    refine r_aload_n (pc := 5) d_Md_isGap_5 (x := a) rfl ?_
    refine r_iconst (pc := 6) d_Md_isGap_6 (v := 0) (by decide) ?_
    refine r_callV (pc := 7) (k := a) (As := [.int 0]) (rest := [.int p0]) (mc' := 0) (ms' := 0) lk_Md_260 in_Md_gapsOf se_Md_gapsOf sa rfl d_Md_isGap_7 k_Md_gapsOf rfl rfl (Nat.le_of_ble_eq_true rfl) (by decide) (by decide) (Sp.mono h ?_)
    rintro rS2 shS2 S2 ⟨qS2, x3, uS2, h⟩
    subst uS2
    rw [qS2]
    refine r_icmp_ge (pc := 10) d_Md_isGap_10 (tgt := 17) (by decide) (fun c4 => ?_) (fun c4 => ?_)
    · replace h := h.1 c4
      refine r_iconst (pc := 17) d_Md_isGap_17 (v := 0) (by decide) ?_
      exact r_zreturn (pc := 18) d_Md_isGap_18 (v := 0) rfl (by decide) rfl (Nat.le_refl _) ⟨rfl, _, rfl, h⟩
    · replace h := h.2 c4
      refine r_iconst (pc := 13) d_Md_isGap_13 (v := 1) (by decide) ?_
      refine r_goto (pc := 14) d_Md_isGap_14 (tgt := 18) (by decide) ?_
      exact r_zreturn (pc := 18) d_Md_isGap_18 (v := 1) rfl (by decide) rfl (Nat.le_refl _) ⟨rfl, _, rfl, h⟩
set_option maxRecDepth 4000 in
theorem e_Md_passes {l : Launch} {d : Nat} {sh : aw_SH} {S : aw_S} {P : Int32 → aw_S → Prop} {a : Nat} {p0 : Int32} (sa : sh[a]? = some (0, 11)) (h : Sp l m_Md_isGap d 0 0 [.ref a, .int p0] sh S (gI sh (fun x2 S1 => ((¬ x2 = 0 → AW l m_Md_passes (d + 1) 0 0 (gI sh P) 0 0 18 [.ref a, .int p0, .int 0, .int 0] [] sh S1) ∧ (x2 = 0 → Sp l m_Md_refuse d 0 0 [.ref a, .int 1] sh S1 (gI sh (fun x5 S4 => P x5 S4))))))) : Sp l m_Md_passes (d + 1) 0 0 [.ref a, .int p0] sh S (gI sh P) := by
  refine Sp.of k_Md_passes (ls := [.ref a, .int p0, .null, .null]) rfl (Nat.le_of_ble_eq_true rfl) ?_
  refine r_aload_n (pc := 0) d_Md_passes_0 (x := a) rfl ?_
  refine r_iload_n (pc := 1) d_Md_passes_1 (x := p0) rfl ?_
  refine r_callV (pc := 2) (k := a) (As := [.int p0]) (rest := []) (mc' := 0) (ms' := 0) lk_Md_349 in_Md_isGap se_Md_isGap sa rfl d_Md_passes_2 k_Md_isGap rfl rfl (Nat.le_of_ble_eq_true rfl) (by decide) (by decide) (Sp.mono h ?_)
  rintro rS1 shS1 S1 ⟨qS1, x2, uS1, h⟩
  subst uS1
  rw [qS1]
  refine r_if_ne (pc := 5) d_Md_passes_5 (tgt := 14) (by decide) (fun c3 => ?_) (fun c3 => ?_)
  · replace h := h.1 c3
    refine r_iconst (pc := 14) d_Md_passes_14 (v := 0) (by decide) ?_
    refine r_istore_n (pc := 15) (hk := rfl) (hd := d_Md_passes_15) (hi := by decide) (ls2 := [.ref a, .int p0, .int 0, .null]) (h2 := rfl) ?_
    refine r_iconst (pc := 16) d_Md_passes_16 (v := 0) (by decide) ?_
    refine r_istore_n (pc := 17) (hk := rfl) (hd := d_Md_passes_17) (hi := by decide) (ls2 := [.ref a, .int p0, .int 0, .int 0]) (h2 := rfl) ?_
    exact h
  · replace h := h.2 c3
    refine r_aload_n (pc := 8) d_Md_passes_8 (x := a) rfl ?_
    refine r_iconst (pc := 9) d_Md_passes_9 (v := 1) (by decide) ?_
    refine r_callV (pc := 10) (k := a) (As := [.int 1]) (rest := []) (mc' := 0) (ms' := 0) lk_Md_118 in_Md_refuse se_Md_refuse sa rfl d_Md_passes_10 k_Md_refuse rfl rfl (Nat.le_of_ble_eq_true rfl) (by decide) (by decide) (Sp.mono h ?_)
    rintro rS4 shS4 S4 ⟨qS4, x5, uS4, h⟩
    subst uS4
    rw [qS4]
    exact r_ireturn (pc := 13) d_Md_passes_13 rfl rfl (Nat.le_refl _) ⟨rfl, _, rfl, h⟩
set_option maxRecDepth 4000 in
theorem s_Md_passes_18 {l : Launch} {d : Nat} {sh : aw_SH} {S : aw_S} {P : Int32 → aw_S → Prop} {a : Nat} {i1 : Int32} {i2 : Int32} {i3 : Int32} (sa : sh[a]? = some (0, 11)) (h : ∃ r1, S.2.2 a 0 = some r1 ∧ ∃ n3, sh[r1]? = some (3, n3) ∧ vp_in 3 n3 ∧ (((S.1 r1 (3 : Int32).toNatClampNeg) ≤ i3 → Sp l m_Md_gives d 0 0 [.ref a, .int i2] sh S (gI sh (fun x7 S6 => P x7 S6))) ∧ (¬ (S.1 r1 (3 : Int32).toNatClampNeg) ≤ i3 → Sp l m_Md_passOf d 0 0 [.ref a, .int i3, .int 0] sh S (gI sh (fun x9 S8 => ((¬ x9 = i1 → AW l m_Md_passes (d + 1) 0 0 (gI sh P) 0 0 18 [.ref a, .int i1, .int (i2 + (0 : Int32)), .int (i3 + 1)] [] sh S8) ∧ (x9 = i1 → AW l m_Md_passes (d + 1) 0 0 (gI sh P) 0 0 18 [.ref a, .int i1, .int (i2 + (1 : Int32)), .int (i3 + 1)] [] sh S8))))))) : AW l m_Md_passes (d + 1) 0 0 (gI sh P) 0 0 18 [.ref a, .int i1, .int i2, .int i3] [] sh S := by
  refine r_iload_n (pc := 18) d_Md_passes_18 (x := i3) rfl ?_
  refine r_aload_n (pc := 19) d_Md_passes_19 (x := a) rfl ?_
  obtain ⟨r1, er1, h⟩ := h
  refine r_getR (pc := 20) d_Md_passes_20 f_Md_7 sa (Or.inr ⟨_, rfl⟩) (r := r1) er1 ?_
  refine r_iconst (pc := 23) d_Md_passes_23 (v := 3) (by decide) ?_
  obtain ⟨n3, s2, h⟩ := h
  obtain ⟨g4, h⟩ := h
  refine r_iald (pc := 24) d_Md_passes_24 s2 g4 ?_
  refine r_icmp_ge (pc := 25) d_Md_passes_25 (tgt := 52) (by decide) (fun c5 => ?_) (fun c5 => ?_)
  · replace h := h.1 c5
    refine r_aload_n (pc := 52) d_Md_passes_52 (x := a) rfl ?_
    refine r_iload_n (pc := 53) d_Md_passes_53 (x := i2) rfl ?_
    refine r_callV (pc := 54) (k := a) (As := [.int i2]) (rest := []) (mc' := 0) (ms' := 0) lk_Md_122 in_Md_gives se_Md_gives sa rfl d_Md_passes_54 k_Md_gives rfl rfl (Nat.le_of_ble_eq_true rfl) (by decide) (by decide) (Sp.mono h ?_)
    rintro rS6 shS6 S6 ⟨qS6, x7, uS6, h⟩
    subst uS6
    rw [qS6]
    exact r_ireturn (pc := 57) d_Md_passes_57 rfl rfl (Nat.le_refl _) ⟨rfl, _, rfl, h⟩
  · replace h := h.2 c5
    refine r_iload_n (pc := 28) d_Md_passes_28 (x := i2) rfl ?_
    refine r_aload_n (pc := 29) d_Md_passes_29 (x := a) rfl ?_
    refine r_iload_n (pc := 30) d_Md_passes_30 (x := i3) rfl ?_
    refine r_iconst (pc := 31) d_Md_passes_31 (v := 0) (by decide) ?_
    refine r_callV (pc := 32) (k := a) (As := [.int i3, .int 0]) (rest := [.int i2]) (mc' := 0) (ms' := 0) lk_Md_316 in_Md_passOf se_Md_passOf sa rfl d_Md_passes_32 k_Md_passOf rfl rfl (Nat.le_of_ble_eq_true rfl) (by decide) (by decide) (Sp.mono h ?_)
    rintro rS8 shS8 S8 ⟨qS8, x9, uS8, h⟩
    subst uS8
    rw [qS8]
    refine r_iload_n (pc := 35) d_Md_passes_35 (x := i1) rfl ?_
    refine r_icmp_ne (pc := 36) d_Md_passes_36 (tgt := 43) (by decide) (fun c10 => ?_) (fun c10 => ?_)
    · replace h := h.1 c10
      refine r_iconst (pc := 43) d_Md_passes_43 (v := 0) (by decide) ?_
      refine r_iadd (pc := 44) d_Md_passes_44 ?_
      refine r_istore_n (pc := 45) (hk := rfl) (hd := d_Md_passes_45) (hi := by decide) (ls2 := [.ref a, .int i1, .int (i2 + (0 : Int32)), .int i3]) (h2 := rfl) ?_
      refine r_iinc (pc := 46) d_Md_passes_46 (hi := by decide) (x := i3) rfl (v := i3 + 1) rfl (ls2 := [.ref a, .int i1, .int (i2 + (0 : Int32)), .int (i3 + 1)]) rfl ?_
      refine r_goto (pc := 49) d_Md_passes_49 (tgt := 18) (by decide) ?_
      exact h
    · replace h := h.2 c10
      refine r_iconst (pc := 39) d_Md_passes_39 (v := 1) (by decide) ?_
      refine r_goto (pc := 40) d_Md_passes_40 (tgt := 44) (by decide) ?_
      refine r_iadd (pc := 44) d_Md_passes_44 ?_
      refine r_istore_n (pc := 45) (hk := rfl) (hd := d_Md_passes_45) (hi := by decide) (ls2 := [.ref a, .int i1, .int (i2 + (1 : Int32)), .int i3]) (h2 := rfl) ?_
      refine r_iinc (pc := 46) d_Md_passes_46 (hi := by decide) (x := i3) rfl (v := i3 + 1) rfl (ls2 := [.ref a, .int i1, .int (i2 + (1 : Int32)), .int (i3 + 1)]) rfl ?_
      refine r_goto (pc := 49) d_Md_passes_49 (tgt := 18) (by decide) ?_
      exact h
set_option maxRecDepth 4000 in
theorem e_Md_pass {l : Launch} {d : Nat} {sh : aw_SH} {S : aw_S} {P : Int32 → aw_S → Prop} {a : Nat} {p0 : Int32} {p1 : Int32} (sa : sh[a]? = some (0, 11)) (h : Sp l m_Md_isGap d 0 0 [.ref a, .int p0] sh S (gI sh (fun x2 S1 => ((¬ x2 = 0 → ((p1 = 0 → Sp l m_Md_danced d 0 0 [.ref a, .int p0, .int 0] sh S1 (gI sh (fun x6 S5 => ((¬ x6 = 0 → ∃ r8, S5.2.2 a 0 = some r8 ∧ ∃ n10, sh[r8]? = some (3, n10) ∧ vp_in 3 n10 ∧ Sp l m_Md_gives d 0 0 [.ref a, .int (S5.1 r8 (3 : Int32).toNatClampNeg)] sh S5 (gI sh (fun x13 S12 => P x13 S12))) ∧ (x6 = 0 → Sp l m_Md_refuse d 0 0 [.ref a, .int 7] sh S5 (gI sh (fun x15 S14 => P x15 S14))))))) ∧ (¬ p1 = 0 → Sp l m_Md_danced d 0 0 [.ref a, .int p0, .int 1] sh S1 (gI sh (fun x17 S16 => ((¬ x17 = 0 → ∃ r19, S16.2.2 a 0 = some r19 ∧ ∃ n21, sh[r19]? = some (3, n21) ∧ vp_in 3 n21 ∧ Sp l m_Md_gives d 0 0 [.ref a, .int (S16.1 r19 (3 : Int32).toNatClampNeg)] sh S16 (gI sh (fun x24 S23 => P x24 S23))) ∧ (x17 = 0 → Sp l m_Md_refuse d 0 0 [.ref a, .int 7] sh S16 (gI sh (fun x26 S25 => P x26 S25))))))))) ∧ (x2 = 0 → Sp l m_Md_refuse d 0 0 [.ref a, .int 1] sh S1 (gI sh (fun x28 S27 => P x28 S27))))))) : Sp l m_Md_pass (d + 1) 0 0 [.ref a, .int p0, .int p1] sh S (gI sh P) := by
  refine Sp.of k_Md_pass (ls := [.ref a, .int p0, .int p1]) rfl (Nat.le_of_ble_eq_true rfl) ?_
  refine r_aload_n (pc := 0) d_Md_pass_0 (x := a) rfl ?_
  refine r_iload_n (pc := 1) d_Md_pass_1 (x := p0) rfl ?_
  refine r_callV (pc := 2) (k := a) (As := [.int p0]) (rest := []) (mc' := 0) (ms' := 0) lk_Md_349 in_Md_isGap se_Md_isGap sa rfl d_Md_pass_2 k_Md_isGap rfl rfl (Nat.le_of_ble_eq_true rfl) (by decide) (by decide) (Sp.mono h ?_)
  rintro rS1 shS1 S1 ⟨qS1, x2, uS1, h⟩
  subst uS1
  rw [qS1]
  refine r_if_ne (pc := 5) d_Md_pass_5 (tgt := 14) (by decide) (fun c3 => ?_) (fun c3 => ?_)
  · replace h := h.1 c3
    refine r_aload_n (pc := 14) d_Md_pass_14 (x := a) rfl ?_
    refine r_iload_n (pc := 15) d_Md_pass_15 (x := p0) rfl ?_
    refine r_iload_n (pc := 16) d_Md_pass_16 (x := p1) rfl ?_
    refine r_if_eq (pc := 17) d_Md_pass_17 (tgt := 24) (by decide) (fun c4 => ?_) (fun c4 => ?_)
    · replace h := h.1 c4
      refine r_iconst (pc := 24) d_Md_pass_24 (v := 0) (by decide) ?_
      refine r_callV (pc := 25) (k := a) (As := [.int p0, .int 0]) (rest := []) (mc' := 0) (ms' := 0) lk_Md_352 in_Md_danced se_Md_danced sa rfl d_Md_pass_25 k_Md_danced rfl rfl (Nat.le_of_ble_eq_true rfl) (by decide) (by decide) (Sp.mono h ?_)
      rintro rS5 shS5 S5 ⟨qS5, x6, uS5, h⟩
      subst uS5
      rw [qS5]
      refine r_if_ne (pc := 28) d_Md_pass_28 (tgt := 40) (by decide) (fun c7 => ?_) (fun c7 => ?_)
      · replace h := h.1 c7
        refine r_aload_n (pc := 40) d_Md_pass_40 (x := a) rfl ?_
        refine r_aload_n (pc := 41) d_Md_pass_41 (x := a) rfl ?_
        obtain ⟨r8, er8, h⟩ := h
        refine r_getR (pc := 42) d_Md_pass_42 f_Md_7 sa (Or.inr ⟨_, rfl⟩) (r := r8) er8 ?_
        refine r_iconst (pc := 45) d_Md_pass_45 (v := 3) (by decide) ?_
        obtain ⟨n10, s9, h⟩ := h
        obtain ⟨g11, h⟩ := h
        refine r_iald (pc := 46) d_Md_pass_46 s9 g11 ?_
        refine r_callV (pc := 47) (k := a) (As := [.int (S5.1 r8 (3 : Int32).toNatClampNeg)]) (rest := []) (mc' := 0) (ms' := 0) lk_Md_122 in_Md_gives se_Md_gives sa rfl d_Md_pass_47 k_Md_gives rfl rfl (Nat.le_of_ble_eq_true rfl) (by decide) (by decide) (Sp.mono h ?_)
        rintro rS12 shS12 S12 ⟨qS12, x13, uS12, h⟩
        subst uS12
        rw [qS12]
        exact r_ireturn (pc := 50) d_Md_pass_50 rfl rfl (Nat.le_refl _) ⟨rfl, _, rfl, h⟩
      · replace h := h.2 c7
        refine r_aload_n (pc := 31) d_Md_pass_31 (x := a) rfl ?_
        refine r_bipush (pc := 32) d_Md_pass_32 (v := 7) (by decide) ?_
        refine r_callV (pc := 34) (k := a) (As := [.int 7]) (rest := []) (mc' := 0) (ms' := 0) lk_Md_118 in_Md_refuse se_Md_refuse sa rfl d_Md_pass_34 k_Md_refuse rfl rfl (Nat.le_of_ble_eq_true rfl) (by decide) (by decide) (Sp.mono h ?_)
        rintro rS14 shS14 S14 ⟨qS14, x15, uS14, h⟩
        subst uS14
        rw [qS14]
        refine r_goto (pc := 37) d_Md_pass_37 (tgt := 50) (by decide) ?_
        exact r_ireturn (pc := 50) d_Md_pass_50 rfl rfl (Nat.le_refl _) ⟨rfl, _, rfl, h⟩
    · replace h := h.2 c4
      refine r_iconst (pc := 20) d_Md_pass_20 (v := 1) (by decide) ?_
      refine r_goto (pc := 21) d_Md_pass_21 (tgt := 25) (by decide) ?_
      refine r_callV (pc := 25) (k := a) (As := [.int p0, .int 1]) (rest := []) (mc' := 0) (ms' := 0) lk_Md_352 in_Md_danced se_Md_danced sa rfl d_Md_pass_25 k_Md_danced rfl rfl (Nat.le_of_ble_eq_true rfl) (by decide) (by decide) (Sp.mono h ?_)
      rintro rS16 shS16 S16 ⟨qS16, x17, uS16, h⟩
      subst uS16
      rw [qS16]
      refine r_if_ne (pc := 28) d_Md_pass_28 (tgt := 40) (by decide) (fun c18 => ?_) (fun c18 => ?_)
      · replace h := h.1 c18
        refine r_aload_n (pc := 40) d_Md_pass_40 (x := a) rfl ?_
        refine r_aload_n (pc := 41) d_Md_pass_41 (x := a) rfl ?_
        obtain ⟨r19, er19, h⟩ := h
        refine r_getR (pc := 42) d_Md_pass_42 f_Md_7 sa (Or.inr ⟨_, rfl⟩) (r := r19) er19 ?_
        refine r_iconst (pc := 45) d_Md_pass_45 (v := 3) (by decide) ?_
        obtain ⟨n21, s20, h⟩ := h
        obtain ⟨g22, h⟩ := h
        refine r_iald (pc := 46) d_Md_pass_46 s20 g22 ?_
        refine r_callV (pc := 47) (k := a) (As := [.int (S16.1 r19 (3 : Int32).toNatClampNeg)]) (rest := []) (mc' := 0) (ms' := 0) lk_Md_122 in_Md_gives se_Md_gives sa rfl d_Md_pass_47 k_Md_gives rfl rfl (Nat.le_of_ble_eq_true rfl) (by decide) (by decide) (Sp.mono h ?_)
        rintro rS23 shS23 S23 ⟨qS23, x24, uS23, h⟩
        subst uS23
        rw [qS23]
        exact r_ireturn (pc := 50) d_Md_pass_50 rfl rfl (Nat.le_refl _) ⟨rfl, _, rfl, h⟩
      · replace h := h.2 c18
        refine r_aload_n (pc := 31) d_Md_pass_31 (x := a) rfl ?_
        refine r_bipush (pc := 32) d_Md_pass_32 (v := 7) (by decide) ?_
        refine r_callV (pc := 34) (k := a) (As := [.int 7]) (rest := []) (mc' := 0) (ms' := 0) lk_Md_118 in_Md_refuse se_Md_refuse sa rfl d_Md_pass_34 k_Md_refuse rfl rfl (Nat.le_of_ble_eq_true rfl) (by decide) (by decide) (Sp.mono h ?_)
        rintro rS25 shS25 S25 ⟨qS25, x26, uS25, h⟩
        subst uS25
        rw [qS25]
        refine r_goto (pc := 37) d_Md_pass_37 (tgt := 50) (by decide) ?_
        exact r_ireturn (pc := 50) d_Md_pass_50 rfl rfl (Nat.le_refl _) ⟨rfl, _, rfl, h⟩
  · replace h := h.2 c3
    refine r_aload_n (pc := 8) d_Md_pass_8 (x := a) rfl ?_
    refine r_iconst (pc := 9) d_Md_pass_9 (v := 1) (by decide) ?_
    refine r_callV (pc := 10) (k := a) (As := [.int 1]) (rest := []) (mc' := 0) (ms' := 0) lk_Md_118 in_Md_refuse se_Md_refuse sa rfl d_Md_pass_10 k_Md_refuse rfl rfl (Nat.le_of_ble_eq_true rfl) (by decide) (by decide) (Sp.mono h ?_)
    rintro rS27 shS27 S27 ⟨qS27, x28, uS27, h⟩
    subst uS27
    rw [qS27]
    exact r_ireturn (pc := 13) d_Md_pass_13 rfl rfl (Nat.le_refl _) ⟨rfl, _, rfl, h⟩
set_option maxRecDepth 4000 in
theorem e_Md_danced {l : Launch} {d : Nat} {sh : aw_SH} {S : aw_S} {P : Int32 → aw_S → Prop} {a : Nat} {p0 : Int32} {p1 : Int32} (sa : sh[a]? = some (0, 11)) (h : Sp l m_Md_dances d 0 0 [.ref a, .int 0, .int p0, .int p1] sh S (gI sh (fun x2 S1 => ((x2 ≤ 0 → P x2 S1) ∧ (¬ x2 ≤ 0 → ∃ r4, S1.2.2 a 0 = some r4 ∧ ∃ n6, sh[r4]? = some (3, n6) ∧ vp_in 4 n6 ∧ vp_in 4 n6 ∧ P x2 (aw_uI S1 r4 ((4 : Int32).toNatClampNeg) ((S1.1 r4 (4 : Int32).toNatClampNeg) + (1 : Int32)))))))) : Sp l m_Md_danced (d + 1) 0 0 [.ref a, .int p0, .int p1] sh S (gI sh P) := by
  refine Sp.of k_Md_danced (ls := [.ref a, .int p0, .int p1, .null]) rfl (Nat.le_of_ble_eq_true rfl) ?_
  refine r_aload_n (pc := 0) d_Md_danced_0 (x := a) rfl ?_
  refine r_iconst (pc := 1) d_Md_danced_1 (v := 0) (by decide) ?_
  refine r_iload_n (pc := 2) d_Md_danced_2 (x := p0) rfl ?_
  refine r_iload_n (pc := 3) d_Md_danced_3 (x := p1) rfl ?_
  refine r_callV (pc := 4) (k := a) (As := [.int 0, .int p0, .int p1]) (rest := []) (mc' := 0) (ms' := 0) lk_Md_269 in_Md_dances se_Md_dances sa rfl d_Md_danced_4 k_Md_dances rfl rfl (Nat.le_of_ble_eq_true rfl) (by decide) (by decide) (Sp.mono h ?_)
  rintro rS1 shS1 S1 ⟨qS1, x2, uS1, h⟩
  subst uS1
  rw [qS1]
  refine r_istore_n (pc := 7) (hk := rfl) (hd := d_Md_danced_7) (hi := by decide) (ls2 := [.ref a, .int p0, .int p1, .int x2]) (h2 := rfl) ?_
  refine r_iload_n (pc := 8) d_Md_danced_8 (x := x2) rfl ?_
  refine r_if_le (pc := 9) d_Md_danced_9 (tgt := 22) (by decide) (fun c3 => ?_) (fun c3 => ?_)
  · replace h := h.1 c3
    refine r_iload_n (pc := 22) d_Md_danced_22 (x := x2) rfl ?_
    exact r_ireturn (pc := 23) d_Md_danced_23 rfl rfl (Nat.le_refl _) ⟨rfl, _, rfl, h⟩
  · replace h := h.2 c3
    refine r_aload_n (pc := 12) d_Md_danced_12 (x := a) rfl ?_
    obtain ⟨r4, er4, h⟩ := h
    refine r_getR (pc := 13) d_Md_danced_13 f_Md_7 sa (Or.inr ⟨_, rfl⟩) (r := r4) er4 ?_
    refine r_iconst (pc := 16) d_Md_danced_16 (v := 4) (by decide) ?_
    refine r_dup2 (pc := 17) d_Md_danced_17 rfl rfl ?_
    obtain ⟨n6, s5, h⟩ := h
    obtain ⟨g7, h⟩ := h
    refine r_iald (pc := 18) d_Md_danced_18 s5 g7 ?_
    refine r_iconst (pc := 19) d_Md_danced_19 (v := 1) (by decide) ?_
    refine r_iadd (pc := 20) d_Md_danced_20 ?_
    obtain ⟨g8, h⟩ := h
    refine r_iast (pc := 21) d_Md_danced_21 s5 g8 ?_
    refine r_iload_n (pc := 22) d_Md_danced_22 (x := x2) rfl ?_
    exact r_ireturn (pc := 23) d_Md_danced_23 rfl rfl (Nat.le_refl _) ⟨rfl, _, rfl, h⟩
set_option maxRecDepth 4000 in
theorem e_Md_back {l : Launch} {d : Nat} {sh : aw_SH} {S : aw_S} {P : Int32 → aw_S → Prop} {a : Nat} (sa : sh[a]? = some (0, 11)) (h : Sp l m_Md_undoes d 0 0 [.ref a] sh S (gI sh (fun x2 S1 => ((x2 = 0 → Sp l m_Md_refuse d 0 0 [.ref a, .int 7] sh S1 (gI sh (fun x5 S4 => P x5 S4))) ∧ (¬ x2 = 0 → ∃ r6, S1.2.2 a 0 = some r6 ∧ ∃ n8, sh[r6]? = some (3, n8) ∧ vp_in 3 n8 ∧ Sp l m_Md_gives d 0 0 [.ref a, .int (S1.1 r6 (3 : Int32).toNatClampNeg)] sh S1 (gI sh (fun x11 S10 => P x11 S10))))))) : Sp l m_Md_back (d + 1) 0 0 [.ref a] sh S (gI sh P) := by
  refine Sp.of k_Md_back (ls := [.ref a]) rfl (Nat.le_of_ble_eq_true rfl) ?_
  refine r_aload_n (pc := 0) d_Md_back_0 (x := a) rfl ?_
  refine r_callV (pc := 1) (k := a) (As := []) (rest := []) (mc' := 0) (ms' := 0) lk_Md_355 in_Md_undoes se_Md_undoes sa rfl d_Md_back_1 k_Md_undoes rfl rfl (Nat.le_of_ble_eq_true rfl) (by decide) (by decide) (Sp.mono h ?_)
  rintro rS1 shS1 S1 ⟨qS1, x2, uS1, h⟩
  subst uS1
  rw [qS1]
  refine r_if_eq (pc := 4) d_Md_back_4 (tgt := 20) (by decide) (fun c3 => ?_) (fun c3 => ?_)
  · replace h := h.1 c3
    refine r_aload_n (pc := 20) d_Md_back_20 (x := a) rfl ?_
    refine r_bipush (pc := 21) d_Md_back_21 (v := 7) (by decide) ?_
    refine r_callV (pc := 23) (k := a) (As := [.int 7]) (rest := []) (mc' := 0) (ms' := 0) lk_Md_118 in_Md_refuse se_Md_refuse sa rfl d_Md_back_23 k_Md_refuse rfl rfl (Nat.le_of_ble_eq_true rfl) (by decide) (by decide) (Sp.mono h ?_)
    rintro rS4 shS4 S4 ⟨qS4, x5, uS4, h⟩
    subst uS4
    rw [qS4]
    exact r_ireturn (pc := 26) d_Md_back_26 rfl rfl (Nat.le_refl _) ⟨rfl, _, rfl, h⟩
  · replace h := h.2 c3
    refine r_aload_n (pc := 7) d_Md_back_7 (x := a) rfl ?_
    refine r_aload_n (pc := 8) d_Md_back_8 (x := a) rfl ?_
    obtain ⟨r6, er6, h⟩ := h
    refine r_getR (pc := 9) d_Md_back_9 f_Md_7 sa (Or.inr ⟨_, rfl⟩) (r := r6) er6 ?_
    refine r_iconst (pc := 12) d_Md_back_12 (v := 3) (by decide) ?_
    obtain ⟨n8, s7, h⟩ := h
    obtain ⟨g9, h⟩ := h
    refine r_iald (pc := 13) d_Md_back_13 s7 g9 ?_
    refine r_callV (pc := 14) (k := a) (As := [.int (S1.1 r6 (3 : Int32).toNatClampNeg)]) (rest := []) (mc' := 0) (ms' := 0) lk_Md_122 in_Md_gives se_Md_gives sa rfl d_Md_back_14 k_Md_gives rfl rfl (Nat.le_of_ble_eq_true rfl) (by decide) (by decide) (Sp.mono h ?_)
    rintro rS10 shS10 S10 ⟨qS10, x11, uS10, h⟩
    subst uS10
    rw [qS10]
    refine r_goto (pc := 17) d_Md_back_17 (tgt := 26) (by decide) ?_
    exact r_ireturn (pc := 26) d_Md_back_26 rfl rfl (Nat.le_refl _) ⟨rfl, _, rfl, h⟩
set_option maxRecDepth 4000 in
theorem e_Md_undoes {l : Launch} {d : Nat} {sh : aw_SH} {S : aw_S} {P : Int32 → aw_S → Prop} {a : Nat} (sa : sh[a]? = some (0, 11)) (h : ∃ r1, S.2.2 a 0 = some r1 ∧ ∃ n3, sh[r1]? = some (3, n3) ∧ vp_in 3 n3 ∧ ((0 ≤ ((S.1 r1 (3 : Int32).toNatClampNeg) - (1 : Int32)) → Sp l m_Md_passOf d 0 0 [.ref a, .int ((S.1 r1 (3 : Int32).toNatClampNeg) - (1 : Int32)), .int 0] sh S (gI sh (fun x7 S6 => Sp l m_Md_swaps d 0 0 [.ref a, .int 0, .int x7] sh S6 (gV sh (fun S8 => Sp l m_Md_loses d 0 0 [.ref a, .int 0, .int ((S.1 r1 (3 : Int32).toNatClampNeg) - (1 : Int32))] sh S8 (gV sh (fun S9 => ∃ r10, S9.2.2 a 0 = some r10 ∧ ∃ n12, sh[r10]? = some (3, n12) ∧ vp_in 4 n12 ∧ vp_in 4 n12 ∧ P 1 (aw_uI S9 r10 ((4 : Int32).toNatClampNeg) ((S9.1 r10 (4 : Int32).toNatClampNeg) + (1 : Int32)))))))))) ∧ (¬ 0 ≤ ((S.1 r1 (3 : Int32).toNatClampNeg) - (1 : Int32)) → P 0 S))) : Sp l m_Md_undoes (d + 1) 0 0 [.ref a] sh S (gI sh P) := by
  refine Sp.of k_Md_undoes (ls := [.ref a, .null]) rfl (Nat.le_of_ble_eq_true rfl) ?_
  refine r_aload_n (pc := 0) d_Md_undoes_0 (x := a) rfl ?_
  obtain ⟨r1, er1, h⟩ := h
  refine r_getR (pc := 1) d_Md_undoes_1 f_Md_7 sa (Or.inr ⟨_, rfl⟩) (r := r1) er1 ?_
  refine r_iconst (pc := 4) d_Md_undoes_4 (v := 3) (by decide) ?_
  obtain ⟨n3, s2, h⟩ := h
  obtain ⟨g4, h⟩ := h
  refine r_iald (pc := 5) d_Md_undoes_5 s2 g4 ?_
  refine r_iconst (pc := 6) d_Md_undoes_6 (v := 1) (by decide) ?_
  refine r_isub (pc := 7) d_Md_undoes_7 ?_
  refine r_istore_n (pc := 8) (hk := rfl) (hd := d_Md_undoes_8) (hi := by decide) (ls2 := [.ref a, .int ((S.1 r1 (3 : Int32).toNatClampNeg) - (1 : Int32))]) (h2 := rfl) ?_
  refine r_iload_n (pc := 9) d_Md_undoes_9 (x := ((S.1 r1 (3 : Int32).toNatClampNeg) - (1 : Int32))) rfl ?_
  refine r_if_ge (pc := 10) d_Md_undoes_10 (tgt := 15) (by decide) (fun c5 => ?_) (fun c5 => ?_)
  · replace h := h.1 c5
    refine r_aload_n (pc := 15) d_Md_undoes_15 (x := a) rfl ?_
    refine r_iconst (pc := 16) d_Md_undoes_16 (v := 0) (by decide) ?_
    refine r_aload_n (pc := 17) d_Md_undoes_17 (x := a) rfl ?_
    refine r_iload_n (pc := 18) d_Md_undoes_18 (x := ((S.1 r1 (3 : Int32).toNatClampNeg) - (1 : Int32))) rfl ?_
    refine r_iconst (pc := 19) d_Md_undoes_19 (v := 0) (by decide) ?_
    refine r_callV (pc := 20) (k := a) (As := [.int ((S.1 r1 (3 : Int32).toNatClampNeg) - (1 : Int32)), .int 0]) (rest := [.int 0, .ref a]) (mc' := 0) (ms' := 0) lk_Md_316 in_Md_passOf se_Md_passOf sa rfl d_Md_undoes_20 k_Md_passOf rfl rfl (Nat.le_of_ble_eq_true rfl) (by decide) (by decide) (Sp.mono h ?_)
    rintro rS6 shS6 S6 ⟨qS6, x7, uS6, h⟩
    subst uS6
    rw [qS6]
    refine r_callV (pc := 23) (k := a) (As := [.int 0, .int x7]) (rest := []) (mc' := 0) (ms' := 0) lk_Md_228 in_Md_swaps se_Md_swaps sa rfl d_Md_undoes_23 k_Md_swaps rfl rfl (Nat.le_of_ble_eq_true rfl) (by decide) (by decide) (Sp.mono h ?_)
    rintro rS8 shS8 S8 ⟨qS8, uS8, h⟩
    subst uS8
    rw [qS8]
    refine r_aload_n (pc := 26) d_Md_undoes_26 (x := a) rfl ?_
    refine r_iconst (pc := 27) d_Md_undoes_27 (v := 0) (by decide) ?_
    refine r_iload_n (pc := 28) d_Md_undoes_28 (x := ((S.1 r1 (3 : Int32).toNatClampNeg) - (1 : Int32))) rfl ?_
    refine r_callV (pc := 29) (k := a) (As := [.int 0, .int ((S.1 r1 (3 : Int32).toNatClampNeg) - (1 : Int32))]) (rest := []) (mc' := 0) (ms' := 0) lk_Md_232 in_Md_loses se_Md_loses sa rfl d_Md_undoes_29 k_Md_loses rfl rfl (Nat.le_of_ble_eq_true rfl) (by decide) (by decide) (Sp.mono h ?_)
    rintro rS9 shS9 S9 ⟨qS9, uS9, h⟩
    subst uS9
    rw [qS9]
    refine r_aload_n (pc := 32) d_Md_undoes_32 (x := a) rfl ?_
    obtain ⟨r10, er10, h⟩ := h
    refine r_getR (pc := 33) d_Md_undoes_33 f_Md_7 sa (Or.inr ⟨_, rfl⟩) (r := r10) er10 ?_
    refine r_iconst (pc := 36) d_Md_undoes_36 (v := 4) (by decide) ?_
    refine r_dup2 (pc := 37) d_Md_undoes_37 rfl rfl ?_
    obtain ⟨n12, s11, h⟩ := h
    obtain ⟨g13, h⟩ := h
    refine r_iald (pc := 38) d_Md_undoes_38 s11 g13 ?_
    refine r_iconst (pc := 39) d_Md_undoes_39 (v := 1) (by decide) ?_
    refine r_iadd (pc := 40) d_Md_undoes_40 ?_
    obtain ⟨g14, h⟩ := h
    refine r_iast (pc := 41) d_Md_undoes_41 s11 g14 ?_
    refine r_iconst (pc := 42) d_Md_undoes_42 (v := 1) (by decide) ?_
    exact r_zreturn (pc := 43) d_Md_undoes_43 (v := 1) rfl (by decide) rfl (Nat.le_refl _) ⟨rfl, _, rfl, h⟩
  · replace h := h.2 c5
    refine r_iconst (pc := 13) d_Md_undoes_13 (v := 0) (by decide) ?_
    exact r_zreturn (pc := 14) d_Md_undoes_14 (v := 0) rfl (by decide) rfl (Nat.le_refl _) ⟨rfl, _, rfl, h⟩
set_option maxRecDepth 4000 in
theorem e_Md_weave {l : Launch} {d : Nat} {sh : aw_SH} {S : aw_S} {P : Int32 → aw_S → Prop} {a : Nat} (sa : sh[a]? = some (0, 11)) (h : Sp l m_Md_weaving d 0 0 [.ref a] sh S (gI sh (fun x2 S1 => ((¬ x2 = 0 → Sp l m_Md_gives d 0 0 [.ref a, .int x2] sh S1 (gI sh (fun x5 S4 => P x5 S4))) ∧ (x2 = 0 → Sp l m_Md_refuse d 0 0 [.ref a, .int 7] sh S1 (gI sh (fun x7 S6 => P x7 S6))))))) : Sp l m_Md_weave (d + 1) 0 0 [.ref a] sh S (gI sh P) := by
  refine Sp.of k_Md_weave (ls := [.ref a, .null]) rfl (Nat.le_of_ble_eq_true rfl) ?_
  refine r_aload_n (pc := 0) d_Md_weave_0 (x := a) rfl ?_
  refine r_callV (pc := 1) (k := a) (As := []) (rest := []) (mc' := 0) (ms' := 0) lk_Md_367 in_Md_weaving se_Md_weaving sa rfl d_Md_weave_1 k_Md_weaving rfl rfl (Nat.le_of_ble_eq_true rfl) (by decide) (by decide) (Sp.mono h ?_)
  rintro rS1 shS1 S1 ⟨qS1, x2, uS1, h⟩
  subst uS1
  rw [qS1]
  refine r_istore_n (pc := 4) (hk := rfl) (hd := d_Md_weave_4) (hi := by decide) (ls2 := [.ref a, .int x2]) (h2 := rfl) ?_
  refine r_iload_n (pc := 5) d_Md_weave_5 (x := x2) rfl ?_
  refine r_if_ne (pc := 6) d_Md_weave_6 (tgt := 18) (by decide) (fun c3 => ?_) (fun c3 => ?_)
  · replace h := h.1 c3
    refine r_aload_n (pc := 18) d_Md_weave_18 (x := a) rfl ?_
    refine r_iload_n (pc := 19) d_Md_weave_19 (x := x2) rfl ?_
    refine r_callV (pc := 20) (k := a) (As := [.int x2]) (rest := []) (mc' := 0) (ms' := 0) lk_Md_122 in_Md_gives se_Md_gives sa rfl d_Md_weave_20 k_Md_gives rfl rfl (Nat.le_of_ble_eq_true rfl) (by decide) (by decide) (Sp.mono h ?_)
    rintro rS4 shS4 S4 ⟨qS4, x5, uS4, h⟩
    subst uS4
    rw [qS4]
    exact r_ireturn (pc := 23) d_Md_weave_23 rfl rfl (Nat.le_refl _) ⟨rfl, _, rfl, h⟩
  · replace h := h.2 c3
    refine r_aload_n (pc := 9) d_Md_weave_9 (x := a) rfl ?_
    refine r_bipush (pc := 10) d_Md_weave_10 (v := 7) (by decide) ?_
    refine r_callV (pc := 12) (k := a) (As := [.int 7]) (rest := []) (mc' := 0) (ms' := 0) lk_Md_118 in_Md_refuse se_Md_refuse sa rfl d_Md_weave_12 k_Md_refuse rfl rfl (Nat.le_of_ble_eq_true rfl) (by decide) (by decide) (Sp.mono h ?_)
    rintro rS6 shS6 S6 ⟨qS6, x7, uS6, h⟩
    subst uS6
    rw [qS6]
    refine r_goto (pc := 15) d_Md_weave_15 (tgt := 23) (by decide) ?_
    exact r_ireturn (pc := 23) d_Md_weave_23 rfl rfl (Nat.le_refl _) ⟨rfl, _, rfl, h⟩
set_option maxRecDepth 4000 in
theorem e_Md_weaving {l : Launch} {d : Nat} {sh : aw_SH} {S : aw_S} {P : Int32 → aw_S → Prop} {a : Nat} (sa : sh[a]? = some (0, 11)) (h : Sp l m_Md_gapsOf d 0 0 [.ref a, .int 0] sh S (gI sh (fun x2 S1 => AW l m_Md_weaving (d + 1) 0 0 (gI sh P) 0 0 18 [.ref a, .int x2, .int 0, .null] [] sh (aw_uI (aw_uI S1 a 26 0) a 27 0)))) : Sp l m_Md_weaving (d + 1) 0 0 [.ref a] sh S (gI sh P) := by
  refine Sp.of k_Md_weaving (ls := [.ref a, .null, .null, .null]) rfl (Nat.le_of_ble_eq_true rfl) ?_
  refine r_aload_n (pc := 0) d_Md_weaving_0 (x := a) rfl ?_
  refine r_iconst (pc := 1) d_Md_weaving_1 (v := 0) (by decide) ?_
  refine r_callV (pc := 2) (k := a) (As := [.int 0]) (rest := []) (mc' := 0) (ms' := 0) lk_Md_260 in_Md_gapsOf se_Md_gapsOf sa rfl d_Md_weaving_2 k_Md_gapsOf rfl rfl (Nat.le_of_ble_eq_true rfl) (by decide) (by decide) (Sp.mono h ?_)
  rintro rS1 shS1 S1 ⟨qS1, x2, uS1, h⟩
  subst uS1
  rw [qS1]
  refine r_istore_n (pc := 5) (hk := rfl) (hd := d_Md_weaving_5) (hi := by decide) (ls2 := [.ref a, .int x2, .null, .null]) (h2 := rfl) ?_
  refine r_aload_n (pc := 6) d_Md_weaving_6 (x := a) rfl ?_
  refine r_iconst (pc := 7) d_Md_weaving_7 (v := 0) (by decide) ?_
  refine r_putI (pc := 8) d_Md_weaving_8 f_Md_358 sa rfl ?_
  refine r_aload_n (pc := 11) d_Md_weaving_11 (x := a) rfl ?_
  refine r_iconst (pc := 12) d_Md_weaving_12 (v := 0) (by decide) ?_
  refine r_putI (pc := 13) d_Md_weaving_13 f_Md_361 sa rfl ?_
  refine r_iconst (pc := 16) d_Md_weaving_16 (v := 0) (by decide) ?_
  refine r_istore_n (pc := 17) (hk := rfl) (hd := d_Md_weaving_17) (hi := by decide) (ls2 := [.ref a, .int x2, .int 0, .null]) (h2 := rfl) ?_
  exact h
set_option maxRecDepth 4000 in
theorem s_Md_weaving_18 {l : Launch} {d : Nat} {sh : aw_SH} {S : aw_S} {P : Int32 → aw_S → Prop} {a : Nat} {i1 : Int32} {i2 : Int32} (sa : sh[a]? = some (0, 11)) (h : ((i1 ≤ i2 → AW l m_Md_weaving (d + 1) 0 0 (gI sh P) 0 0 68 [.ref a, .int i1, .int 1, .null] [] sh S) ∧ (¬ i1 ≤ i2 → ((i2 ≤ 0 → Sp l m_Md_weaves1 d 0 0 [.ref a, .int i2, .int 1] sh S (gV sh (fun S4 => AW l m_Md_weaving (d + 1) 0 0 (gI sh P) 0 0 18 [.ref a, .int i1, .int (i2 + 2), .null] [] sh S4))) ∧ (¬ i2 ≤ 0 → (((i2 + (2 : Int32)) < i1 → Sp l m_Md_weaves1 d 0 0 [.ref a, .int i2, .int 1] sh S (gV sh (fun S7 => AW l m_Md_weaving (d + 1) 0 0 (gI sh P) 0 0 18 [.ref a, .int i1, .int (i2 + 2), .null] [] sh S7))) ∧ (¬ (i2 + (2 : Int32)) < i1 → Sp l m_Md_isTouching d 0 0 [.ref a, .int 0, .int i2, .int 0] sh S (gI sh (fun x9 S8 => ((x9 = 0 → Sp l m_Md_weaves1 d 0 0 [.ref a, .int i2, .int 1] sh S8 (gV sh (fun S12 => AW l m_Md_weaving (d + 1) 0 0 (gI sh P) 0 0 18 [.ref a, .int i1, .int (i2 + 2), .null] [] sh S12))) ∧ (¬ x9 = 0 → AW l m_Md_weaving (d + 1) 0 0 (gI sh P) 0 0 18 [.ref a, .int i1, .int (i2 + 2), .null] [] sh S8))))))))))) : AW l m_Md_weaving (d + 1) 0 0 (gI sh P) 0 0 18 [.ref a, .int i1, .int i2, .null] [] sh S := by
  refine r_iload_n (pc := 18) d_Md_weaving_18 (x := i2) rfl ?_
  refine r_iload_n (pc := 19) d_Md_weaving_19 (x := i1) rfl ?_
  refine r_icmp_ge (pc := 20) d_Md_weaving_20 (tgt := 66) (by decide) (fun c1 => ?_) (fun c1 => ?_)
  · replace h := h.1 c1
    refine r_iconst (pc := 66) d_Md_weaving_66 (v := 1) (by decide) ?_
    refine r_istore_n (pc := 67) (hk := rfl) (hd := d_Md_weaving_67) (hi := by decide) (ls2 := [.ref a, .int i1, .int 1, .null]) (h2 := rfl) ?_
    exact h
  · replace h := h.2 c1
    refine r_iload_n (pc := 23) d_Md_weaving_23 (x := i2) rfl ?_
    refine r_if_le (pc := 24) d_Md_weaving_24 (tgt := 48) (by decide) (fun c2 => ?_) (fun c2 => ?_)
    · replace h := h.1 c2
      refine r_iconst (pc := 48) d_Md_weaving_48 (v := 0) (by decide) ?_
      refine r_istore_n (pc := 49) (hk := rfl) (hd := d_Md_weaving_49) (hi := by decide) (ls2 := [.ref a, .int i1, .int i2, .int 0]) (h2 := rfl) ?_
      refine r_iload_n (pc := 50) d_Md_weaving_50 (x := 0) rfl ?_
      refine r_if_ne (pc := 51) d_Md_weaving_51 (tgt := 60) (by decide) (fun q => absurd q (by decide)) (fun _ => ?_)
      refine r_aload_n (pc := 54) d_Md_weaving_54 (x := a) rfl ?_
      refine r_iload_n (pc := 55) d_Md_weaving_55 (x := i2) rfl ?_
      refine r_iconst (pc := 56) d_Md_weaving_56 (v := 1) (by decide) ?_
      refine r_callV (pc := 57) (k := a) (As := [.int i2, .int 1]) (rest := []) (mc' := 0) (ms' := 0) lk_Md_364 in_Md_weaves1 se_Md_weaves1 sa rfl d_Md_weaving_57 k_Md_weaves1 rfl rfl (Nat.le_of_ble_eq_true rfl) (by decide) (by decide) (Sp.mono h ?_)
      rintro rS4 shS4 S4 ⟨qS4, uS4, h⟩
      subst uS4
      rw [qS4]
      refine r_iinc (pc := 60) d_Md_weaving_60 (hi := by decide) (x := i2) rfl (v := i2 + 2) rfl (ls2 := [.ref a, .int i1, .int (i2 + 2), .int 0]) rfl ?_
      refine r_goto (pc := 63) d_Md_weaving_63 (tgt := 18) (by decide) ?_
      exact r_weak (ls2 := [.ref a, .int i1, .int (i2 + 2), .null]) ⟨Or.inr rfl, Or.inr rfl, Or.inr rfl, Or.inl rfl, trivial⟩ h
    · replace h := h.2 c2
      refine r_iload_n (pc := 27) d_Md_weaving_27 (x := i2) rfl ?_
      refine r_iconst (pc := 28) d_Md_weaving_28 (v := 2) (by decide) ?_
      refine r_iadd (pc := 29) d_Md_weaving_29 ?_
      refine r_iload_n (pc := 30) d_Md_weaving_30 (x := i1) rfl ?_
      refine r_icmp_lt (pc := 31) d_Md_weaving_31 (tgt := 48) (by decide) (fun c5 => ?_) (fun c5 => ?_)
      · replace h := h.1 c5
        refine r_iconst (pc := 48) d_Md_weaving_48 (v := 0) (by decide) ?_
        refine r_istore_n (pc := 49) (hk := rfl) (hd := d_Md_weaving_49) (hi := by decide) (ls2 := [.ref a, .int i1, .int i2, .int 0]) (h2 := rfl) ?_
        refine r_iload_n (pc := 50) d_Md_weaving_50 (x := 0) rfl ?_
        refine r_if_ne (pc := 51) d_Md_weaving_51 (tgt := 60) (by decide) (fun q => absurd q (by decide)) (fun _ => ?_)
        refine r_aload_n (pc := 54) d_Md_weaving_54 (x := a) rfl ?_
        refine r_iload_n (pc := 55) d_Md_weaving_55 (x := i2) rfl ?_
        refine r_iconst (pc := 56) d_Md_weaving_56 (v := 1) (by decide) ?_
        refine r_callV (pc := 57) (k := a) (As := [.int i2, .int 1]) (rest := []) (mc' := 0) (ms' := 0) lk_Md_364 in_Md_weaves1 se_Md_weaves1 sa rfl d_Md_weaving_57 k_Md_weaves1 rfl rfl (Nat.le_of_ble_eq_true rfl) (by decide) (by decide) (Sp.mono h ?_)
        rintro rS7 shS7 S7 ⟨qS7, uS7, h⟩
        subst uS7
        rw [qS7]
        refine r_iinc (pc := 60) d_Md_weaving_60 (hi := by decide) (x := i2) rfl (v := i2 + 2) rfl (ls2 := [.ref a, .int i1, .int (i2 + 2), .int 0]) rfl ?_
        refine r_goto (pc := 63) d_Md_weaving_63 (tgt := 18) (by decide) ?_
        exact r_weak (ls2 := [.ref a, .int i1, .int (i2 + 2), .null]) ⟨Or.inr rfl, Or.inr rfl, Or.inr rfl, Or.inl rfl, trivial⟩ h
      · replace h := h.2 c5
        refine r_aload_n (pc := 34) d_Md_weaving_34 (x := a) rfl ?_
        refine r_iconst (pc := 35) d_Md_weaving_35 (v := 0) (by decide) ?_
        refine r_iload_n (pc := 36) d_Md_weaving_36 (x := i2) rfl ?_
        refine r_iconst (pc := 37) d_Md_weaving_37 (v := 0) (by decide) ?_
        refine r_callV (pc := 38) (k := a) (As := [.int 0, .int i2, .int 0]) (rest := []) (mc' := 0) (ms' := 0) lk_Md_217 in_Md_isTouching se_Md_isTouching sa rfl d_Md_weaving_38 k_Md_isTouching rfl rfl (Nat.le_of_ble_eq_true rfl) (by decide) (by decide) (Sp.mono h ?_)
        rintro rS8 shS8 S8 ⟨qS8, x9, uS8, h⟩
        subst uS8
        rw [qS8]
        refine r_if_eq (pc := 41) d_Md_weaving_41 (tgt := 48) (by decide) (fun c10 => ?_) (fun c10 => ?_)
        · replace h := h.1 c10
          refine r_iconst (pc := 48) d_Md_weaving_48 (v := 0) (by decide) ?_
          refine r_istore_n (pc := 49) (hk := rfl) (hd := d_Md_weaving_49) (hi := by decide) (ls2 := [.ref a, .int i1, .int i2, .int 0]) (h2 := rfl) ?_
          refine r_iload_n (pc := 50) d_Md_weaving_50 (x := 0) rfl ?_
          refine r_if_ne (pc := 51) d_Md_weaving_51 (tgt := 60) (by decide) (fun q => absurd q (by decide)) (fun _ => ?_)
          refine r_aload_n (pc := 54) d_Md_weaving_54 (x := a) rfl ?_
          refine r_iload_n (pc := 55) d_Md_weaving_55 (x := i2) rfl ?_
          refine r_iconst (pc := 56) d_Md_weaving_56 (v := 1) (by decide) ?_
          refine r_callV (pc := 57) (k := a) (As := [.int i2, .int 1]) (rest := []) (mc' := 0) (ms' := 0) lk_Md_364 in_Md_weaves1 se_Md_weaves1 sa rfl d_Md_weaving_57 k_Md_weaves1 rfl rfl (Nat.le_of_ble_eq_true rfl) (by decide) (by decide) (Sp.mono h ?_)
          rintro rS12 shS12 S12 ⟨qS12, uS12, h⟩
          subst uS12
          rw [qS12]
          refine r_iinc (pc := 60) d_Md_weaving_60 (hi := by decide) (x := i2) rfl (v := i2 + 2) rfl (ls2 := [.ref a, .int i1, .int (i2 + 2), .int 0]) rfl ?_
          refine r_goto (pc := 63) d_Md_weaving_63 (tgt := 18) (by decide) ?_
          exact r_weak (ls2 := [.ref a, .int i1, .int (i2 + 2), .null]) ⟨Or.inr rfl, Or.inr rfl, Or.inr rfl, Or.inl rfl, trivial⟩ h
        · replace h := h.2 c10
          refine r_iconst (pc := 44) d_Md_weaving_44 (v := 1) (by decide) ?_
          refine r_goto (pc := 45) d_Md_weaving_45 (tgt := 49) (by decide) ?_
          refine r_istore_n (pc := 49) (hk := rfl) (hd := d_Md_weaving_49) (hi := by decide) (ls2 := [.ref a, .int i1, .int i2, .int 1]) (h2 := rfl) ?_
          refine r_iload_n (pc := 50) d_Md_weaving_50 (x := 1) rfl ?_
          refine r_if_ne (pc := 51) d_Md_weaving_51 (tgt := 60) (by decide) (fun _ => ?_) (fun q => absurd q (by decide))
          refine r_iinc (pc := 60) d_Md_weaving_60 (hi := by decide) (x := i2) rfl (v := i2 + 2) rfl (ls2 := [.ref a, .int i1, .int (i2 + 2), .int 1]) rfl ?_
          refine r_goto (pc := 63) d_Md_weaving_63 (tgt := 18) (by decide) ?_
          exact r_weak (ls2 := [.ref a, .int i1, .int (i2 + 2), .null]) ⟨Or.inr rfl, Or.inr rfl, Or.inr rfl, Or.inl rfl, trivial⟩ h
set_option maxRecDepth 4000 in
theorem s_Md_weaving_68 {l : Launch} {d : Nat} {sh : aw_SH} {S : aw_S} {P : Int32 → aw_S → Prop} {a : Nat} {i1 : Int32} {i2 : Int32} (sa : sh[a]? = some (0, 11)) (h : ((i1 ≤ i2 → P ((S.1 a 26) + (S.1 a 27)) S) ∧ (¬ i1 ≤ i2 → Sp l m_Md_weaves1 d 0 0 [.ref a, .int i2, .int 0] sh S (gV sh (fun S2 => AW l m_Md_weaving (d + 1) 0 0 (gI sh P) 0 0 68 [.ref a, .int i1, .int (i2 + 2), .null] [] sh S2))))) : AW l m_Md_weaving (d + 1) 0 0 (gI sh P) 0 0 68 [.ref a, .int i1, .int i2, .null] [] sh S := by
  refine r_iload_n (pc := 68) d_Md_weaving_68 (x := i2) rfl ?_
  refine r_iload_n (pc := 69) d_Md_weaving_69 (x := i1) rfl ?_
  refine r_icmp_ge (pc := 70) d_Md_weaving_70 (tgt := 85) (by decide) (fun c1 => ?_) (fun c1 => ?_)
  · replace h := h.1 c1
    refine r_aload_n (pc := 85) d_Md_weaving_85 (x := a) rfl ?_
    refine r_getI (pc := 86) d_Md_weaving_86 f_Md_358 sa rfl ?_
    refine r_aload_n (pc := 89) d_Md_weaving_89 (x := a) rfl ?_
    refine r_getI (pc := 90) d_Md_weaving_90 f_Md_361 sa rfl ?_
    refine r_iadd (pc := 93) d_Md_weaving_93 ?_
    exact r_ireturn (pc := 94) d_Md_weaving_94 rfl rfl (Nat.le_refl _) ⟨rfl, _, rfl, h⟩
  · replace h := h.2 c1
    refine r_aload_n (pc := 73) d_Md_weaving_73 (x := a) rfl ?_
    refine r_iload_n (pc := 74) d_Md_weaving_74 (x := i2) rfl ?_
    refine r_iconst (pc := 75) d_Md_weaving_75 (v := 0) (by decide) ?_
    refine r_callV (pc := 76) (k := a) (As := [.int i2, .int 0]) (rest := []) (mc' := 0) (ms' := 0) lk_Md_364 in_Md_weaves1 se_Md_weaves1 sa rfl d_Md_weaving_76 k_Md_weaves1 rfl rfl (Nat.le_of_ble_eq_true rfl) (by decide) (by decide) (Sp.mono h ?_)
    rintro rS2 shS2 S2 ⟨qS2, uS2, h⟩
    subst uS2
    rw [qS2]
    refine r_iinc (pc := 79) d_Md_weaving_79 (hi := by decide) (x := i2) rfl (v := i2 + 2) rfl (ls2 := [.ref a, .int i1, .int (i2 + 2), .null]) rfl ?_
    refine r_goto (pc := 82) d_Md_weaving_82 (tgt := 68) (by decide) ?_
    exact h
