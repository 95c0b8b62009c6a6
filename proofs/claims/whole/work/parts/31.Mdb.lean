set_option maxRecDepth 4000 in
theorem e_Md_fails {l : Launch} {d : Nat} {sh : aw_SH} {S : aw_S} {P : Int32 → aw_S → Prop} {a : Nat} {p0 : Int32} (sa : sh[a]? = some (0, 11)) (h : ((¬ (S.1 a 18) = 0 → P 0 S) ∧ ((S.1 a 18) = 0 → ((¬ (S.1 a 12) = 1 → P 0 (aw_uI (aw_uI S a 18 p0) a 17 ((aw_uI S a 18 p0).1 a 13))) ∧ ((S.1 a 12) = 1 → P 0 (aw_uI (aw_uI S a 18 1) a 17 ((aw_uI S a 18 1).1 a 13))))))) : Sp l m_Md_fails (d + 1) 0 0 [.ref a, .int p0] sh S (gI sh P) := by
  refine Sp.of k_Md_fails (ls := [.ref a, .int p0]) rfl (Nat.le_of_ble_eq_true rfl) ?_
  refine r_aload_n (pc := 0) d_Md_fails_0 (x := a) rfl ?_
  refine r_getI (pc := 1) d_Md_fails_1 f_Md_188 sa rfl ?_
  refine r_if_ne (pc := 4) d_Md_fails_4 (tgt := 32) (by decide) (fun c1 => ?_) (fun c1 => ?_)
  · replace h := h.1 c1
    refine r_iconst (pc := 32) d_Md_fails_32 (v := 0) (by decide) ?_
    exact r_zreturn (pc := 33) d_Md_fails_33 (v := 0) rfl (by decide) rfl (Nat.le_refl _) ⟨rfl, _, rfl, h⟩
  · replace h := h.2 c1
    refine r_aload_n (pc := 7) d_Md_fails_7 (x := a) rfl ?_
    refine r_aload_n (pc := 8) d_Md_fails_8 (x := a) rfl ?_
    refine r_getI (pc := 9) d_Md_fails_9 f_Md_163 sa rfl ?_
    refine r_iconst (pc := 12) d_Md_fails_12 (v := 1) (by decide) ?_
    refine r_icmp_ne (pc := 13) d_Md_fails_13 (tgt := 20) (by decide) (fun c2 => ?_) (fun c2 => ?_)
    · replace h := h.1 c2
      refine r_iload_n (pc := 20) d_Md_fails_20 (x := p0) rfl ?_
      refine r_putI (pc := 21) d_Md_fails_21 f_Md_188 sa rfl ?_
      refine r_aload_n (pc := 24) d_Md_fails_24 (x := a) rfl ?_
      refine r_aload_n (pc := 25) d_Md_fails_25 (x := a) rfl ?_
      refine r_getI (pc := 26) d_Md_fails_26 f_Md_157 sa rfl ?_
      refine r_putI (pc := 29) d_Md_fails_29 f_Md_41 sa rfl ?_
      refine r_iconst (pc := 32) d_Md_fails_32 (v := 0) (by decide) ?_
      exact r_zreturn (pc := 33) d_Md_fails_33 (v := 0) rfl (by decide) rfl (Nat.le_refl _) ⟨rfl, _, rfl, h⟩
    · replace h := h.2 c2
      refine r_iconst (pc := 16) d_Md_fails_16 (v := 1) (by decide) ?_
      refine r_goto (pc := 17) d_Md_fails_17 (tgt := 21) (by decide) ?_
      refine r_putI (pc := 21) d_Md_fails_21 f_Md_188 sa rfl ?_
      refine r_aload_n (pc := 24) d_Md_fails_24 (x := a) rfl ?_
      refine r_aload_n (pc := 25) d_Md_fails_25 (x := a) rfl ?_
      refine r_getI (pc := 26) d_Md_fails_26 f_Md_157 sa rfl ?_
      refine r_putI (pc := 29) d_Md_fails_29 f_Md_41 sa rfl ?_
      refine r_iconst (pc := 32) d_Md_fails_32 (v := 0) (by decide) ?_
      exact r_zreturn (pc := 33) d_Md_fails_33 (v := 0) rfl (by decide) rfl (Nat.le_refl _) ⟨rfl, _, rfl, h⟩
set_option maxRecDepth 4000 in
theorem e_Md_isIn {l : Launch} {d : Nat} {sh : aw_SH} {S : aw_S} {P : Int32 → aw_S → Prop} {a : Nat} {p0 : Int32} {p1 : Int32} (sa : sh[a]? = some (0, 11)) (h : ((¬ ((p0 >>> (p1 &&& 31)) &&& (1 : Int32)) = 1 → P 0 S) ∧ (((p0 >>> (p1 &&& 31)) &&& (1 : Int32)) = 1 → P 1 S))) : Sp l m_Md_isIn (d + 1) 0 0 [.ref a, .int p0, .int p1] sh S (gI sh P) := by
  refine Sp.of k_Md_isIn (ls := [.ref a, .int p0, .int p1]) rfl (Nat.le_of_ble_eq_true rfl) ?_
  refine r_iload_n (pc := 0) d_Md_isIn_0 (x := p0) rfl ?_
  refine r_iload_n (pc := 1) d_Md_isIn_1 (x := p1) rfl ?_
  refine r_ishr (pc := 2) d_Md_isIn_2 ?_
  refine r_iconst (pc := 3) d_Md_isIn_3 (v := 1) (by decide) ?_
  refine r_iand (pc := 4) d_Md_isIn_4 ?_
  refine r_iconst (pc := 5) d_Md_isIn_5 (v := 1) (by decide) ?_
  refine r_icmp_ne (pc := 6) d_Md_isIn_6 (tgt := 13) (by decide) (fun c1 => ?_) (fun c1 => ?_)
  · replace h := h.1 c1
    refine r_iconst (pc := 13) d_Md_isIn_13 (v := 0) (by decide) ?_
    exact r_zreturn (pc := 14) d_Md_isIn_14 (v := 0) rfl (by decide) rfl (Nat.le_refl _) ⟨rfl, _, rfl, h⟩
  · replace h := h.2 c1
    refine r_iconst (pc := 9) d_Md_isIn_9 (v := 1) (by decide) ?_
    refine r_goto (pc := 10) d_Md_isIn_10 (tgt := 14) (by decide) ?_
    exact r_zreturn (pc := 14) d_Md_isIn_14 (v := 1) rfl (by decide) rfl (Nat.le_refl _) ⟨rfl, _, rfl, h⟩
set_option maxRecDepth 4000 in
theorem e_Md_aDancer {l : Launch} {d : Nat} {sh : aw_SH} {S : aw_S} {P : Int32 → aw_S → Prop} {a : Nat} (sa : sh[a]? = some (0, 11)) (h : ∃ r1, S.2.2 a 0 = some r1 ∧ ∃ n3, sh[r1]? = some (3, n3) ∧ vp_in 2208 n3 ∧ Sp l m_Md_isIn d 0 0 [.ref a, .int (S.1 a 20), .int 3] sh S (gI sh (fun x6 S5 => ((x6 = 0 → ((¬ (S.1 r1 (2208 : Int32).toNatClampNeg) = 7 → Sp l m_Md_ahead d 0 0 [.ref a] sh S5 (gV sh (fun S9 => Sp l m_Md_isName d 0 0 [.ref a, .float 2] sh S9 (gI sh (fun x11 S10 => ((¬ x11 = 0 → Sp l m_Md_findHere d 0 0 [.ref a, .int 28, .int (S.1 r1 (2208 : Int32).toNatClampNeg)] sh S10 (gI sh (fun x14 S13 => ((x14 = (-1) → ∃ r16, S13.2.2 a 1 = some r16 ∧ Sp l m_Md_nameHere d 0 0 [.ref a] sh S13 (gL sh (fun x18 S17 => ∃ n20, sh[r16]? = some (4, n20) ∧ vp_in ((28 : Int32) + (S.1 r1 (2208 : Int32).toNatClampNeg)) n20 ∧ Sp l m_Md_ahead d 0 0 [.ref a] sh (aw_uL S17 r16 (((28 : Int32) + (S.1 r1 (2208 : Int32).toNatClampNeg) : Int32).toNatClampNeg) x18) (gV sh (fun S22 => Sp l m_Md_wantWord d 0 0 [.ref a, .float 2, .int 4] sh S22 (gI sh (fun x24 S23 => ((x24 = 0 → P 0 S23) ∧ (¬ x24 = 0 → Sp l m_Md_number d 0 0 [.ref a, .int ((2218 : Int32) + (S.1 r1 (2208 : Int32).toNatClampNeg)), .int 0, .int 5] sh S23 (gI sh (fun x27 S26 => ((¬ x27 = 0 → ∃ r29, S26.2.2 a 0 = some r29 ∧ ∃ n31, sh[r29]? = some (3, n31) ∧ vp_in ((2225 : Int32) + (S.1 r1 (2208 : Int32).toNatClampNeg)) n31 ∧ vp_in 2208 n31 ∧ vp_in 2208 n31 ∧ P 1 (aw_uI (aw_uI S26 r29 (((2225 : Int32) + (S.1 r1 (2208 : Int32).toNatClampNeg) : Int32).toNatClampNeg) (S.1 r1 (2208 : Int32).toNatClampNeg)) r29 ((2208 : Int32).toNatClampNeg) (((aw_uI S26 r29 (((2225 : Int32) + (S.1 r1 (2208 : Int32).toNatClampNeg) : Int32).toNatClampNeg) (S.1 r1 (2208 : Int32).toNatClampNeg)).1 r29 (2208 : Int32).toNatClampNeg) + (1 : Int32)))) ∧ (x27 = 0 → P 0 S26))))))))))))) ∧ (¬ x14 = (-1) → Sp l m_Md_fails d 0 0 [.ref a, .int 3] sh S13 (gI sh (fun x36 S35 => ((x36 = 0 ∨ x36 = 1) ∧ P x36 S35)))))))) ∧ (x11 = 0 → Sp l m_Md_fails d 0 0 [.ref a, .int 2] sh S10 (gI sh (fun x39 S38 => ((x39 = 0 ∨ x39 = 1) ∧ P x39 S38)))))))))) ∧ ((S.1 r1 (2208 : Int32).toNatClampNeg) = 7 → Sp l m_Md_fails d 0 0 [.ref a, .int 6] sh S5 (gI sh (fun x42 S41 => ((x42 = 0 ∨ x42 = 1) ∧ P x42 S41)))))) ∧ (¬ x6 = 0 → Sp l m_Md_fails d 0 0 [.ref a, .int 5] sh S5 (gI sh (fun x45 S44 => ((x45 = 0 ∨ x45 = 1) ∧ P x45 S44)))))))) : Sp l m_Md_aDancer (d + 1) 0 0 [.ref a] sh S (gI sh P) := by
  refine Sp.of k_Md_aDancer (ls := [.ref a, .null]) rfl (Nat.le_of_ble_eq_true rfl) ?_
  refine r_aload_n (pc := 0) d_Md_aDancer_0 (x := a) rfl ?_
  obtain ⟨r1, er1, h⟩ := h
  refine r_getR (pc := 1) d_Md_aDancer_1 f_Md_7 sa (Or.inr ⟨_, rfl⟩) (r := r1) er1 ?_
  refine r_sipush (pc := 4) d_Md_aDancer_4 (v := 2208) (by decide) ?_
  obtain ⟨n3, s2, h⟩ := h
  obtain ⟨g4, h⟩ := h
  refine r_iald (pc := 7) d_Md_aDancer_7 s2 g4 ?_
  refine r_istore_n (pc := 8) (hk := rfl) (hd := d_Md_aDancer_8) (hi := by decide) (ls2 := [.ref a, .int (S.1 r1 (2208 : Int32).toNatClampNeg)]) (h2 := rfl) ?_
  refine r_aload_n (pc := 9) d_Md_aDancer_9 (x := a) rfl ?_
  refine r_aload_n (pc := 10) d_Md_aDancer_10 (x := a) rfl ?_
  refine r_getI (pc := 11) d_Md_aDancer_11 f_Md_238 sa rfl ?_
  refine r_iconst (pc := 14) d_Md_aDancer_14 (v := 3) (by decide) ?_
  refine r_callV (pc := 15) (k := a) (As := [.int (S.1 a 20), .int 3]) (rest := []) (mc' := 0) (ms' := 0) lk_Md_241 in_Md_isIn se_Md_isIn sa rfl d_Md_aDancer_15 k_Md_isIn rfl rfl (Nat.le_of_ble_eq_true rfl) (by decide) (by decide) (Sp.mono h ?_)
  rintro rS5 shS5 S5 ⟨qS5, x6, uS5, h⟩
  subst uS5
  rw [qS5]
  refine r_if_eq (pc := 18) d_Md_aDancer_18 (tgt := 27) (by decide) (fun c7 => ?_) (fun c7 => ?_)
  · replace h := h.1 c7
    refine r_iload_n (pc := 27) d_Md_aDancer_27 (x := (S.1 r1 (2208 : Int32).toNatClampNeg)) rfl ?_
    refine r_bipush (pc := 28) d_Md_aDancer_28 (v := 7) (by decide) ?_
    refine r_icmp_ne (pc := 30) d_Md_aDancer_30 (tgt := 40) (by decide) (fun c8 => ?_) (fun c8 => ?_)
    · replace h := h.1 c8
      refine r_aload_n (pc := 40) d_Md_aDancer_40 (x := a) rfl ?_
      refine r_callV (pc := 41) (k := a) (As := []) (rest := []) (mc' := 0) (ms' := 0) lk_Md_194 in_Md_ahead se_Md_ahead sa rfl d_Md_aDancer_41 k_Md_ahead rfl rfl (Nat.le_of_ble_eq_true rfl) (by decide) (by decide) (Sp.mono h ?_)
      rintro rS9 shS9 S9 ⟨qS9, uS9, h⟩
      subst uS9
      rw [qS9]
      refine r_aload_n (pc := 44) d_Md_aDancer_44 (x := a) rfl ?_
      refine r_ldcS (pc := 45) d_Md_aDancer_45 (w := 2) (by decide) ?_
      refine r_callV (pc := 47) (k := a) (As := [.float 2]) (rest := []) (mc' := 0) (ms' := 0) lk_Md_246 in_Md_isName se_Md_isName sa rfl d_Md_aDancer_47 k_Md_isName rfl rfl (Nat.le_of_ble_eq_true rfl) (by decide) (by decide) (Sp.mono h ?_)
      rintro rS10 shS10 S10 ⟨qS10, x11, uS10, h⟩
      subst uS10
      rw [qS10]
      refine r_if_ne (pc := 50) d_Md_aDancer_50 (tgt := 59) (by decide) (fun c12 => ?_) (fun c12 => ?_)
      · replace h := h.1 c12
        refine r_aload_n (pc := 59) d_Md_aDancer_59 (x := a) rfl ?_
        refine r_bipush (pc := 60) d_Md_aDancer_60 (v := 28) (by decide) ?_
        refine r_iload_n (pc := 62) d_Md_aDancer_62 (x := (S.1 r1 (2208 : Int32).toNatClampNeg)) rfl ?_
        refine r_callV (pc := 63) (k := a) (As := [.int 28, .int (S.1 r1 (2208 : Int32).toNatClampNeg)]) (rest := []) (mc' := 0) (ms' := 0) lk_Md_250 in_Md_findHere se_Md_findHere sa rfl d_Md_aDancer_63 k_Md_findHere rfl rfl (Nat.le_of_ble_eq_true rfl) (by decide) (by decide) (Sp.mono h ?_)
        rintro rS13 shS13 S13 ⟨qS13, x14, uS13, h⟩
        subst uS13
        rw [qS13]
        refine r_iconst (pc := 66) d_Md_aDancer_66 (v := (-1)) (by decide) ?_
        refine r_icmp_eq (pc := 67) d_Md_aDancer_67 (tgt := 76) (by decide) (fun c15 => ?_) (fun c15 => ?_)
        · replace h := h.1 c15
          refine r_aload_n (pc := 76) d_Md_aDancer_76 (x := a) rfl ?_
          obtain ⟨r16, er16, h⟩ := h
          refine r_getR (pc := 77) d_Md_aDancer_77 f_Md_13 sa (Or.inr ⟨_, rfl⟩) (r := r16) er16 ?_
          refine r_bipush (pc := 80) d_Md_aDancer_80 (v := 28) (by decide) ?_
          refine r_iload_n (pc := 82) d_Md_aDancer_82 (x := (S.1 r1 (2208 : Int32).toNatClampNeg)) rfl ?_
          refine r_iadd (pc := 83) d_Md_aDancer_83 ?_
          refine r_aload_n (pc := 84) d_Md_aDancer_84 (x := a) rfl ?_
          refine r_callV (pc := 85) (k := a) (As := []) (rest := [.int ((28 : Int32) + (S.1 r1 (2208 : Int32).toNatClampNeg)), .ref r16]) (mc' := 0) (ms' := 0) lk_Md_207 in_Md_nameHere se_Md_nameHere sa rfl d_Md_aDancer_85 k_Md_nameHere rfl rfl (Nat.le_of_ble_eq_true rfl) (by decide) (by decide) (Sp.mono h ?_)
          rintro rS17 shS17 S17 ⟨qS17, x18, uS17, h⟩
          subst uS17
          rw [qS17]
          obtain ⟨n20, s19, h⟩ := h
          obtain ⟨g21, h⟩ := h
          refine r_last (pc := 88) d_Md_aDancer_88 s19 g21 ?_
          refine r_aload_n (pc := 89) d_Md_aDancer_89 (x := a) rfl ?_
          refine r_callV (pc := 90) (k := a) (As := []) (rest := []) (mc' := 0) (ms' := 0) lk_Md_194 in_Md_ahead se_Md_ahead sa rfl d_Md_aDancer_90 k_Md_ahead rfl rfl (Nat.le_of_ble_eq_true rfl) (by decide) (by decide) (Sp.mono h ?_)
          rintro rS22 shS22 S22 ⟨qS22, uS22, h⟩
          subst uS22
          rw [qS22]
          refine r_aload_n (pc := 93) d_Md_aDancer_93 (x := a) rfl ?_
          refine r_ldcS (pc := 94) d_Md_aDancer_94 (w := 2) (by decide) ?_
          refine r_iconst (pc := 96) d_Md_aDancer_96 (v := 4) (by decide) ?_
          refine r_callV (pc := 97) (k := a) (As := [.float 2, .int 4]) (rest := []) (mc' := 0) (ms' := 0) lk_Md_253 in_Md_wantWord se_Md_wantWord sa rfl d_Md_aDancer_97 k_Md_wantWord rfl rfl (Nat.le_of_ble_eq_true rfl) (by decide) (by decide) (Sp.mono h ?_)
          rintro rS23 shS23 S23 ⟨qS23, x24, uS23, h⟩
          subst uS23
          rw [qS23]
          refine r_if_eq (pc := 100) d_Md_aDancer_100 (tgt := 117) (by decide) (fun c25 => ?_) (fun c25 => ?_)
          · replace h := h.1 c25
            refine r_iconst (pc := 117) d_Md_aDancer_117 (v := 0) (by decide) ?_
            exact r_zreturn (pc := 118) d_Md_aDancer_118 (v := 0) rfl (by decide) rfl (Nat.le_refl _) ⟨rfl, _, rfl, h⟩
          · replace h := h.2 c25
            refine r_aload_n (pc := 103) d_Md_aDancer_103 (x := a) rfl ?_
            refine r_sipush (pc := 104) d_Md_aDancer_104 (v := 2218) (by decide) ?_
            refine r_iload_n (pc := 107) d_Md_aDancer_107 (x := (S.1 r1 (2208 : Int32).toNatClampNeg)) rfl ?_
            refine r_iadd (pc := 108) d_Md_aDancer_108 ?_
            refine r_iconst (pc := 109) d_Md_aDancer_109 (v := 0) (by decide) ?_
            refine r_iconst (pc := 110) d_Md_aDancer_110 (v := 5) (by decide) ?_
            refine r_callV (pc := 111) (k := a) (As := [.int ((2218 : Int32) + (S.1 r1 (2208 : Int32).toNatClampNeg)), .int 0, .int 5]) (rest := []) (mc' := 0) (ms' := 0) lk_Md_257 in_Md_number se_Md_number sa rfl d_Md_aDancer_111 k_Md_number rfl rfl (Nat.le_of_ble_eq_true rfl) (by decide) (by decide) (Sp.mono h ?_)
            rintro rS26 shS26 S26 ⟨qS26, x27, uS26, h⟩
            subst uS26
            rw [qS26]
            refine r_if_ne (pc := 114) d_Md_aDancer_114 (tgt := 119) (by decide) (fun c28 => ?_) (fun c28 => ?_)
            · replace h := h.1 c28
              refine r_aload_n (pc := 119) d_Md_aDancer_119 (x := a) rfl ?_
              obtain ⟨r29, er29, h⟩ := h
              refine r_getR (pc := 120) d_Md_aDancer_120 f_Md_7 sa (Or.inr ⟨_, rfl⟩) (r := r29) er29 ?_
              refine r_sipush (pc := 123) d_Md_aDancer_123 (v := 2225) (by decide) ?_
              refine r_iload_n (pc := 126) d_Md_aDancer_126 (x := (S.1 r1 (2208 : Int32).toNatClampNeg)) rfl ?_
              refine r_iadd (pc := 127) d_Md_aDancer_127 ?_
              refine r_iload_n (pc := 128) d_Md_aDancer_128 (x := (S.1 r1 (2208 : Int32).toNatClampNeg)) rfl ?_
              obtain ⟨n31, s30, h⟩ := h
              obtain ⟨g32, h⟩ := h
              refine r_iast (pc := 129) d_Md_aDancer_129 s30 g32 ?_
              refine r_aload_n (pc := 130) d_Md_aDancer_130 (x := a) rfl ?_
              refine r_getR (pc := 131) d_Md_aDancer_131 f_Md_7 sa (Or.inr ⟨_, rfl⟩) (r := r29) er29 ?_
              refine r_sipush (pc := 134) d_Md_aDancer_134 (v := 2208) (by decide) ?_
              refine r_dup2 (pc := 137) d_Md_aDancer_137 rfl rfl ?_
              obtain ⟨g33, h⟩ := h
              refine r_iald (pc := 138) d_Md_aDancer_138 s30 g33 ?_
              refine r_iconst (pc := 139) d_Md_aDancer_139 (v := 1) (by decide) ?_
              refine r_iadd (pc := 140) d_Md_aDancer_140 ?_
              obtain ⟨g34, h⟩ := h
              refine r_iast (pc := 141) d_Md_aDancer_141 s30 g34 ?_
              refine r_iconst (pc := 142) d_Md_aDancer_142 (v := 1) (by decide) ?_
              exact r_zreturn (pc := 143) d_Md_aDancer_143 (v := 1) rfl (by decide) rfl (Nat.le_refl _) ⟨rfl, _, rfl, h⟩
            · replace h := h.2 c28
              refine r_iconst (pc := 117) d_Md_aDancer_117 (v := 0) (by decide) ?_
              exact r_zreturn (pc := 118) d_Md_aDancer_118 (v := 0) rfl (by decide) rfl (Nat.le_refl _) ⟨rfl, _, rfl, h⟩
        · replace h := h.2 c15
          refine r_aload_n (pc := 70) d_Md_aDancer_70 (x := a) rfl ?_
          refine r_iconst (pc := 71) d_Md_aDancer_71 (v := 3) (by decide) ?_
          refine r_callV (pc := 72) (k := a) (As := [.int 3]) (rest := []) (mc' := 0) (ms' := 0) lk_Md_200 in_Md_fails se_Md_fails sa rfl d_Md_aDancer_72 k_Md_fails rfl rfl (Nat.le_of_ble_eq_true rfl) (by decide) (by decide) (Sp.mono h ?_)
          rintro rS35 shS35 S35 ⟨qS35, x36, uS35, h⟩
          subst uS35
          rw [qS35]
          obtain ⟨g37, h⟩ := h
          exact r_zreturn (pc := 75) d_Md_aDancer_75 rfl (aw_nb g37) rfl (Nat.le_refl _) ⟨rfl, _, rfl, h⟩
      · replace h := h.2 c12
        refine r_aload_n (pc := 53) d_Md_aDancer_53 (x := a) rfl ?_
        refine r_iconst (pc := 54) d_Md_aDancer_54 (v := 2) (by decide) ?_
        refine r_callV (pc := 55) (k := a) (As := [.int 2]) (rest := []) (mc' := 0) (ms' := 0) lk_Md_200 in_Md_fails se_Md_fails sa rfl d_Md_aDancer_55 k_Md_fails rfl rfl (Nat.le_of_ble_eq_true rfl) (by decide) (by decide) (Sp.mono h ?_)
        rintro rS38 shS38 S38 ⟨qS38, x39, uS38, h⟩
        subst uS38
        rw [qS38]
        obtain ⟨g40, h⟩ := h
        exact r_zreturn (pc := 58) d_Md_aDancer_58 rfl (aw_nb g40) rfl (Nat.le_refl _) ⟨rfl, _, rfl, h⟩
    · replace h := h.2 c8
      refine r_aload_n (pc := 33) d_Md_aDancer_33 (x := a) rfl ?_
      refine r_bipush (pc := 34) d_Md_aDancer_34 (v := 6) (by decide) ?_
      refine r_callV (pc := 36) (k := a) (As := [.int 6]) (rest := []) (mc' := 0) (ms' := 0) lk_Md_200 in_Md_fails se_Md_fails sa rfl d_Md_aDancer_36 k_Md_fails rfl rfl (Nat.le_of_ble_eq_true rfl) (by decide) (by decide) (Sp.mono h ?_)
      rintro rS41 shS41 S41 ⟨qS41, x42, uS41, h⟩
      subst uS41
      rw [qS41]
      obtain ⟨g43, h⟩ := h
      exact r_zreturn (pc := 39) d_Md_aDancer_39 rfl (aw_nb g43) rfl (Nat.le_refl _) ⟨rfl, _, rfl, h⟩
  · replace h := h.2 c7
    refine r_aload_n (pc := 21) d_Md_aDancer_21 (x := a) rfl ?_
    refine r_iconst (pc := 22) d_Md_aDancer_22 (v := 5) (by decide) ?_
    refine r_callV (pc := 23) (k := a) (As := [.int 5]) (rest := []) (mc' := 0) (ms' := 0) lk_Md_200 in_Md_fails se_Md_fails sa rfl d_Md_aDancer_23 k_Md_fails rfl rfl (Nat.le_of_ble_eq_true rfl) (by decide) (by decide) (Sp.mono h ?_)
    rintro rS44 shS44 S44 ⟨qS44, x45, uS44, h⟩
    subst uS44
    rw [qS44]
    obtain ⟨g46, h⟩ := h
    exact r_zreturn (pc := 26) d_Md_aDancer_26 rfl (aw_nb g46) rfl (Nat.le_refl _) ⟨rfl, _, rfl, h⟩
set_option maxRecDepth 4000 in
theorem e_Md_isName {l : Launch} {d : Nat} {sh : aw_SH} {S : aw_S} {P : Int32 → aw_S → Prop} {a : Nat} {p0 : UInt32} (sa : sh[a]? = some (0, 11)) (hp0 : p0 = 1 ∨ p0 = 2) (h : ((¬ (S.1 a 12) = 2 → P 0 S) ∧ ((S.1 a 12) = 2 → ((8 < ((S.1 a 14) - (S.1 a 13)) → P 0 S) ∧ (¬ 8 < ((S.1 a 14) - (S.1 a 13)) → Sp l m_Md_inWords d 0 0 [.ref a, .float p0] sh S (gI sh (fun x4 S3 => ((¬ x4 = (-1) → P 0 S3) ∧ (x4 = (-1) → P 1 S3))))))))) : Sp l m_Md_isName (d + 1) 0 0 [.ref a, .float p0] sh S (gI sh P) := by
  refine Sp.of k_Md_isName (ls := [.ref a, .float p0]) rfl (Nat.le_of_ble_eq_true rfl) ?_
  refine r_aload_n (pc := 0) d_Md_isName_0 (x := a) rfl ?_
  refine r_getI (pc := 1) d_Md_isName_1 f_Md_163 sa rfl ?_
  refine r_iconst (pc := 4) d_Md_isName_4 (v := 2) (by decide) ?_
  refine r_icmp_ne (pc := 5) d_Md_isName_5 (tgt := 35) (by decide) (fun c1 => ?_) (fun c1 => ?_)
  · replace h := h.1 c1
    refine r_iconst (pc := 35) d_Md_isName_35 (v := 0) (by decide) ?_
    exact r_zreturn (pc := 36) d_Md_isName_36 (v := 0) rfl (by decide) rfl (Nat.le_refl _) ⟨rfl, _, rfl, h⟩
  · replace h := h.2 c1
    refine r_aload_n (pc := 8) d_Md_isName_8 (x := a) rfl ?_
    refine r_getI (pc := 9) d_Md_isName_9 f_Md_151 sa rfl ?_
    refine r_aload_n (pc := 12) d_Md_isName_12 (x := a) rfl ?_
    refine r_getI (pc := 13) d_Md_isName_13 f_Md_157 sa rfl ?_
    refine r_isub (pc := 16) d_Md_isName_16 ?_
    refine r_bipush (pc := 17) d_Md_isName_17 (v := 8) (by decide) ?_
    refine r_icmp_gt (pc := 19) d_Md_isName_19 (tgt := 35) (by decide) (fun c2 => ?_) (fun c2 => ?_)
    · replace h := h.1 c2
      refine r_iconst (pc := 35) d_Md_isName_35 (v := 0) (by decide) ?_
      exact r_zreturn (pc := 36) d_Md_isName_36 (v := 0) rfl (by decide) rfl (Nat.le_refl _) ⟨rfl, _, rfl, h⟩
    · replace h := h.2 c2
      refine r_aload_n (pc := 22) d_Md_isName_22 (x := a) rfl ?_
      refine r_aload_nX (pc := 23) d_Md_isName_23 (x := p0) rfl ?_
      refine r_callV (pc := 24) (k := a) (As := [.float p0]) (rest := []) (mc' := 0) (ms' := 0) lk_Md_203 in_Md_inWords se_Md_inWords sa rfl d_Md_isName_24 k_Md_inWords rfl rfl (Nat.le_of_ble_eq_true rfl) (by decide) (by decide) (Sp.mono h ?_)
      rintro rS3 shS3 S3 ⟨qS3, x4, uS3, h⟩
      subst uS3
      rw [qS3]
      refine r_iconst (pc := 27) d_Md_isName_27 (v := (-1)) (by decide) ?_
      refine r_icmp_ne (pc := 28) d_Md_isName_28 (tgt := 35) (by decide) (fun c5 => ?_) (fun c5 => ?_)
      · replace h := h.1 c5
        refine r_iconst (pc := 35) d_Md_isName_35 (v := 0) (by decide) ?_
        exact r_zreturn (pc := 36) d_Md_isName_36 (v := 0) rfl (by decide) rfl (Nat.le_refl _) ⟨rfl, _, rfl, h⟩
      · replace h := h.2 c5
        refine r_iconst (pc := 31) d_Md_isName_31 (v := 1) (by decide) ?_
        refine r_goto (pc := 32) d_Md_isName_32 (tgt := 36) (by decide) ?_
        exact r_zreturn (pc := 36) d_Md_isName_36 (v := 1) rfl (by decide) rfl (Nat.le_refl _) ⟨rfl, _, rfl, h⟩
set_option maxRecDepth 4000 in
theorem e_Md_findHere {l : Launch} {d : Nat} {sh : aw_SH} {S : aw_S} {P : Int32 → aw_S → Prop} {a : Nat} {p0 : Int32} {p1 : Int32} (sa : sh[a]? = some (0, 11)) (h : AW l m_Md_findHere (d + 1) 0 0 (gI sh P) 0 0 2 [.ref a, .int p0, .int p1, .int 0] [] sh S) : Sp l m_Md_findHere (d + 1) 0 0 [.ref a, .int p0, .int p1] sh S (gI sh P) := by
  refine Sp.of k_Md_findHere (ls := [.ref a, .int p0, .int p1, .null]) rfl (Nat.le_of_ble_eq_true rfl) ?_
  refine r_iconst (pc := 0) d_Md_findHere_0 (v := 0) (by decide) ?_
  refine r_istore_n (pc := 1) (hk := rfl) (hd := d_Md_findHere_1) (hi := by decide) (ls2 := [.ref a, .int p0, .int p1, .int 0]) (h2 := rfl) ?_
  exact h
set_option maxRecDepth 4000 in
theorem s_Md_findHere_2 {l : Launch} {d : Nat} {sh : aw_SH} {S : aw_S} {P : Int32 → aw_S → Prop} {a : Nat} {i1 : Int32} {i2 : Int32} {i3 : Int32} (sa : sh[a]? = some (0, 11)) (h : ((i2 ≤ i3 → P (-1) S) ∧ (¬ i2 ≤ i3 → ∃ r2, S.2.2 a 1 = some r2 ∧ ∃ n4, sh[r2]? = some (4, n4) ∧ vp_in (i1 + i3) n4 ∧ Sp l m_Md_nameHere d 0 0 [.ref a] sh S (gL sh (fun x7 S6 => ((¬ (lg_cmp (S.2.1 r2 (i1 + i3 : Int32).toNatClampNeg) x7) = 0 → AW l m_Md_findHere (d + 1) 0 0 (gI sh P) 0 0 2 [.ref a, .int i1, .int i2, .int (i3 + 1)] [] sh S6) ∧ ((lg_cmp (S.2.1 r2 (i1 + i3 : Int32).toNatClampNeg) x7) = 0 → P i3 S6))))))) : AW l m_Md_findHere (d + 1) 0 0 (gI sh P) 0 0 2 [.ref a, .int i1, .int i2, .int i3] [] sh S := by
  refine r_iload_n (pc := 2) d_Md_findHere_2 (x := i3) rfl ?_
  refine r_iload_n (pc := 3) d_Md_findHere_3 (x := i2) rfl ?_
  refine r_icmp_ge (pc := 4) d_Md_findHere_4 (tgt := 31) (by decide) (fun c1 => ?_) (fun c1 => ?_)
  · replace h := h.1 c1
    refine r_iconst (pc := 31) d_Md_findHere_31 (v := (-1)) (by decide) ?_
    exact r_ireturn (pc := 32) d_Md_findHere_32 rfl rfl (Nat.le_refl _) ⟨rfl, _, rfl, h⟩
  · replace h := h.2 c1
    refine r_aload_n (pc := 7) d_Md_findHere_7 (x := a) rfl ?_
    obtain ⟨r2, er2, h⟩ := h
    refine r_getR (pc := 8) d_Md_findHere_8 f_Md_13 sa (Or.inr ⟨_, rfl⟩) (r := r2) er2 ?_
    refine r_iload_n (pc := 11) d_Md_findHere_11 (x := i1) rfl ?_
    refine r_iload_n (pc := 12) d_Md_findHere_12 (x := i3) rfl ?_
    refine r_iadd (pc := 13) d_Md_findHere_13 ?_
    obtain ⟨n4, s3, h⟩ := h
    obtain ⟨g5, h⟩ := h
    refine r_lald (pc := 14) d_Md_findHere_14 s3 g5 ?_
    refine r_aload_n (pc := 15) d_Md_findHere_15 (x := a) rfl ?_
    refine r_callV (pc := 16) (k := a) (As := []) (rest := [.long (S.2.1 r2 (i1 + i3 : Int32).toNatClampNeg)]) (mc' := 0) (ms' := 0) lk_Md_207 in_Md_nameHere se_Md_nameHere sa rfl d_Md_findHere_16 k_Md_nameHere rfl rfl (Nat.le_of_ble_eq_true rfl) (by decide) (by decide) (Sp.mono h ?_)
    rintro rS6 shS6 S6 ⟨qS6, x7, uS6, h⟩
    subst uS6
    rw [qS6]
    refine r_lcmp (pc := 19) d_Md_findHere_19 ?_
    refine r_if_ne (pc := 20) d_Md_findHere_20 (tgt := 25) (by decide) (fun c8 => ?_) (fun c8 => ?_)
    · replace h := h.1 c8
      refine r_iinc (pc := 25) d_Md_findHere_25 (hi := by decide) (x := i3) rfl (v := i3 + 1) rfl (ls2 := [.ref a, .int i1, .int i2, .int (i3 + 1)]) rfl ?_
      refine r_goto (pc := 28) d_Md_findHere_28 (tgt := 2) (by decide) ?_
      exact h
    · replace h := h.2 c8
      refine r_iload_n (pc := 23) d_Md_findHere_23 (x := i3) rfl ?_
      exact r_ireturn (pc := 24) d_Md_findHere_24 rfl rfl (Nat.le_refl _) ⟨rfl, _, rfl, h⟩
set_option maxRecDepth 4000 in
theorem e_Md_nameHere {l : Launch} {d : Nat} {sh : aw_SH} {S : aw_S} {P : Int64 → aw_S → Prop} {a : Nat} (sa : sh[a]? = some (0, 11)) (h : AW l m_Md_nameHere (d + 1) 0 0 (gL sh P) 0 0 7 [.ref a, .long 0, .null, .int (S.1 a 13)] [] sh S) : Sp l m_Md_nameHere (d + 1) 0 0 [.ref a] sh S (gL sh P) := by
  refine Sp.of k_Md_nameHere (ls := [.ref a, .null, .null, .null]) rfl (Nat.le_of_ble_eq_true rfl) ?_
  refine r_lconst (pc := 0) d_Md_nameHere_0 (v := 0) (by decide) ?_
  refine r_lstore_n (pc := 1) (hk := rfl) (hd := d_Md_nameHere_1) (hi := by decide) (ls2 := [.ref a, .long 0, .null, .null]) (h2 := rfl) ?_
  refine r_aload_n (pc := 2) d_Md_nameHere_2 (x := a) rfl ?_
  refine r_getI (pc := 3) d_Md_nameHere_3 f_Md_157 sa rfl ?_
  refine r_istore_n (pc := 6) (hk := rfl) (hd := d_Md_nameHere_6) (hi := by decide) (ls2 := [.ref a, .long 0, .null, .int (S.1 a 13)]) (h2 := rfl) ?_
  exact h
set_option maxRecDepth 4000 in
theorem s_Md_nameHere_7 {l : Launch} {d : Nat} {sh : aw_SH} {S : aw_S} {P : Int64 → aw_S → Prop} {a : Nat} {i1 : Int64} {i3 : Int32} (sa : sh[a]? = some (0, 11)) (h : (((S.1 a 14) ≤ i3 → P i1 S) ∧ (¬ (S.1 a 14) ≤ i3 → Sp l m_Md_byteAt d 0 0 [.ref a, .int i3] sh S (gI sh (fun x3 S2 => AW l m_Md_nameHere (d + 1) 0 0 (gL sh P) 0 0 7 [.ref a, .long ((i1 <<< (((8) : Int32).toInt64 &&& 63)) ||| x3.toInt64), .null, .int (i3 + 1)] [] sh S2))))) : AW l m_Md_nameHere (d + 1) 0 0 (gL sh P) 0 0 7 [.ref a, .long i1, .null, .int i3] [] sh S := by
  refine r_iload_n (pc := 7) d_Md_nameHere_7 (x := i3) rfl ?_
  refine r_aload_n (pc := 8) d_Md_nameHere_8 (x := a) rfl ?_
  refine r_getI (pc := 9) d_Md_nameHere_9 f_Md_151 sa rfl ?_
  refine r_icmp_ge (pc := 12) d_Md_nameHere_12 (tgt := 33) (by decide) (fun c1 => ?_) (fun c1 => ?_)
  · replace h := h.1 c1
    refine r_lload_n (pc := 33) d_Md_nameHere_33 (x := i1) rfl ?_
    exact r_lreturn (pc := 34) d_Md_nameHere_34 rfl rfl (Nat.le_refl _) ⟨rfl, _, rfl, h⟩
  · replace h := h.2 c1
    refine r_lload_n (pc := 15) d_Md_nameHere_15 (x := i1) rfl ?_
    refine r_bipush (pc := 16) d_Md_nameHere_16 (v := 8) (by decide) ?_
    refine r_lshl (pc := 18) d_Md_nameHere_18 ?_
    refine r_aload_n (pc := 19) d_Md_nameHere_19 (x := a) rfl ?_
    refine r_iload_n (pc := 20) d_Md_nameHere_20 (x := i3) rfl ?_
    refine r_callV (pc := 21) (k := a) (As := [.int i3]) (rest := [.long (i1 <<< (((8) : Int32).toInt64 &&& 63))]) (mc' := 0) (ms' := 0) lk_Md_154 in_Md_byteAt se_Md_byteAt sa rfl d_Md_nameHere_21 k_Md_byteAt rfl rfl (Nat.le_of_ble_eq_true rfl) (by decide) (by decide) (Sp.mono h ?_)
    rintro rS2 shS2 S2 ⟨qS2, x3, uS2, h⟩
    subst uS2
    rw [qS2]
    refine r_i2l (pc := 24) d_Md_nameHere_24 ?_
    refine r_lor (pc := 25) d_Md_nameHere_25 ?_
    refine r_lstore_n (pc := 26) (hk := rfl) (hd := d_Md_nameHere_26) (hi := by decide) (ls2 := [.ref a, .long ((i1 <<< (((8) : Int32).toInt64 &&& 63)) ||| x3.toInt64), .null, .int i3]) (h2 := rfl) ?_
    refine r_iinc (pc := 27) d_Md_nameHere_27 (hi := by decide) (x := i3) rfl (v := i3 + 1) rfl (ls2 := [.ref a, .long ((i1 <<< (((8) : Int32).toInt64 &&& 63)) ||| x3.toInt64), .null, .int (i3 + 1)]) rfl ?_
    refine r_goto (pc := 30) d_Md_nameHere_30 (tgt := 7) (by decide) ?_
    exact h
set_option maxRecDepth 4000 in
theorem e_Md_wantWord {l : Launch} {d : Nat} {sh : aw_SH} {S : aw_S} {P : Int32 → aw_S → Prop} {a : Nat} {p0 : UInt32} {p1 : Int32} (sa : sh[a]? = some (0, 11)) (hp0 : p0 = 1 ∨ p0 = 2) (h : Sp l m_Md_inWords d 0 0 [.ref a, .float p0] sh S (gI sh (fun x2 S1 => ((x2 = p1 → Sp l m_Md_ahead d 0 0 [.ref a] sh S1 (gV sh (fun S4 => P 1 S4))) ∧ (¬ x2 = p1 → Sp l m_Md_fails d 0 0 [.ref a, .int 2] sh S1 (gI sh (fun x6 S5 => ((x6 = 0 ∨ x6 = 1) ∧ P x6 S5)))))))) : Sp l m_Md_wantWord (d + 1) 0 0 [.ref a, .float p0, .int p1] sh S (gI sh P) := by
  refine Sp.of k_Md_wantWord (ls := [.ref a, .float p0, .int p1]) rfl (Nat.le_of_ble_eq_true rfl) ?_
  refine r_aload_n (pc := 0) d_Md_wantWord_0 (x := a) rfl ?_
  refine r_aload_nX (pc := 1) d_Md_wantWord_1 (x := p0) rfl ?_
  refine r_callV (pc := 2) (k := a) (As := [.float p0]) (rest := []) (mc' := 0) (ms' := 0) lk_Md_203 in_Md_inWords se_Md_inWords sa rfl d_Md_wantWord_2 k_Md_inWords rfl rfl (Nat.le_of_ble_eq_true rfl) (by decide) (by decide) (Sp.mono h ?_)
  rintro rS1 shS1 S1 ⟨qS1, x2, uS1, h⟩
  subst uS1
  rw [qS1]
  refine r_iload_n (pc := 5) d_Md_wantWord_5 (x := p1) rfl ?_
  refine r_icmp_eq (pc := 6) d_Md_wantWord_6 (tgt := 15) (by decide) (fun c3 => ?_) (fun c3 => ?_)
  · replace h := h.1 c3
    refine r_aload_n (pc := 15) d_Md_wantWord_15 (x := a) rfl ?_
    refine r_callV (pc := 16) (k := a) (As := []) (rest := []) (mc' := 0) (ms' := 0) lk_Md_194 in_Md_ahead se_Md_ahead sa rfl d_Md_wantWord_16 k_Md_ahead rfl rfl (Nat.le_of_ble_eq_true rfl) (by decide) (by decide) (Sp.mono h ?_)
    rintro rS4 shS4 S4 ⟨qS4, uS4, h⟩
    subst uS4
    rw [qS4]
    refine r_iconst (pc := 19) d_Md_wantWord_19 (v := 1) (by decide) ?_
    exact r_zreturn (pc := 20) d_Md_wantWord_20 (v := 1) rfl (by decide) rfl (Nat.le_refl _) ⟨rfl, _, rfl, h⟩
  · replace h := h.2 c3
    refine r_aload_n (pc := 9) d_Md_wantWord_9 (x := a) rfl ?_
    refine r_iconst (pc := 10) d_Md_wantWord_10 (v := 2) (by decide) ?_
    refine r_callV (pc := 11) (k := a) (As := [.int 2]) (rest := []) (mc' := 0) (ms' := 0) lk_Md_200 in_Md_fails se_Md_fails sa rfl d_Md_wantWord_11 k_Md_fails rfl rfl (Nat.le_of_ble_eq_true rfl) (by decide) (by decide) (Sp.mono h ?_)
    rintro rS5 shS5 S5 ⟨qS5, x6, uS5, h⟩
    subst uS5
    rw [qS5]
    obtain ⟨g7, h⟩ := h
    exact r_zreturn (pc := 14) d_Md_wantWord_14 rfl (aw_nb g7) rfl (Nat.le_refl _) ⟨rfl, _, rfl, h⟩
set_option maxRecDepth 4000 in
theorem e_Md_number {l : Launch} {d : Nat} {sh : aw_SH} {S : aw_S} {P : Int32 → aw_S → Prop} {a : Nat} {p0 : Int32} {p1 : Int32} {p2 : Int32} (sa : sh[a]? = some (0, 11)) (h : (((S.1 a 12) = 3 → (((S.1 a 15) < p1 → Sp l m_Md_fails d 0 0 [.ref a, .int 4] sh S (gI sh (fun x4 S3 => ((x4 = 0 ∨ x4 = 1) ∧ P x4 S3)))) ∧ (¬ (S.1 a 15) < p1 → (((S.1 a 15) ≤ p2 → ∃ r7, S.2.2 a 0 = some r7 ∧ ∃ n9, sh[r7]? = some (3, n9) ∧ vp_in p0 n9 ∧ Sp l m_Md_ahead d 0 0 [.ref a] sh (aw_uI S r7 p0.toNatClampNeg (S.1 a 15)) (gV sh (fun S11 => P 1 S11))) ∧ (¬ (S.1 a 15) ≤ p2 → Sp l m_Md_fails d 0 0 [.ref a, .int 4] sh S (gI sh (fun x13 S12 => ((x13 = 0 ∨ x13 = 1) ∧ P x13 S12)))))))) ∧ (¬ (S.1 a 12) = 3 → Sp l m_Md_fails d 0 0 [.ref a, .int 2] sh S (gI sh (fun x16 S15 => ((x16 = 0 ∨ x16 = 1) ∧ P x16 S15)))))) : Sp l m_Md_number (d + 1) 0 0 [.ref a, .int p0, .int p1, .int p2] sh S (gI sh P) := by
  refine Sp.of k_Md_number (ls := [.ref a, .int p0, .int p1, .int p2]) rfl (Nat.le_of_ble_eq_true rfl) ?_
  refine r_aload_n (pc := 0) d_Md_number_0 (x := a) rfl ?_
  refine r_getI (pc := 1) d_Md_number_1 f_Md_163 sa rfl ?_
  refine r_iconst (pc := 4) d_Md_number_4 (v := 3) (by decide) ?_
  refine r_icmp_eq (pc := 5) d_Md_number_5 (tgt := 14) (by decide) (fun c1 => ?_) (fun c1 => ?_)
  · replace h := h.1 c1
    refine r_aload_n (pc := 14) d_Md_number_14 (x := a) rfl ?_
    refine r_getI (pc := 15) d_Md_number_15 f_Md_160 sa rfl ?_
    refine r_iload_n (pc := 18) d_Md_number_18 (x := p1) rfl ?_
    refine r_icmp_lt (pc := 19) d_Md_number_19 (tgt := 30) (by decide) (fun c2 => ?_) (fun c2 => ?_)
    · replace h := h.1 c2
      refine r_aload_n (pc := 30) d_Md_number_30 (x := a) rfl ?_
      refine r_iconst (pc := 31) d_Md_number_31 (v := 4) (by decide) ?_
      refine r_callV (pc := 32) (k := a) (As := [.int 4]) (rest := []) (mc' := 0) (ms' := 0) lk_Md_200 in_Md_fails se_Md_fails sa rfl d_Md_number_32 k_Md_fails rfl rfl (Nat.le_of_ble_eq_true rfl) (by decide) (by decide) (Sp.mono h ?_)
      rintro rS3 shS3 S3 ⟨qS3, x4, uS3, h⟩
      subst uS3
      rw [qS3]
      obtain ⟨g5, h⟩ := h
      exact r_zreturn (pc := 35) d_Md_number_35 rfl (aw_nb g5) rfl (Nat.le_refl _) ⟨rfl, _, rfl, h⟩
    · replace h := h.2 c2
      refine r_aload_n (pc := 22) d_Md_number_22 (x := a) rfl ?_
      refine r_getI (pc := 23) d_Md_number_23 f_Md_160 sa rfl ?_
      refine r_iload_n (pc := 26) d_Md_number_26 (x := p2) rfl ?_
      refine r_icmp_le (pc := 27) d_Md_number_27 (tgt := 36) (by decide) (fun c6 => ?_) (fun c6 => ?_)
      · replace h := h.1 c6
        refine r_aload_n (pc := 36) d_Md_number_36 (x := a) rfl ?_
        obtain ⟨r7, er7, h⟩ := h
        refine r_getR (pc := 37) d_Md_number_37 f_Md_7 sa (Or.inr ⟨_, rfl⟩) (r := r7) er7 ?_
        refine r_iload_n (pc := 40) d_Md_number_40 (x := p0) rfl ?_
        refine r_aload_n (pc := 41) d_Md_number_41 (x := a) rfl ?_
        refine r_getI (pc := 42) d_Md_number_42 f_Md_160 sa rfl ?_
        obtain ⟨n9, s8, h⟩ := h
        obtain ⟨g10, h⟩ := h
        refine r_iast (pc := 45) d_Md_number_45 s8 g10 ?_
        refine r_aload_n (pc := 46) d_Md_number_46 (x := a) rfl ?_
        refine r_callV (pc := 47) (k := a) (As := []) (rest := []) (mc' := 0) (ms' := 0) lk_Md_194 in_Md_ahead se_Md_ahead sa rfl d_Md_number_47 k_Md_ahead rfl rfl (Nat.le_of_ble_eq_true rfl) (by decide) (by decide) (Sp.mono h ?_)
        rintro rS11 shS11 S11 ⟨qS11, uS11, h⟩
        subst uS11
        rw [qS11]
        refine r_iconst (pc := 50) d_Md_number_50 (v := 1) (by decide) ?_
        exact r_zreturn (pc := 51) d_Md_number_51 (v := 1) rfl (by decide) rfl (Nat.le_refl _) ⟨rfl, _, rfl, h⟩
      · replace h := h.2 c6
        refine r_aload_n (pc := 30) d_Md_number_30 (x := a) rfl ?_
        refine r_iconst (pc := 31) d_Md_number_31 (v := 4) (by decide) ?_
        refine r_callV (pc := 32) (k := a) (As := [.int 4]) (rest := []) (mc' := 0) (ms' := 0) lk_Md_200 in_Md_fails se_Md_fails sa rfl d_Md_number_32 k_Md_fails rfl rfl (Nat.le_of_ble_eq_true rfl) (by decide) (by decide) (Sp.mono h ?_)
        rintro rS12 shS12 S12 ⟨qS12, x13, uS12, h⟩
        subst uS12
        rw [qS12]
        obtain ⟨g14, h⟩ := h
        exact r_zreturn (pc := 35) d_Md_number_35 rfl (aw_nb g14) rfl (Nat.le_refl _) ⟨rfl, _, rfl, h⟩
  · replace h := h.2 c1
    refine r_aload_n (pc := 8) d_Md_number_8 (x := a) rfl ?_
    refine r_iconst (pc := 9) d_Md_number_9 (v := 2) (by decide) ?_
    refine r_callV (pc := 10) (k := a) (As := [.int 2]) (rest := []) (mc' := 0) (ms' := 0) lk_Md_200 in_Md_fails se_Md_fails sa rfl d_Md_number_10 k_Md_fails rfl rfl (Nat.le_of_ble_eq_true rfl) (by decide) (by decide) (Sp.mono h ?_)
    rintro rS15 shS15 S15 ⟨qS15, x16, uS15, h⟩
    subst uS15
    rw [qS15]
    obtain ⟨g17, h⟩ := h
    exact r_zreturn (pc := 13) d_Md_number_13 rfl (aw_nb g17) rfl (Nat.le_refl _) ⟨rfl, _, rfl, h⟩
set_option maxRecDepth 4000 in
theorem e_Md_wantSign {l : Launch} {d : Nat} {sh : aw_SH} {S : aw_S} {P : Int32 → aw_S → Prop} {a : Nat} {p0 : Int32} (sa : sh[a]? = some (0, 11)) (h : Sp l m_Md_isSign d 0 0 [.ref a, .int p0] sh S (gI sh (fun x2 S1 => ((¬ x2 = 0 → Sp l m_Md_ahead d 0 0 [.ref a] sh S1 (gV sh (fun S4 => P 1 S4))) ∧ (x2 = 0 → Sp l m_Md_fails d 0 0 [.ref a, .int 2] sh S1 (gI sh (fun x6 S5 => ((x6 = 0 ∨ x6 = 1) ∧ P x6 S5)))))))) : Sp l m_Md_wantSign (d + 1) 0 0 [.ref a, .int p0] sh S (gI sh P) := by
  refine Sp.of k_Md_wantSign (ls := [.ref a, .int p0]) rfl (Nat.le_of_ble_eq_true rfl) ?_
  refine r_aload_n (pc := 0) d_Md_wantSign_0 (x := a) rfl ?_
  refine r_iload_n (pc := 1) d_Md_wantSign_1 (x := p0) rfl ?_
  refine r_callV (pc := 2) (k := a) (As := [.int p0]) (rest := []) (mc' := 0) (ms' := 0) lk_Md_197 in_Md_isSign se_Md_isSign sa rfl d_Md_wantSign_2 k_Md_isSign rfl rfl (Nat.le_of_ble_eq_true rfl) (by decide) (by decide) (Sp.mono h ?_)
  rintro rS1 shS1 S1 ⟨qS1, x2, uS1, h⟩
  subst uS1
  rw [qS1]
  refine r_if_ne (pc := 5) d_Md_wantSign_5 (tgt := 14) (by decide) (fun c3 => ?_) (fun c3 => ?_)
  · replace h := h.1 c3
    refine r_aload_n (pc := 14) d_Md_wantSign_14 (x := a) rfl ?_
    refine r_callV (pc := 15) (k := a) (As := []) (rest := []) (mc' := 0) (ms' := 0) lk_Md_194 in_Md_ahead se_Md_ahead sa rfl d_Md_wantSign_15 k_Md_ahead rfl rfl (Nat.le_of_ble_eq_true rfl) (by decide) (by decide) (Sp.mono h ?_)
    rintro rS4 shS4 S4 ⟨qS4, uS4, h⟩
    subst uS4
    rw [qS4]
    refine r_iconst (pc := 18) d_Md_wantSign_18 (v := 1) (by decide) ?_
    exact r_zreturn (pc := 19) d_Md_wantSign_19 (v := 1) rfl (by decide) rfl (Nat.le_refl _) ⟨rfl, _, rfl, h⟩
  · replace h := h.2 c3
    refine r_aload_n (pc := 8) d_Md_wantSign_8 (x := a) rfl ?_
    refine r_iconst (pc := 9) d_Md_wantSign_9 (v := 2) (by decide) ?_
    refine r_callV (pc := 10) (k := a) (As := [.int 2]) (rest := []) (mc' := 0) (ms' := 0) lk_Md_200 in_Md_fails se_Md_fails sa rfl d_Md_wantSign_10 k_Md_fails rfl rfl (Nat.le_of_ble_eq_true rfl) (by decide) (by decide) (Sp.mono h ?_)
    rintro rS5 shS5 S5 ⟨qS5, x6, uS5, h⟩
    subst uS5
    rw [qS5]
    obtain ⟨g7, h⟩ := h
    exact r_zreturn (pc := 13) d_Md_wantSign_13 rfl (aw_nb g7) rfl (Nat.le_refl _) ⟨rfl, _, rfl, h⟩
set_option maxRecDepth 4000 in
theorem e_Md_isSign {l : Launch} {d : Nat} {sh : aw_SH} {S : aw_S} {P : Int32 → aw_S → Prop} {a : Nat} {p0 : Int32} (sa : sh[a]? = some (0, 11)) (h : ((¬ (S.1 a 12) = 4 → P 0 S) ∧ ((S.1 a 12) = 4 → ((¬ (S.1 a 15) = p0 → P 0 S) ∧ ((S.1 a 15) = p0 → P 1 S))))) : Sp l m_Md_isSign (d + 1) 0 0 [.ref a, .int p0] sh S (gI sh P) := by
  refine Sp.of k_Md_isSign (ls := [.ref a, .int p0]) rfl (Nat.le_of_ble_eq_true rfl) ?_
  refine r_aload_n (pc := 0) d_Md_isSign_0 (x := a) rfl ?_
  refine r_getI (pc := 1) d_Md_isSign_1 f_Md_163 sa rfl ?_
  refine r_iconst (pc := 4) d_Md_isSign_4 (v := 4) (by decide) ?_
  refine r_icmp_ne (pc := 5) d_Md_isSign_5 (tgt := 20) (by decide) (fun c1 => ?_) (fun c1 => ?_)
  · replace h := h.1 c1
    refine r_iconst (pc := 20) d_Md_isSign_20 (v := 0) (by decide) ?_
    exact r_zreturn (pc := 21) d_Md_isSign_21 (v := 0) rfl (by decide) rfl (Nat.le_refl _) ⟨rfl, _, rfl, h⟩
  · replace h := h.2 c1
    refine r_aload_n (pc := 8) d_Md_isSign_8 (x := a) rfl ?_
    refine r_getI (pc := 9) d_Md_isSign_9 f_Md_160 sa rfl ?_
    refine r_iload_n (pc := 12) d_Md_isSign_12 (x := p0) rfl ?_
    refine r_icmp_ne (pc := 13) d_Md_isSign_13 (tgt := 20) (by decide) (fun c2 => ?_) (fun c2 => ?_)
    · replace h := h.1 c2
      refine r_iconst (pc := 20) d_Md_isSign_20 (v := 0) (by decide) ?_
      exact r_zreturn (pc := 21) d_Md_isSign_21 (v := 0) rfl (by decide) rfl (Nat.le_refl _) ⟨rfl, _, rfl, h⟩
    · replace h := h.2 c2
      refine r_iconst (pc := 16) d_Md_isSign_16 (v := 1) (by decide) ?_
      refine r_goto (pc := 17) d_Md_isSign_17 (tgt := 21) (by decide) ?_
      exact r_zreturn (pc := 21) d_Md_isSign_21 (v := 1) rfl (by decide) rfl (Nat.le_refl _) ⟨rfl, _, rfl, h⟩
set_option maxRecDepth 4000 in
theorem e_Md_aPass {l : Launch} {d : Nat} {sh : aw_SH} {S : aw_S} {P : Int32 → aw_S → Prop} {a : Nat} (sa : sh[a]? = some (0, 11)) (h : Sp l m_Md_ahead d 0 0 [.ref a] sh S (gV sh (fun S1 => Sp l m_Md_gapTo d 0 0 [.ref a, .int 2208, .int 2752] sh S1 (gI sh (fun x3 S2 => ((x3 = 0 → P 0 S2) ∧ (¬ x3 = 0 → Sp l m_Md_howTo d 0 0 [.ref a, .int ((2752 : Int32) + (1 : Int32))] sh S2 (gI sh (fun x6 S5 => ((¬ x6 = 0 → ∃ r8, S5.2.2 a 0 = some r8 ∧ ∃ n10, sh[r8]? = some (3, n10) ∧ vp_in 2752 n10 ∧ vp_in ((2752 : Int32) + (1 : Int32)) n10 ∧ Sp l m_Md_dances d 0 0 [.ref a, .int 2208, .int (S5.1 r8 (2752 : Int32).toNatClampNeg), .int (S5.1 r8 ((2752 : Int32) + (1 : Int32) : Int32).toNatClampNeg)] sh S5 (gI sh (fun x14 S13 => ((¬ x14 = 0 → Sp l m_Md_ahead d 0 0 [.ref a] sh S13 (gV sh (fun S16 => P 1 S16))) ∧ (x14 = 0 → Sp l m_Md_fails d 0 0 [.ref a, .int 5] sh S13 (gI sh (fun x18 S17 => ((x18 = 0 ∨ x18 = 1) ∧ P x18 S17)))))))) ∧ (x6 = 0 → P 0 S5))))))))))) : Sp l m_Md_aPass (d + 1) 0 0 [.ref a] sh S (gI sh P) := by
  refine Sp.of k_Md_aPass (ls := [.ref a, .null]) rfl (Nat.le_of_ble_eq_true rfl) ?_
  refine r_sipush (pc := 0) d_Md_aPass_0 (v := 2752) (by decide) ?_
  refine r_istore_n (pc := 3) (hk := rfl) (hd := d_Md_aPass_3) (hi := by decide) (ls2 := [.ref a, .int 2752]) (h2 := rfl) ?_
  refine r_aload_n (pc := 4) d_Md_aPass_4 (x := a) rfl ?_
  refine r_callV (pc := 5) (k := a) (As := []) (rest := []) (mc' := 0) (ms' := 0) lk_Md_194 in_Md_ahead se_Md_ahead sa rfl d_Md_aPass_5 k_Md_ahead rfl rfl (Nat.le_of_ble_eq_true rfl) (by decide) (by decide) (Sp.mono h ?_)
  rintro rS1 shS1 S1 ⟨qS1, uS1, h⟩
  subst uS1
  rw [qS1]
  refine r_aload_n (pc := 8) d_Md_aPass_8 (x := a) rfl ?_
  refine r_sipush (pc := 9) d_Md_aPass_9 (v := 2208) (by decide) ?_
  refine r_iload_n (pc := 12) d_Md_aPass_12 (x := 2752) rfl ?_
  refine r_callV (pc := 13) (k := a) (As := [.int 2208, .int 2752]) (rest := []) (mc' := 0) (ms' := 0) lk_Md_263 in_Md_gapTo se_Md_gapTo sa rfl d_Md_aPass_13 k_Md_gapTo rfl rfl (Nat.le_of_ble_eq_true rfl) (by decide) (by decide) (Sp.mono h ?_)
  rintro rS2 shS2 S2 ⟨qS2, x3, uS2, h⟩
  subst uS2
  rw [qS2]
  refine r_if_eq (pc := 16) d_Md_aPass_16 (tgt := 29) (by decide) (fun c4 => ?_) (fun c4 => ?_)
  · replace h := h.1 c4
    refine r_iconst (pc := 29) d_Md_aPass_29 (v := 0) (by decide) ?_
    exact r_zreturn (pc := 30) d_Md_aPass_30 (v := 0) rfl (by decide) rfl (Nat.le_refl _) ⟨rfl, _, rfl, h⟩
  · replace h := h.2 c4
    refine r_aload_n (pc := 19) d_Md_aPass_19 (x := a) rfl ?_
    refine r_iload_n (pc := 20) d_Md_aPass_20 (x := 2752) rfl ?_
    refine r_iconst (pc := 21) d_Md_aPass_21 (v := 1) (by decide) ?_
    refine r_iadd (pc := 22) d_Md_aPass_22 ?_
    refine r_callV (pc := 23) (k := a) (As := [.int ((2752 : Int32) + (1 : Int32))]) (rest := []) (mc' := 0) (ms' := 0) lk_Md_266 in_Md_howTo se_Md_howTo sa rfl d_Md_aPass_23 k_Md_howTo rfl rfl (Nat.le_of_ble_eq_true rfl) (by decide) (by decide) (Sp.mono h ?_)
    rintro rS5 shS5 S5 ⟨qS5, x6, uS5, h⟩
    subst uS5
    rw [qS5]
    refine r_if_ne (pc := 26) d_Md_aPass_26 (tgt := 31) (by decide) (fun c7 => ?_) (fun c7 => ?_)
    · replace h := h.1 c7
      refine r_aload_n (pc := 31) d_Md_aPass_31 (x := a) rfl ?_
      refine r_sipush (pc := 32) d_Md_aPass_32 (v := 2208) (by decide) ?_
      refine r_aload_n (pc := 35) d_Md_aPass_35 (x := a) rfl ?_
      obtain ⟨r8, er8, h⟩ := h
      refine r_getR (pc := 36) d_Md_aPass_36 f_Md_7 sa (Or.inr ⟨_, rfl⟩) (r := r8) er8 ?_
      refine r_iload_n (pc := 39) d_Md_aPass_39 (x := 2752) rfl ?_
      obtain ⟨n10, s9, h⟩ := h
      obtain ⟨g11, h⟩ := h
      refine r_iald (pc := 40) d_Md_aPass_40 s9 g11 ?_
      refine r_aload_n (pc := 41) d_Md_aPass_41 (x := a) rfl ?_
      refine r_getR (pc := 42) d_Md_aPass_42 f_Md_7 sa (Or.inr ⟨_, rfl⟩) (r := r8) er8 ?_
      refine r_iload_n (pc := 45) d_Md_aPass_45 (x := 2752) rfl ?_
      refine r_iconst (pc := 46) d_Md_aPass_46 (v := 1) (by decide) ?_
      refine r_iadd (pc := 47) d_Md_aPass_47 ?_
      obtain ⟨g12, h⟩ := h
      refine r_iald (pc := 48) d_Md_aPass_48 s9 g12 ?_
      refine r_callV (pc := 49) (k := a) (As := [.int 2208, .int (S5.1 r8 (2752 : Int32).toNatClampNeg), .int (S5.1 r8 ((2752 : Int32) + (1 : Int32) : Int32).toNatClampNeg)]) (rest := []) (mc' := 0) (ms' := 0) lk_Md_269 in_Md_dances se_Md_dances sa rfl d_Md_aPass_49 k_Md_dances rfl rfl (Nat.le_of_ble_eq_true rfl) (by decide) (by decide) (Sp.mono h ?_)
      rintro rS13 shS13 S13 ⟨qS13, x14, uS13, h⟩
      subst uS13
      rw [qS13]
      refine r_if_ne (pc := 52) d_Md_aPass_52 (tgt := 61) (by decide) (fun c15 => ?_) (fun c15 => ?_)
      · replace h := h.1 c15
        refine r_aload_n (pc := 61) d_Md_aPass_61 (x := a) rfl ?_
        refine r_callV (pc := 62) (k := a) (As := []) (rest := []) (mc' := 0) (ms' := 0) lk_Md_194 in_Md_ahead se_Md_ahead sa rfl d_Md_aPass_62 k_Md_ahead rfl rfl (Nat.le_of_ble_eq_true rfl) (by decide) (by decide) (Sp.mono h ?_)
        rintro rS16 shS16 S16 ⟨qS16, uS16, h⟩
        subst uS16
        rw [qS16]
        refine r_iconst (pc := 65) d_Md_aPass_65 (v := 1) (by decide) ?_
        exact r_zreturn (pc := 66) d_Md_aPass_66 (v := 1) rfl (by decide) rfl (Nat.le_refl _) ⟨rfl, _, rfl, h⟩
      · replace h := h.2 c15
        refine r_aload_n (pc := 55) d_Md_aPass_55 (x := a) rfl ?_
        refine r_iconst (pc := 56) d_Md_aPass_56 (v := 5) (by decide) ?_
        refine r_callV (pc := 57) (k := a) (As := [.int 5]) (rest := []) (mc' := 0) (ms' := 0) lk_Md_200 in_Md_fails se_Md_fails sa rfl d_Md_aPass_57 k_Md_fails rfl rfl (Nat.le_of_ble_eq_true rfl) (by decide) (by decide) (Sp.mono h ?_)
        rintro rS17 shS17 S17 ⟨qS17, x18, uS17, h⟩
        subst uS17
        rw [qS17]
        obtain ⟨g19, h⟩ := h
        exact r_zreturn (pc := 60) d_Md_aPass_60 rfl (aw_nb g19) rfl (Nat.le_refl _) ⟨rfl, _, rfl, h⟩
    · replace h := h.2 c7
      refine r_iconst (pc := 29) d_Md_aPass_29 (v := 0) (by decide) ?_
      exact r_zreturn (pc := 30) d_Md_aPass_30 (v := 0) rfl (by decide) rfl (Nat.le_refl _) ⟨rfl, _, rfl, h⟩
set_option maxRecDepth 4000 in
theorem e_Md_gapTo {l : Launch} {d : Nat} {sh : aw_SH} {S : aw_S} {P : Int32 → aw_S → Prop} {a : Nat} {p0 : Int32} {p1 : Int32} (sa : sh[a]? = some (0, 11)) (h : Sp l m_Md_gapsOf d 0 0 [.ref a, .int p0] sh S (gI sh (fun x2 S1 => Sp l m_Md_number d 0 0 [.ref a, .int p1, .int 0, .int (x2 - (1 : Int32))] sh S1 (gI sh (fun x4 S3 => ((x4 = 0 ∨ x4 = 1) ∧ P x4 S3)))))) : Sp l m_Md_gapTo (d + 1) 0 0 [.ref a, .int p0, .int p1] sh S (gI sh P) := by
  refine Sp.of k_Md_gapTo (ls := [.ref a, .int p0, .int p1]) rfl (Nat.le_of_ble_eq_true rfl) ?_
  refine r_aload_n (pc := 0) d_Md_gapTo_0 (x := a) rfl ?_
  refine r_iload_n (pc := 1) d_Md_gapTo_1 (x := p1) rfl ?_
  refine r_iconst (pc := 2) d_Md_gapTo_2 (v := 0) (by decide) ?_
  refine r_aload_n (pc := 3) d_Md_gapTo_3 (x := a) rfl ?_
  refine r_iload_n (pc := 4) d_Md_gapTo_4 (x := p0) rfl ?_
  refine r_callV (pc := 5) (k := a) (As := [.int p0]) (rest := [.int 0, .int p1, .ref a]) (mc' := 0) (ms' := 0) lk_Md_260 in_Md_gapsOf se_Md_gapsOf sa rfl d_Md_gapTo_5 k_Md_gapsOf rfl rfl (Nat.le_of_ble_eq_true rfl) (by decide) (by decide) (Sp.mono h ?_)
  rintro rS1 shS1 S1 ⟨qS1, x2, uS1, h⟩
  subst uS1
  rw [qS1]
  refine r_iconst (pc := 8) d_Md_gapTo_8 (v := 1) (by decide) ?_
  refine r_isub (pc := 9) d_Md_gapTo_9 ?_
  refine r_callV (pc := 10) (k := a) (As := [.int p1, .int 0, .int (x2 - (1 : Int32))]) (rest := []) (mc' := 0) (ms' := 0) lk_Md_257 in_Md_number se_Md_number sa rfl d_Md_gapTo_10 k_Md_number rfl rfl (Nat.le_of_ble_eq_true rfl) (by decide) (by decide) (Sp.mono h ?_)
  rintro rS3 shS3 S3 ⟨qS3, x4, uS3, h⟩
  subst uS3
  rw [qS3]
  obtain ⟨g5, h⟩ := h
  exact r_zreturn (pc := 13) d_Md_gapTo_13 rfl (aw_nb g5) rfl (Nat.le_refl _) ⟨rfl, _, rfl, h⟩
set_option maxRecDepth 4000 in
theorem e_Md_gapsOf {l : Launch} {d : Nat} {sh : aw_SH} {S : aw_S} {P : Int32 → aw_S → Prop} {a : Nat} {p0 : Int32} (sa : sh[a]? = some (0, 11)) (h : ∃ r1, S.2.2 a 0 = some r1 ∧ ∃ n3, sh[r1]? = some (3, n3) ∧ vp_in (p0 + (0 : Int32)) n3 ∧ ((2 ≤ (S.1 r1 (p0 + (0 : Int32) : Int32).toNatClampNeg) → ((¬ (S.1 r1 (p0 + (0 : Int32) : Int32).toNatClampNeg) = 2 → P (S.1 r1 (p0 + (0 : Int32) : Int32).toNatClampNeg) S) ∧ ((S.1 r1 (p0 + (0 : Int32) : Int32).toNatClampNeg) = 2 → P 1 S))) ∧ (¬ 2 ≤ (S.1 r1 (p0 + (0 : Int32) : Int32).toNatClampNeg) → P 0 S))) : Sp l m_Md_gapsOf (d + 1) 0 0 [.ref a, .int p0] sh S (gI sh P) := by
  refine Sp.of k_Md_gapsOf (ls := [.ref a, .int p0, .null]) rfl (Nat.le_of_ble_eq_true rfl) ?_
  refine r_aload_n (pc := 0) d_Md_gapsOf_0 (x := a) rfl ?_
  obtain ⟨r1, er1, h⟩ := h
  refine r_getR (pc := 1) d_Md_gapsOf_1 f_Md_7 sa (Or.inr ⟨_, rfl⟩) (r := r1) er1 ?_
  refine r_iload_n (pc := 4) d_Md_gapsOf_4 (x := p0) rfl ?_
  refine r_iconst (pc := 5) d_Md_gapsOf_5 (v := 0) (by decide) ?_
  refine r_iadd (pc := 6) d_Md_gapsOf_6 ?_
  obtain ⟨n3, s2, h⟩ := h
  obtain ⟨g4, h⟩ := h
  refine r_iald (pc := 7) d_Md_gapsOf_7 s2 g4 ?_
  refine r_istore_n (pc := 8) (hk := rfl) (hd := d_Md_gapsOf_8) (hi := by decide) (ls2 := [.ref a, .int p0, .int (S.1 r1 (p0 + (0 : Int32) : Int32).toNatClampNeg)]) (h2 := rfl) ?_
  refine r_iload_n (pc := 9) d_Md_gapsOf_9 (x := (S.1 r1 (p0 + (0 : Int32) : Int32).toNatClampNeg)) rfl ?_
  refine r_iconst (pc := 10) d_Md_gapsOf_10 (v := 2) (by decide) ?_
  refine r_icmp_ge (pc := 11) d_Md_gapsOf_11 (tgt := 18) (by decide) (fun c5 => ?_) (fun c5 => ?_)
  · replace h := h.1 c5
    refine r_iload_n (pc := 18) d_Md_gapsOf_18 (x := (S.1 r1 (p0 + (0 : Int32) : Int32).toNatClampNeg)) rfl ?_
    refine r_iconst (pc := 19) d_Md_gapsOf_19 (v := 2) (by decide) ?_
    refine r_icmp_ne (pc := 20) d_Md_gapsOf_20 (tgt := 27) (by decide) (fun c6 => ?_) (fun c6 => ?_)
    · replace h := h.1 c6
      refine r_iload_n (pc := 27) d_Md_gapsOf_27 (x := (S.1 r1 (p0 + (0 : Int32) : Int32).toNatClampNeg)) rfl ?_
      exact r_ireturn (pc := 28) d_Md_gapsOf_28 rfl rfl (Nat.le_refl _) ⟨rfl, _, rfl, h⟩
    · replace h := h.2 c6
      refine r_iconst (pc := 23) d_Md_gapsOf_23 (v := 1) (by decide) ?_
      refine r_goto (pc := 24) d_Md_gapsOf_24 (tgt := 28) (by decide) ?_
      exact r_ireturn (pc := 28) d_Md_gapsOf_28 rfl rfl (Nat.le_refl _) ⟨rfl, _, rfl, h⟩
  · replace h := h.2 c5
    refine r_iconst (pc := 14) d_Md_gapsOf_14 (v := 0) (by decide) ?_
    refine r_goto (pc := 15) d_Md_gapsOf_15 (tgt := 28) (by decide) ?_
    exact r_ireturn (pc := 28) d_Md_gapsOf_28 rfl rfl (Nat.le_refl _) ⟨rfl, _, rfl, h⟩
set_option maxRecDepth 4000 in
theorem e_Md_howTo {l : Launch} {d : Nat} {sh : aw_SH} {S : aw_S} {P : Int32 → aw_S → Prop} {a : Nat} {p0 : Int32} (sa : sh[a]? = some (0, 11)) (h : Sp l m_Md_inWords d 0 0 [.ref a, .float 2] sh S (gI sh (fun x2 S1 => ((x2 = 5 → ∃ r4, S1.2.2 a 0 = some r4 ∧ ((¬ x2 = 5 → ∃ n7, sh[r4]? = some (3, n7) ∧ vp_in p0 n7 ∧ P 1 (aw_uI S1 r4 p0.toNatClampNeg 0)) ∧ (x2 = 5 → ∃ n10, sh[r4]? = some (3, n10) ∧ vp_in p0 n10 ∧ P 1 (aw_uI S1 r4 p0.toNatClampNeg 1)))) ∧ (¬ x2 = 5 → ((x2 = 6 → ∃ r13, S1.2.2 a 0 = some r13 ∧ ((¬ x2 = 5 → ∃ n16, sh[r13]? = some (3, n16) ∧ vp_in p0 n16 ∧ P 1 (aw_uI S1 r13 p0.toNatClampNeg 0)) ∧ (x2 = 5 → ∃ n19, sh[r13]? = some (3, n19) ∧ vp_in p0 n19 ∧ P 1 (aw_uI S1 r13 p0.toNatClampNeg 1)))) ∧ (¬ x2 = 6 → Sp l m_Md_fails d 0 0 [.ref a, .int 2] sh S1 (gI sh (fun x22 S21 => ((x22 = 0 ∨ x22 = 1) ∧ P x22 S21)))))))))) : Sp l m_Md_howTo (d + 1) 0 0 [.ref a, .int p0] sh S (gI sh P) := by
  refine Sp.of k_Md_howTo (ls := [.ref a, .int p0, .null]) rfl (Nat.le_of_ble_eq_true rfl) ?_
  refine r_aload_n (pc := 0) d_Md_howTo_0 (x := a) rfl ?_
  refine r_ldcS (pc := 1) d_Md_howTo_1 (w := 2) (by decide) ?_
  refine r_callV (pc := 3) (k := a) (As := [.float 2]) (rest := []) (mc' := 0) (ms' := 0) lk_Md_203 in_Md_inWords se_Md_inWords sa rfl d_Md_howTo_3 k_Md_inWords rfl rfl (Nat.le_of_ble_eq_true rfl) (by decide) (by decide) (Sp.mono h ?_)
  rintro rS1 shS1 S1 ⟨qS1, x2, uS1, h⟩
  subst uS1
  rw [qS1]
  refine r_istore_n (pc := 6) (hk := rfl) (hd := d_Md_howTo_6) (hi := by decide) (ls2 := [.ref a, .int p0, .int x2]) (h2 := rfl) ?_
  refine r_iload_n (pc := 7) d_Md_howTo_7 (x := x2) rfl ?_
  refine r_iconst (pc := 8) d_Md_howTo_8 (v := 5) (by decide) ?_
  refine r_icmp_eq (pc := 9) d_Md_howTo_9 (tgt := 24) (by decide) (fun c3 => ?_) (fun c3 => ?_)
  · replace h := h.1 c3
    refine r_aload_n (pc := 24) d_Md_howTo_24 (x := a) rfl ?_
    obtain ⟨r4, er4, h⟩ := h
    refine r_getR (pc := 25) d_Md_howTo_25 f_Md_7 sa (Or.inr ⟨_, rfl⟩) (r := r4) er4 ?_
    refine r_iload_n (pc := 28) d_Md_howTo_28 (x := p0) rfl ?_
    refine r_iload_n (pc := 29) d_Md_howTo_29 (x := x2) rfl ?_
    refine r_iconst (pc := 30) d_Md_howTo_30 (v := 5) (by decide) ?_
    refine r_icmp_ne (pc := 31) d_Md_howTo_31 (tgt := 38) (by decide) (fun c5 => ?_) (fun c5 => ?_)
    · replace h := h.1 c5
      refine r_iconst (pc := 38) d_Md_howTo_38 (v := 0) (by decide) ?_
      obtain ⟨n7, s6, h⟩ := h
      obtain ⟨g8, h⟩ := h
      refine r_iast (pc := 39) d_Md_howTo_39 s6 g8 ?_
      refine r_iconst (pc := 40) d_Md_howTo_40 (v := 1) (by decide) ?_
      exact r_zreturn (pc := 41) d_Md_howTo_41 (v := 1) rfl (by decide) rfl (Nat.le_refl _) ⟨rfl, _, rfl, h⟩
    · replace h := h.2 c5
      refine r_iconst (pc := 34) d_Md_howTo_34 (v := 1) (by decide) ?_
      refine r_goto (pc := 35) d_Md_howTo_35 (tgt := 39) (by decide) ?_
      obtain ⟨n10, s9, h⟩ := h
      obtain ⟨g11, h⟩ := h
      refine r_iast (pc := 39) d_Md_howTo_39 s9 g11 ?_
      refine r_iconst (pc := 40) d_Md_howTo_40 (v := 1) (by decide) ?_
      exact r_zreturn (pc := 41) d_Md_howTo_41 (v := 1) rfl (by decide) rfl (Nat.le_refl _) ⟨rfl, _, rfl, h⟩
  · replace h := h.2 c3
    refine r_iload_n (pc := 12) d_Md_howTo_12 (x := x2) rfl ?_
    refine r_bipush (pc := 13) d_Md_howTo_13 (v := 6) (by decide) ?_
    refine r_icmp_eq (pc := 15) d_Md_howTo_15 (tgt := 24) (by decide) (fun c12 => ?_) (fun c12 => ?_)
    · replace h := h.1 c12
      refine r_aload_n (pc := 24) d_Md_howTo_24 (x := a) rfl ?_
      obtain ⟨r13, er13, h⟩ := h
      refine r_getR (pc := 25) d_Md_howTo_25 f_Md_7 sa (Or.inr ⟨_, rfl⟩) (r := r13) er13 ?_
      refine r_iload_n (pc := 28) d_Md_howTo_28 (x := p0) rfl ?_
      refine r_iload_n (pc := 29) d_Md_howTo_29 (x := x2) rfl ?_
      refine r_iconst (pc := 30) d_Md_howTo_30 (v := 5) (by decide) ?_
      refine r_icmp_ne (pc := 31) d_Md_howTo_31 (tgt := 38) (by decide) (fun c14 => ?_) (fun c14 => ?_)
      · replace h := h.1 c14
        refine r_iconst (pc := 38) d_Md_howTo_38 (v := 0) (by decide) ?_
        obtain ⟨n16, s15, h⟩ := h
        obtain ⟨g17, h⟩ := h
        refine r_iast (pc := 39) d_Md_howTo_39 s15 g17 ?_
        refine r_iconst (pc := 40) d_Md_howTo_40 (v := 1) (by decide) ?_
        exact r_zreturn (pc := 41) d_Md_howTo_41 (v := 1) rfl (by decide) rfl (Nat.le_refl _) ⟨rfl, _, rfl, h⟩
      · replace h := h.2 c14
        refine r_iconst (pc := 34) d_Md_howTo_34 (v := 1) (by decide) ?_
        refine r_goto (pc := 35) d_Md_howTo_35 (tgt := 39) (by decide) ?_
        obtain ⟨n19, s18, h⟩ := h
        obtain ⟨g20, h⟩ := h
        refine r_iast (pc := 39) d_Md_howTo_39 s18 g20 ?_
        refine r_iconst (pc := 40) d_Md_howTo_40 (v := 1) (by decide) ?_
        exact r_zreturn (pc := 41) d_Md_howTo_41 (v := 1) rfl (by decide) rfl (Nat.le_refl _) ⟨rfl, _, rfl, h⟩
    · replace h := h.2 c12
      refine r_aload_n (pc := 18) d_Md_howTo_18 (x := a) rfl ?_
      refine r_iconst (pc := 19) d_Md_howTo_19 (v := 2) (by decide) ?_
      refine r_callV (pc := 20) (k := a) (As := [.int 2]) (rest := []) (mc' := 0) (ms' := 0) lk_Md_200 in_Md_fails se_Md_fails sa rfl d_Md_howTo_20 k_Md_fails rfl rfl (Nat.le_of_ble_eq_true rfl) (by decide) (by decide) (Sp.mono h ?_)
      rintro rS21 shS21 S21 ⟨qS21, x22, uS21, h⟩
      subst uS21
      rw [qS21]
      obtain ⟨g23, h⟩ := h
      exact r_zreturn (pc := 23) d_Md_howTo_23 rfl (aw_nb g23) rfl (Nat.le_refl _) ⟨rfl, _, rfl, h⟩
set_option maxRecDepth 4000 in
theorem e_Md_dances {l : Launch} {d : Nat} {sh : aw_SH} {S : aw_S} {P : Int32 → aw_S → Prop} {a : Nat} {p0 : Int32} {p1 : Int32} {p2 : Int32} (sa : sh[a]? = some (0, 11)) (h : Sp l m_Md_latestIn d 0 0 [.ref a, .int p0, .int p1] sh S (gI sh (fun x2 S1 => ((x2 = (-1) → AW l m_Md_dances (d + 1) 0 0 (gI sh P) 0 0 57 [.ref a, .int p0, .int p1, .int p2, .null, .null, .null, .null] [] sh S1) ∧ (¬ x2 = (-1) → ∃ r4, S1.2.2 a 0 = some r4 ∧ Sp l m_Md_plaitRow d 0 0 [.int x2] sh S1 (gI sh (fun x6 S5 => ∃ n8, sh[r4]? = some (3, n8) ∧ vp_in ((p0 + x6) + (1 : Int32)) n8 ∧ (((S5.1 r4 ((p0 + x6) + (1 : Int32) : Int32).toNatClampNeg) = p2 → AW l m_Md_dances (d + 1) 0 0 (gI sh P) 0 0 57 [.ref a, .int p0, .int p1, .int p2, .null, .null, .null, .null] [] sh S5) ∧ (¬ (S5.1 r4 ((p0 + x6) + (1 : Int32) : Int32).toNatClampNeg) = p2 → Sp l m_Md_isFreeIn d 0 0 [.ref a, .int p0, .int x2] sh S5 (gI sh (fun x12 S11 => ((x12 = 0 → AW l m_Md_dances (d + 1) 0 0 (gI sh P) 0 0 57 [.ref a, .int p0, .int p1, .int p2, .null, .null, .null, .null] [] sh S11) ∧ (¬ x12 = 0 → Sp l m_Md_swaps d 0 0 [.ref a, .int p0, .int p1] sh S11 (gV sh (fun S14 => Sp l m_Md_loses d 0 0 [.ref a, .int p0, .int x2] sh S14 (gV sh (fun S15 => P 2 S15))))))))))))))))) : Sp l m_Md_dances (d + 1) 0 0 [.ref a, .int p0, .int p1, .int p2] sh S (gI sh P) := by
  refine Sp.of k_Md_dances (ls := [.ref a, .int p0, .int p1, .int p2, .null, .null, .null, .null]) rfl (Nat.le_of_ble_eq_true rfl) ?_
  refine r_aload_n (pc := 0) d_Md_dances_0 (x := a) rfl ?_
  refine r_iload_n (pc := 1) d_Md_dances_1 (x := p0) rfl ?_
  refine r_iload_n (pc := 2) d_Md_dances_2 (x := p1) rfl ?_
  refine r_callV (pc := 3) (k := a) (As := [.int p0, .int p1]) (rest := []) (mc' := 0) (ms' := 0) lk_Md_221 in_Md_latestIn se_Md_latestIn sa rfl d_Md_dances_3 k_Md_latestIn rfl rfl (Nat.le_of_ble_eq_true rfl) (by decide) (by decide) (Sp.mono h ?_)
  rintro rS1 shS1 S1 ⟨qS1, x2, uS1, h⟩
  subst uS1
  rw [qS1]
  refine r_istore (pc := 6) (hd := d_Md_dances_6) (hi := by decide) (ls2 := [.ref a, .int p0, .int p1, .int p2, .int x2, .null, .null, .null]) (h2 := rfl) ?_
  refine r_iload (pc := 8) d_Md_dances_8 (x := x2) rfl ?_
  refine r_iconst (pc := 10) d_Md_dances_10 (v := (-1)) (by decide) ?_
  refine r_icmp_eq (pc := 11) d_Md_dances_11 (tgt := 57) (by decide) (fun c3 => ?_) (fun c3 => ?_)
  · replace h := h.1 c3
    exact r_weak (ls2 := [.ref a, .int p0, .int p1, .int p2, .null, .null, .null, .null]) ⟨Or.inr rfl, Or.inr rfl, Or.inr rfl, Or.inr rfl, Or.inl rfl, Or.inl rfl, Or.inl rfl, Or.inl rfl, trivial⟩ h
  · replace h := h.2 c3
    refine r_aload_n (pc := 14) d_Md_dances_14 (x := a) rfl ?_
    obtain ⟨r4, er4, h⟩ := h
    refine r_getR (pc := 15) d_Md_dances_15 f_Md_7 sa (Or.inr ⟨_, rfl⟩) (r := r4) er4 ?_
    refine r_iload_n (pc := 18) d_Md_dances_18 (x := p0) rfl ?_
    refine r_iload (pc := 19) d_Md_dances_19 (x := x2) rfl ?_
    refine r_callS (pc := 21) (k := 0) (As := [.int x2]) (rest := [.int p0, .ref r4]) (mc' := 0) (ms' := 0) lk_Md_211 st_Md_plaitRow d_Md_dances_21 k_Md_plaitRow rfl rfl (Nat.le_of_ble_eq_true rfl) (by decide) (by decide) (Sp.mono h ?_)
    rintro rS5 shS5 S5 ⟨qS5, x6, uS5, h⟩
    subst uS5
    rw [qS5]
    refine r_iadd (pc := 24) d_Md_dances_24 ?_
    refine r_iconst (pc := 25) d_Md_dances_25 (v := 1) (by decide) ?_
    refine r_iadd (pc := 26) d_Md_dances_26 ?_
    obtain ⟨n8, s7, h⟩ := h
    obtain ⟨g9, h⟩ := h
    refine r_iald (pc := 27) d_Md_dances_27 s7 g9 ?_
    refine r_iload_n (pc := 28) d_Md_dances_28 (x := p2) rfl ?_
    refine r_icmp_eq (pc := 29) d_Md_dances_29 (tgt := 57) (by decide) (fun c10 => ?_) (fun c10 => ?_)
    · replace h := h.1 c10
      exact r_weak (ls2 := [.ref a, .int p0, .int p1, .int p2, .null, .null, .null, .null]) ⟨Or.inr rfl, Or.inr rfl, Or.inr rfl, Or.inr rfl, Or.inl rfl, Or.inl rfl, Or.inl rfl, Or.inl rfl, trivial⟩ h
    · replace h := h.2 c10
      refine r_aload_n (pc := 32) d_Md_dances_32 (x := a) rfl ?_
      refine r_iload_n (pc := 33) d_Md_dances_33 (x := p0) rfl ?_
      refine r_iload (pc := 34) d_Md_dances_34 (x := x2) rfl ?_
      refine r_callV (pc := 36) (k := a) (As := [.int p0, .int x2]) (rest := []) (mc' := 0) (ms' := 0) lk_Md_224 in_Md_isFreeIn se_Md_isFreeIn sa rfl d_Md_dances_36 k_Md_isFreeIn rfl rfl (Nat.le_of_ble_eq_true rfl) (by decide) (by decide) (Sp.mono h ?_)
      rintro rS11 shS11 S11 ⟨qS11, x12, uS11, h⟩
      subst uS11
      rw [qS11]
      refine r_if_eq (pc := 39) d_Md_dances_39 (tgt := 57) (by decide) (fun c13 => ?_) (fun c13 => ?_)
      · replace h := h.1 c13
        exact r_weak (ls2 := [.ref a, .int p0, .int p1, .int p2, .null, .null, .null, .null]) ⟨Or.inr rfl, Or.inr rfl, Or.inr rfl, Or.inr rfl, Or.inl rfl, Or.inl rfl, Or.inl rfl, Or.inl rfl, trivial⟩ h
      · replace h := h.2 c13
        refine r_aload_n (pc := 42) d_Md_dances_42 (x := a) rfl ?_
        refine r_iload_n (pc := 43) d_Md_dances_43 (x := p0) rfl ?_
        refine r_iload_n (pc := 44) d_Md_dances_44 (x := p1) rfl ?_
        refine r_callV (pc := 45) (k := a) (As := [.int p0, .int p1]) (rest := []) (mc' := 0) (ms' := 0) lk_Md_228 in_Md_swaps se_Md_swaps sa rfl d_Md_dances_45 k_Md_swaps rfl rfl (Nat.le_of_ble_eq_true rfl) (by decide) (by decide) (Sp.mono h ?_)
        rintro rS14 shS14 S14 ⟨qS14, uS14, h⟩
        subst uS14
        rw [qS14]
        refine r_aload_n (pc := 48) d_Md_dances_48 (x := a) rfl ?_
        refine r_iload_n (pc := 49) d_Md_dances_49 (x := p0) rfl ?_
        refine r_iload (pc := 50) d_Md_dances_50 (x := x2) rfl ?_
        refine r_callV (pc := 52) (k := a) (As := [.int p0, .int x2]) (rest := []) (mc' := 0) (ms' := 0) lk_Md_232 in_Md_loses se_Md_loses sa rfl d_Md_dances_52 k_Md_loses rfl rfl (Nat.le_of_ble_eq_true rfl) (by decide) (by decide) (Sp.mono h ?_)
        rintro rS15 shS15 S15 ⟨qS15, uS15, h⟩
        subst uS15
        rw [qS15]
        refine r_iconst (pc := 55) d_Md_dances_55 (v := 2) (by decide) ?_
        exact r_ireturn (pc := 56) d_Md_dances_56 rfl rfl (Nat.le_refl _) ⟨rfl, _, rfl, h⟩
set_option maxRecDepth 4000 in
theorem s_Md_dances_57 {l : Launch} {d : Nat} {sh : aw_SH} {S : aw_S} {P : Int32 → aw_S → Prop} {a : Nat} {i1 : Int32} {i2 : Int32} {i3 : Int32} (sa : sh[a]? = some (0, 11)) (h : ∃ r1, S.2.2 a 0 = some r1 ∧ ∃ n3, sh[r1]? = some (3, n3) ∧ vp_in ((i1 + (17 : Int32)) + i2) n3 ∧ vp_in (i1 + (0 : Int32)) n3 ∧ ¬ (S.1 r1 (i1 + (0 : Int32) : Int32).toNatClampNeg) = 0 ∧ vp_in ((i1 + (17 : Int32)) + ((i2 + (1 : Int32)) - (i2 + (1 : Int32)) / (S.1 r1 (i1 + (0 : Int32) : Int32).toNatClampNeg) * (S.1 r1 (i1 + (0 : Int32) : Int32).toNatClampNeg))) n3 ∧ ∀ v7 : Int32, v7 = S.1 r1 ((i1 + (17 : Int32)) + ((i2 + (1 : Int32)) - (i2 + (1 : Int32)) / (S.1 r1 (i1 + (0 : Int32) : Int32).toNatClampNeg) * (S.1 r1 (i1 + (0 : Int32) : Int32).toNatClampNeg)) : Int32).toNatClampNeg → vp_in (i1 + (3 : Int32)) n3 ∧ (((S.1 r1 (i1 + (3 : Int32) : Int32).toNatClampNeg) = 40 → P 0 S) ∧ (¬ (S.1 r1 (i1 + (3 : Int32) : Int32).toNatClampNeg) = 40 → Sp l m_Md_leftOf d 0 0 [.ref a, .int i1, .int (S.1 r1 ((i1 + (17 : Int32)) + i2 : Int32).toNatClampNeg)] sh S (gI sh (fun x11 S10 => ((x11 = 0 → P 0 S10) ∧ (¬ x11 = 0 → Sp l m_Md_leftOf d 0 0 [.ref a, .int i1, .int v7] sh S10 (gI sh (fun x14 S13 => ((¬ x14 = 0 → ∃ r16, S13.2.2 a 0 = some r16 ∧ ∃ n18, sh[r16]? = some (3, n18) ∧ vp_in (i1 + (3 : Int32)) n18 ∧ Sp l m_Md_plaitRow d 0 0 [.int (S13.1 r16 (i1 + (3 : Int32) : Int32).toNatClampNeg)] sh S13 (gI sh (fun x21 S20 => ∃ r22, S20.2.2 a 0 = some r22 ∧ ∃ n24, sh[r22]? = some (3, n24) ∧ vp_in (i1 + x21) n24 ∧ vp_in ((i1 + x21) + (1 : Int32)) n24 ∧ ((¬ i3 = 1 → vp_in ((i1 + x21) + (2 : Int32)) n24 ∧ ((¬ i3 = 1 → vp_in ((i1 + x21) + (3 : Int32)) n24 ∧ vp_in (i1 + (3 : Int32)) n24 ∧ vp_in (i1 + (3 : Int32)) n24 ∧ Sp l m_Md_swaps d 0 0 [.ref a, .int i1, .int i2] sh (aw_uI (aw_uI (aw_uI (aw_uI (aw_uI S20 r22 ((i1 + x21 : Int32).toNatClampNeg) i2) r22 (((i1 + x21) + (1 : Int32) : Int32).toNatClampNeg) i3) r22 (((i1 + x21) + (2 : Int32) : Int32).toNatClampNeg) v7) r22 (((i1 + x21) + (3 : Int32) : Int32).toNatClampNeg) (S.1 r1 ((i1 + (17 : Int32)) + i2 : Int32).toNatClampNeg)) r22 ((i1 + (3 : Int32) : Int32).toNatClampNeg) (((aw_uI (aw_uI (aw_uI (aw_uI S20 r22 ((i1 + x21 : Int32).toNatClampNeg) i2) r22 (((i1 + x21) + (1 : Int32) : Int32).toNatClampNeg) i3) r22 (((i1 + x21) + (2 : Int32) : Int32).toNatClampNeg) v7) r22 (((i1 + x21) + (3 : Int32) : Int32).toNatClampNeg) (S.1 r1 ((i1 + (17 : Int32)) + i2 : Int32).toNatClampNeg)).1 r22 (i1 + (3 : Int32) : Int32).toNatClampNeg) + (1 : Int32))) (gV sh (fun S33 => P 1 S33))) ∧ (i3 = 1 → vp_in ((i1 + x21) + (3 : Int32)) n24 ∧ vp_in (i1 + (3 : Int32)) n24 ∧ vp_in (i1 + (3 : Int32)) n24 ∧ Sp l m_Md_swaps d 0 0 [.ref a, .int i1, .int i2] sh (aw_uI (aw_uI (aw_uI (aw_uI (aw_uI S20 r22 ((i1 + x21 : Int32).toNatClampNeg) i2) r22 (((i1 + x21) + (1 : Int32) : Int32).toNatClampNeg) i3) r22 (((i1 + x21) + (2 : Int32) : Int32).toNatClampNeg) v7) r22 (((i1 + x21) + (3 : Int32) : Int32).toNatClampNeg) v7) r22 ((i1 + (3 : Int32) : Int32).toNatClampNeg) (((aw_uI (aw_uI (aw_uI (aw_uI S20 r22 ((i1 + x21 : Int32).toNatClampNeg) i2) r22 (((i1 + x21) + (1 : Int32) : Int32).toNatClampNeg) i3) r22 (((i1 + x21) + (2 : Int32) : Int32).toNatClampNeg) v7) r22 (((i1 + x21) + (3 : Int32) : Int32).toNatClampNeg) v7).1 r22 (i1 + (3 : Int32) : Int32).toNatClampNeg) + (1 : Int32))) (gV sh (fun S37 => P 1 S37))))) ∧ (i3 = 1 → vp_in ((i1 + x21) + (2 : Int32)) n24 ∧ ((¬ i3 = 1 → vp_in ((i1 + x21) + (3 : Int32)) n24 ∧ vp_in (i1 + (3 : Int32)) n24 ∧ vp_in (i1 + (3 : Int32)) n24 ∧ Sp l m_Md_swaps d 0 0 [.ref a, .int i1, .int i2] sh (aw_uI (aw_uI (aw_uI (aw_uI (aw_uI S20 r22 ((i1 + x21 : Int32).toNatClampNeg) i2) r22 (((i1 + x21) + (1 : Int32) : Int32).toNatClampNeg) i3) r22 (((i1 + x21) + (2 : Int32) : Int32).toNatClampNeg) (S.1 r1 ((i1 + (17 : Int32)) + i2 : Int32).toNatClampNeg)) r22 (((i1 + x21) + (3 : Int32) : Int32).toNatClampNeg) (S.1 r1 ((i1 + (17 : Int32)) + i2 : Int32).toNatClampNeg)) r22 ((i1 + (3 : Int32) : Int32).toNatClampNeg) (((aw_uI (aw_uI (aw_uI (aw_uI S20 r22 ((i1 + x21 : Int32).toNatClampNeg) i2) r22 (((i1 + x21) + (1 : Int32) : Int32).toNatClampNeg) i3) r22 (((i1 + x21) + (2 : Int32) : Int32).toNatClampNeg) (S.1 r1 ((i1 + (17 : Int32)) + i2 : Int32).toNatClampNeg)) r22 (((i1 + x21) + (3 : Int32) : Int32).toNatClampNeg) (S.1 r1 ((i1 + (17 : Int32)) + i2 : Int32).toNatClampNeg)).1 r22 (i1 + (3 : Int32) : Int32).toNatClampNeg) + (1 : Int32))) (gV sh (fun S43 => P 1 S43))) ∧ (i3 = 1 → vp_in ((i1 + x21) + (3 : Int32)) n24 ∧ vp_in (i1 + (3 : Int32)) n24 ∧ vp_in (i1 + (3 : Int32)) n24 ∧ Sp l m_Md_swaps d 0 0 [.ref a, .int i1, .int i2] sh (aw_uI (aw_uI (aw_uI (aw_uI (aw_uI S20 r22 ((i1 + x21 : Int32).toNatClampNeg) i2) r22 (((i1 + x21) + (1 : Int32) : Int32).toNatClampNeg) i3) r22 (((i1 + x21) + (2 : Int32) : Int32).toNatClampNeg) (S.1 r1 ((i1 + (17 : Int32)) + i2 : Int32).toNatClampNeg)) r22 (((i1 + x21) + (3 : Int32) : Int32).toNatClampNeg) v7) r22 ((i1 + (3 : Int32) : Int32).toNatClampNeg) (((aw_uI (aw_uI (aw_uI (aw_uI S20 r22 ((i1 + x21 : Int32).toNatClampNeg) i2) r22 (((i1 + x21) + (1 : Int32) : Int32).toNatClampNeg) i3) r22 (((i1 + x21) + (2 : Int32) : Int32).toNatClampNeg) (S.1 r1 ((i1 + (17 : Int32)) + i2 : Int32).toNatClampNeg)) r22 (((i1 + x21) + (3 : Int32) : Int32).toNatClampNeg) v7).1 r22 (i1 + (3 : Int32) : Int32).toNatClampNeg) + (1 : Int32))) (gV sh (fun S47 => P 1 S47))))))))) ∧ (x14 = 0 → P 0 S13))))))))))) : AW l m_Md_dances (d + 1) 0 0 (gI sh P) 0 0 57 [.ref a, .int i1, .int i2, .int i3, .null, .null, .null, .null] [] sh S := by
  refine r_aload_n (pc := 57) d_Md_dances_57 (x := a) rfl ?_
  obtain ⟨r1, er1, h⟩ := h
  refine r_getR (pc := 58) d_Md_dances_58 f_Md_7 sa (Or.inr ⟨_, rfl⟩) (r := r1) er1 ?_
  refine r_iload_n (pc := 61) d_Md_dances_61 (x := i1) rfl ?_
  refine r_bipush (pc := 62) d_Md_dances_62 (v := 17) (by decide) ?_
  refine r_iadd (pc := 64) d_Md_dances_64 ?_
  refine r_iload_n (pc := 65) d_Md_dances_65 (x := i2) rfl ?_
  refine r_iadd (pc := 66) d_Md_dances_66 ?_
  obtain ⟨n3, s2, h⟩ := h
  obtain ⟨g4, h⟩ := h
  refine r_iald (pc := 67) d_Md_dances_67 s2 g4 ?_
  refine r_istore (pc := 68) (hd := d_Md_dances_68) (hi := by decide) (ls2 := [.ref a, .int i1, .int i2, .int i3, .null, .int (S.1 r1 ((i1 + (17 : Int32)) + i2 : Int32).toNatClampNeg), .null, .null]) (h2 := rfl) ?_
  refine r_aload_n (pc := 70) d_Md_dances_70 (x := a) rfl ?_
  refine r_getR (pc := 71) d_Md_dances_71 f_Md_7 sa (Or.inr ⟨_, rfl⟩) (r := r1) er1 ?_
  refine r_iload_n (pc := 74) d_Md_dances_74 (x := i1) rfl ?_
  refine r_bipush (pc := 75) d_Md_dances_75 (v := 17) (by decide) ?_
  refine r_iadd (pc := 77) d_Md_dances_77 ?_
  refine r_iload_n (pc := 78) d_Md_dances_78 (x := i2) rfl ?_
  refine r_iconst (pc := 79) d_Md_dances_79 (v := 1) (by decide) ?_
  refine r_iadd (pc := 80) d_Md_dances_80 ?_
  refine r_aload_n (pc := 81) d_Md_dances_81 (x := a) rfl ?_
  refine r_getR (pc := 82) d_Md_dances_82 f_Md_7 sa (Or.inr ⟨_, rfl⟩) (r := r1) er1 ?_
  refine r_iload_n (pc := 85) d_Md_dances_85 (x := i1) rfl ?_
  refine r_iconst (pc := 86) d_Md_dances_86 (v := 0) (by decide) ?_
  refine r_iadd (pc := 87) d_Md_dances_87 ?_
  obtain ⟨g5, h⟩ := h
  refine r_iald (pc := 88) d_Md_dances_88 s2 g5 ?_
  obtain ⟨g48, h⟩ := h
  refine r_irem (pc := 89) d_Md_dances_89 g48 ?_
  refine r_iadd (pc := 90) d_Md_dances_90 ?_
  obtain ⟨g6, h⟩ := h
  refine r_iald (pc := 91) d_Md_dances_91 s2 g6 ?_
  refine r_ni (fun v7 ev7 => ?_)
  replace h := h v7 ev7
  refine r_istore (pc := 92) (hd := d_Md_dances_92) (hi := by decide) (ls2 := [.ref a, .int i1, .int i2, .int i3, .null, .int (S.1 r1 ((i1 + (17 : Int32)) + i2 : Int32).toNatClampNeg), .int v7, .null]) (h2 := rfl) ?_
  refine r_aload_n (pc := 94) d_Md_dances_94 (x := a) rfl ?_
  refine r_getR (pc := 95) d_Md_dances_95 f_Md_7 sa (Or.inr ⟨_, rfl⟩) (r := r1) er1 ?_
  refine r_iload_n (pc := 98) d_Md_dances_98 (x := i1) rfl ?_
  refine r_iconst (pc := 99) d_Md_dances_99 (v := 3) (by decide) ?_
  refine r_iadd (pc := 100) d_Md_dances_100 ?_
  obtain ⟨g8, h⟩ := h
  refine r_iald (pc := 101) d_Md_dances_101 s2 g8 ?_
  refine r_bipush (pc := 102) d_Md_dances_102 (v := 40) (by decide) ?_
  refine r_icmp_eq (pc := 104) d_Md_dances_104 (tgt := 127) (by decide) (fun c9 => ?_) (fun c9 => ?_)
  · replace h := h.1 c9
    refine r_iconst (pc := 127) d_Md_dances_127 (v := 0) (by decide) ?_
    exact r_ireturn (pc := 128) d_Md_dances_128 rfl rfl (Nat.le_refl _) ⟨rfl, _, rfl, h⟩
  · replace h := h.2 c9
    refine r_aload_n (pc := 107) d_Md_dances_107 (x := a) rfl ?_
    refine r_iload_n (pc := 108) d_Md_dances_108 (x := i1) rfl ?_
    refine r_iload (pc := 109) d_Md_dances_109 (x := (S.1 r1 ((i1 + (17 : Int32)) + i2 : Int32).toNatClampNeg)) rfl ?_
    refine r_callV (pc := 111) (k := a) (As := [.int i1, .int (S.1 r1 ((i1 + (17 : Int32)) + i2 : Int32).toNatClampNeg)]) (rest := []) (mc' := 0) (ms' := 0) lk_Md_235 in_Md_leftOf se_Md_leftOf sa rfl d_Md_dances_111 k_Md_leftOf rfl rfl (Nat.le_of_ble_eq_true rfl) (by decide) (by decide) (Sp.mono h ?_)
    rintro rS10 shS10 S10 ⟨qS10, x11, uS10, h⟩
    subst uS10
    rw [qS10]
    refine r_if_eq (pc := 114) d_Md_dances_114 (tgt := 127) (by decide) (fun c12 => ?_) (fun c12 => ?_)
    · replace h := h.1 c12
      refine r_iconst (pc := 127) d_Md_dances_127 (v := 0) (by decide) ?_
      exact r_ireturn (pc := 128) d_Md_dances_128 rfl rfl (Nat.le_refl _) ⟨rfl, _, rfl, h⟩
    · replace h := h.2 c12
      refine r_aload_n (pc := 117) d_Md_dances_117 (x := a) rfl ?_
      refine r_iload_n (pc := 118) d_Md_dances_118 (x := i1) rfl ?_
      refine r_iload (pc := 119) d_Md_dances_119 (x := v7) rfl ?_
      refine r_callV (pc := 121) (k := a) (As := [.int i1, .int v7]) (rest := []) (mc' := 0) (ms' := 0) lk_Md_235 in_Md_leftOf se_Md_leftOf sa rfl d_Md_dances_121 k_Md_leftOf rfl rfl (Nat.le_of_ble_eq_true rfl) (by decide) (by decide) (Sp.mono h ?_)
      rintro rS13 shS13 S13 ⟨qS13, x14, uS13, h⟩
      subst uS13
      rw [qS13]
      refine r_if_ne (pc := 124) d_Md_dances_124 (tgt := 129) (by decide) (fun c15 => ?_) (fun c15 => ?_)
      · replace h := h.1 c15
        refine r_iload_n (pc := 129) d_Md_dances_129 (x := i1) rfl ?_
        refine r_aload_n (pc := 130) d_Md_dances_130 (x := a) rfl ?_
        obtain ⟨r16, er16, h⟩ := h
        refine r_getR (pc := 131) d_Md_dances_131 f_Md_7 sa (Or.inr ⟨_, rfl⟩) (r := r16) er16 ?_
        refine r_iload_n (pc := 134) d_Md_dances_134 (x := i1) rfl ?_
        refine r_iconst (pc := 135) d_Md_dances_135 (v := 3) (by decide) ?_
        refine r_iadd (pc := 136) d_Md_dances_136 ?_
        obtain ⟨n18, s17, h⟩ := h
        obtain ⟨g19, h⟩ := h
        refine r_iald (pc := 137) d_Md_dances_137 s17 g19 ?_
        refine r_callS (pc := 138) (k := 0) (As := [.int (S13.1 r16 (i1 + (3 : Int32) : Int32).toNatClampNeg)]) (rest := [.int i1]) (mc' := 0) (ms' := 0) lk_Md_211 st_Md_plaitRow d_Md_dances_138 k_Md_plaitRow rfl rfl (Nat.le_of_ble_eq_true rfl) (by decide) (by decide) (Sp.mono h ?_)
        rintro rS20 shS20 S20 ⟨qS20, x21, uS20, h⟩
        subst uS20
        rw [qS20]
        refine r_iadd (pc := 141) d_Md_dances_141 ?_
        refine r_istore (pc := 142) (hd := d_Md_dances_142) (hi := by decide) (ls2 := [.ref a, .int i1, .int i2, .int i3, .null, .int (S.1 r1 ((i1 + (17 : Int32)) + i2 : Int32).toNatClampNeg), .int v7, .int (i1 + x21)]) (h2 := rfl) ?_
        refine r_aload_n (pc := 144) d_Md_dances_144 (x := a) rfl ?_
        obtain ⟨r22, er22, h⟩ := h
        refine r_getR (pc := 145) d_Md_dances_145 f_Md_7 sa (Or.inr ⟨_, rfl⟩) (r := r22) er22 ?_
        refine r_iload (pc := 148) d_Md_dances_148 (x := (i1 + x21)) rfl ?_
        refine r_iload_n (pc := 150) d_Md_dances_150 (x := i2) rfl ?_
        obtain ⟨n24, s23, h⟩ := h
        obtain ⟨g25, h⟩ := h
        refine r_iast (pc := 151) d_Md_dances_151 s23 g25 ?_
        refine r_aload_n (pc := 152) d_Md_dances_152 (x := a) rfl ?_
        refine r_getR (pc := 153) d_Md_dances_153 f_Md_7 sa (Or.inr ⟨_, rfl⟩) (r := r22) er22 ?_
        refine r_iload (pc := 156) d_Md_dances_156 (x := (i1 + x21)) rfl ?_
        refine r_iconst (pc := 158) d_Md_dances_158 (v := 1) (by decide) ?_
        refine r_iadd (pc := 159) d_Md_dances_159 ?_
        refine r_iload_n (pc := 160) d_Md_dances_160 (x := i3) rfl ?_
        obtain ⟨g26, h⟩ := h
        refine r_iast (pc := 161) d_Md_dances_161 s23 g26 ?_
        refine r_aload_n (pc := 162) d_Md_dances_162 (x := a) rfl ?_
        refine r_getR (pc := 163) d_Md_dances_163 f_Md_7 sa (Or.inr ⟨_, rfl⟩) (r := r22) er22 ?_
        refine r_iload (pc := 166) d_Md_dances_166 (x := (i1 + x21)) rfl ?_
        refine r_iconst (pc := 168) d_Md_dances_168 (v := 2) (by decide) ?_
        refine r_iadd (pc := 169) d_Md_dances_169 ?_
        refine r_iload_n (pc := 170) d_Md_dances_170 (x := i3) rfl ?_
        refine r_iconst (pc := 171) d_Md_dances_171 (v := 1) (by decide) ?_
        refine r_icmp_ne (pc := 172) d_Md_dances_172 (tgt := 180) (by decide) (fun c27 => ?_) (fun c27 => ?_)
        · replace h := h.1 c27
          refine r_iload (pc := 180) d_Md_dances_180 (x := v7) rfl ?_
          obtain ⟨g28, h⟩ := h
          refine r_iast (pc := 182) d_Md_dances_182 s23 g28 ?_
          refine r_aload_n (pc := 183) d_Md_dances_183 (x := a) rfl ?_
          refine r_getR (pc := 184) d_Md_dances_184 f_Md_7 sa (Or.inr ⟨_, rfl⟩) (r := r22) er22 ?_
          refine r_iload (pc := 187) d_Md_dances_187 (x := (i1 + x21)) rfl ?_
          refine r_iconst (pc := 189) d_Md_dances_189 (v := 3) (by decide) ?_
          refine r_iadd (pc := 190) d_Md_dances_190 ?_
          refine r_iload_n (pc := 191) d_Md_dances_191 (x := i3) rfl ?_
          refine r_iconst (pc := 192) d_Md_dances_192 (v := 1) (by decide) ?_
          refine r_icmp_ne (pc := 193) d_Md_dances_193 (tgt := 201) (by decide) (fun c29 => ?_) (fun c29 => ?_)
          · replace h := h.1 c29
            refine r_iload (pc := 201) d_Md_dances_201 (x := (S.1 r1 ((i1 + (17 : Int32)) + i2 : Int32).toNatClampNeg)) rfl ?_
            obtain ⟨g30, h⟩ := h
            refine r_iast (pc := 203) d_Md_dances_203 s23 g30 ?_
            refine r_aload_n (pc := 204) d_Md_dances_204 (x := a) rfl ?_
            refine r_getR (pc := 205) d_Md_dances_205 f_Md_7 sa (Or.inr ⟨_, rfl⟩) (r := r22) er22 ?_
            refine r_iload_n (pc := 208) d_Md_dances_208 (x := i1) rfl ?_
            refine r_iconst (pc := 209) d_Md_dances_209 (v := 3) (by decide) ?_
            refine r_iadd (pc := 210) d_Md_dances_210 ?_
            refine r_dup2 (pc := 211) d_Md_dances_211 rfl rfl ?_
            obtain ⟨g31, h⟩ := h
            refine r_iald (pc := 212) d_Md_dances_212 s23 g31 ?_
            refine r_iconst (pc := 213) d_Md_dances_213 (v := 1) (by decide) ?_
            refine r_iadd (pc := 214) d_Md_dances_214 ?_
            obtain ⟨g32, h⟩ := h
            refine r_iast (pc := 215) d_Md_dances_215 s23 g32 ?_
            refine r_aload_n (pc := 216) d_Md_dances_216 (x := a) rfl ?_
            refine r_iload_n (pc := 217) d_Md_dances_217 (x := i1) rfl ?_
            refine r_iload_n (pc := 218) d_Md_dances_218 (x := i2) rfl ?_
            refine r_callV (pc := 219) (k := a) (As := [.int i1, .int i2]) (rest := []) (mc' := 0) (ms' := 0) lk_Md_228 in_Md_swaps se_Md_swaps sa rfl d_Md_dances_219 k_Md_swaps rfl rfl (Nat.le_of_ble_eq_true rfl) (by decide) (by decide) (Sp.mono h ?_)
            rintro rS33 shS33 S33 ⟨qS33, uS33, h⟩
            subst uS33
            rw [qS33]
            refine r_iconst (pc := 222) d_Md_dances_222 (v := 1) (by decide) ?_
            exact r_ireturn (pc := 223) d_Md_dances_223 rfl rfl (Nat.le_refl _) ⟨rfl, _, rfl, h⟩
          · replace h := h.2 c29
            refine r_iload (pc := 196) d_Md_dances_196 (x := v7) rfl ?_
            refine r_goto (pc := 198) d_Md_dances_198 (tgt := 203) (by decide) ?_
            obtain ⟨g34, h⟩ := h
            refine r_iast (pc := 203) d_Md_dances_203 s23 g34 ?_
            refine r_aload_n (pc := 204) d_Md_dances_204 (x := a) rfl ?_
            refine r_getR (pc := 205) d_Md_dances_205 f_Md_7 sa (Or.inr ⟨_, rfl⟩) (r := r22) er22 ?_
            refine r_iload_n (pc := 208) d_Md_dances_208 (x := i1) rfl ?_
            refine r_iconst (pc := 209) d_Md_dances_209 (v := 3) (by decide) ?_
            refine r_iadd (pc := 210) d_Md_dances_210 ?_
            refine r_dup2 (pc := 211) d_Md_dances_211 rfl rfl ?_
            obtain ⟨g35, h⟩ := h
            refine r_iald (pc := 212) d_Md_dances_212 s23 g35 ?_
            refine r_iconst (pc := 213) d_Md_dances_213 (v := 1) (by decide) ?_
            refine r_iadd (pc := 214) d_Md_dances_214 ?_
            obtain ⟨g36, h⟩ := h
            refine r_iast (pc := 215) d_Md_dances_215 s23 g36 ?_
            refine r_aload_n (pc := 216) d_Md_dances_216 (x := a) rfl ?_
            refine r_iload_n (pc := 217) d_Md_dances_217 (x := i1) rfl ?_
            refine r_iload_n (pc := 218) d_Md_dances_218 (x := i2) rfl ?_
            refine r_callV (pc := 219) (k := a) (As := [.int i1, .int i2]) (rest := []) (mc' := 0) (ms' := 0) lk_Md_228 in_Md_swaps se_Md_swaps sa rfl d_Md_dances_219 k_Md_swaps rfl rfl (Nat.le_of_ble_eq_true rfl) (by decide) (by decide) (Sp.mono h ?_)
            rintro rS37 shS37 S37 ⟨qS37, uS37, h⟩
            subst uS37
            rw [qS37]
            refine r_iconst (pc := 222) d_Md_dances_222 (v := 1) (by decide) ?_
            exact r_ireturn (pc := 223) d_Md_dances_223 rfl rfl (Nat.le_refl _) ⟨rfl, _, rfl, h⟩
        · replace h := h.2 c27
          refine r_iload (pc := 175) d_Md_dances_175 (x := (S.1 r1 ((i1 + (17 : Int32)) + i2 : Int32).toNatClampNeg)) rfl ?_
          refine r_goto (pc := 177) d_Md_dances_177 (tgt := 182) (by decide) ?_
          obtain ⟨g38, h⟩ := h
          refine r_iast (pc := 182) d_Md_dances_182 s23 g38 ?_
          refine r_aload_n (pc := 183) d_Md_dances_183 (x := a) rfl ?_
          refine r_getR (pc := 184) d_Md_dances_184 f_Md_7 sa (Or.inr ⟨_, rfl⟩) (r := r22) er22 ?_
          refine r_iload (pc := 187) d_Md_dances_187 (x := (i1 + x21)) rfl ?_
          refine r_iconst (pc := 189) d_Md_dances_189 (v := 3) (by decide) ?_
          refine r_iadd (pc := 190) d_Md_dances_190 ?_
          refine r_iload_n (pc := 191) d_Md_dances_191 (x := i3) rfl ?_
          refine r_iconst (pc := 192) d_Md_dances_192 (v := 1) (by decide) ?_
          refine r_icmp_ne (pc := 193) d_Md_dances_193 (tgt := 201) (by decide) (fun c39 => ?_) (fun c39 => ?_)
          · replace h := h.1 c39
            refine r_iload (pc := 201) d_Md_dances_201 (x := (S.1 r1 ((i1 + (17 : Int32)) + i2 : Int32).toNatClampNeg)) rfl ?_
            obtain ⟨g40, h⟩ := h
            refine r_iast (pc := 203) d_Md_dances_203 s23 g40 ?_
            refine r_aload_n (pc := 204) d_Md_dances_204 (x := a) rfl ?_
            refine r_getR (pc := 205) d_Md_dances_205 f_Md_7 sa (Or.inr ⟨_, rfl⟩) (r := r22) er22 ?_
            refine r_iload_n (pc := 208) d_Md_dances_208 (x := i1) rfl ?_
            refine r_iconst (pc := 209) d_Md_dances_209 (v := 3) (by decide) ?_
            refine r_iadd (pc := 210) d_Md_dances_210 ?_
            refine r_dup2 (pc := 211) d_Md_dances_211 rfl rfl ?_
            obtain ⟨g41, h⟩ := h
            refine r_iald (pc := 212) d_Md_dances_212 s23 g41 ?_
            refine r_iconst (pc := 213) d_Md_dances_213 (v := 1) (by decide) ?_
            refine r_iadd (pc := 214) d_Md_dances_214 ?_
            obtain ⟨g42, h⟩ := h
            refine r_iast (pc := 215) d_Md_dances_215 s23 g42 ?_
            refine r_aload_n (pc := 216) d_Md_dances_216 (x := a) rfl ?_
            refine r_iload_n (pc := 217) d_Md_dances_217 (x := i1) rfl ?_
            refine r_iload_n (pc := 218) d_Md_dances_218 (x := i2) rfl ?_
            refine r_callV (pc := 219) (k := a) (As := [.int i1, .int i2]) (rest := []) (mc' := 0) (ms' := 0) lk_Md_228 in_Md_swaps se_Md_swaps sa rfl d_Md_dances_219 k_Md_swaps rfl rfl (Nat.le_of_ble_eq_true rfl) (by decide) (by decide) (Sp.mono h ?_)
            rintro rS43 shS43 S43 ⟨qS43, uS43, h⟩
            subst uS43
            rw [qS43]
            refine r_iconst (pc := 222) d_Md_dances_222 (v := 1) (by decide) ?_
            exact r_ireturn (pc := 223) d_Md_dances_223 rfl rfl (Nat.le_refl _) ⟨rfl, _, rfl, h⟩
          · replace h := h.2 c39
            refine r_iload (pc := 196) d_Md_dances_196 (x := v7) rfl ?_
            refine r_goto (pc := 198) d_Md_dances_198 (tgt := 203) (by decide) ?_
            obtain ⟨g44, h⟩ := h
            refine r_iast (pc := 203) d_Md_dances_203 s23 g44 ?_
            refine r_aload_n (pc := 204) d_Md_dances_204 (x := a) rfl ?_
            refine r_getR (pc := 205) d_Md_dances_205 f_Md_7 sa (Or.inr ⟨_, rfl⟩) (r := r22) er22 ?_
            refine r_iload_n (pc := 208) d_Md_dances_208 (x := i1) rfl ?_
            refine r_iconst (pc := 209) d_Md_dances_209 (v := 3) (by decide) ?_
            refine r_iadd (pc := 210) d_Md_dances_210 ?_
            refine r_dup2 (pc := 211) d_Md_dances_211 rfl rfl ?_
            obtain ⟨g45, h⟩ := h
            refine r_iald (pc := 212) d_Md_dances_212 s23 g45 ?_
            refine r_iconst (pc := 213) d_Md_dances_213 (v := 1) (by decide) ?_
            refine r_iadd (pc := 214) d_Md_dances_214 ?_
            obtain ⟨g46, h⟩ := h
            refine r_iast (pc := 215) d_Md_dances_215 s23 g46 ?_
            refine r_aload_n (pc := 216) d_Md_dances_216 (x := a) rfl ?_
            refine r_iload_n (pc := 217) d_Md_dances_217 (x := i1) rfl ?_
            refine r_iload_n (pc := 218) d_Md_dances_218 (x := i2) rfl ?_
            refine r_callV (pc := 219) (k := a) (As := [.int i1, .int i2]) (rest := []) (mc' := 0) (ms' := 0) lk_Md_228 in_Md_swaps se_Md_swaps sa rfl d_Md_dances_219 k_Md_swaps rfl rfl (Nat.le_of_ble_eq_true rfl) (by decide) (by decide) (Sp.mono h ?_)
            rintro rS47 shS47 S47 ⟨qS47, uS47, h⟩
            subst uS47
            rw [qS47]
            refine r_iconst (pc := 222) d_Md_dances_222 (v := 1) (by decide) ?_
            exact r_ireturn (pc := 223) d_Md_dances_223 rfl rfl (Nat.le_refl _) ⟨rfl, _, rfl, h⟩
      · replace h := h.2 c15
        refine r_iconst (pc := 127) d_Md_dances_127 (v := 0) (by decide) ?_
        exact r_ireturn (pc := 128) d_Md_dances_128 rfl rfl (Nat.le_refl _) ⟨rfl, _, rfl, h⟩
set_option maxRecDepth 4000 in
theorem e_Md_latestIn {l : Launch} {d : Nat} {sh : aw_SH} {S : aw_S} {P : Int32 → aw_S → Prop} {a : Nat} {p0 : Int32} {p1 : Int32} (sa : sh[a]? = some (0, 11)) (h : AW l m_Md_latestIn (d + 1) 0 0 (gI sh P) 0 0 5 [.ref a, .int p0, .int p1, .int (-1), .int 0] [] sh S) : Sp l m_Md_latestIn (d + 1) 0 0 [.ref a, .int p0, .int p1] sh S (gI sh P) := by
  refine Sp.of k_Md_latestIn (ls := [.ref a, .int p0, .int p1, .null, .null]) rfl (Nat.le_of_ble_eq_true rfl) ?_
  refine r_iconst (pc := 0) d_Md_latestIn_0 (v := (-1)) (by decide) ?_
  refine r_istore_n (pc := 1) (hk := rfl) (hd := d_Md_latestIn_1) (hi := by decide) (ls2 := [.ref a, .int p0, .int p1, .int (-1), .null]) (h2 := rfl) ?_
  refine r_iconst (pc := 2) d_Md_latestIn_2 (v := 0) (by decide) ?_
  refine r_istore (pc := 3) (hd := d_Md_latestIn_3) (hi := by decide) (ls2 := [.ref a, .int p0, .int p1, .int (-1), .int 0]) (h2 := rfl) ?_
  exact h
set_option maxRecDepth 4000 in
theorem s_Md_latestIn_5 {l : Launch} {d : Nat} {sh : aw_SH} {S : aw_S} {P : Int32 → aw_S → Prop} {a : Nat} {i1 : Int32} {i2 : Int32} {i3 : Int32} {i4 : Int32} (sa : sh[a]? = some (0, 11)) (h : ∃ r1, S.2.2 a 0 = some r1 ∧ ∃ n3, sh[r1]? = some (3, n3) ∧ vp_in (i1 + (3 : Int32)) n3 ∧ (((S.1 r1 (i1 + (3 : Int32) : Int32).toNatClampNeg) ≤ i4 → P i3 S) ∧ (¬ (S.1 r1 (i1 + (3 : Int32) : Int32).toNatClampNeg) ≤ i4 → Sp l m_Md_plaitRow d 0 0 [.int i4] sh S (gI sh (fun x7 S6 => vp_in (i1 + x7) n3 ∧ ((¬ (S6.1 r1 (i1 + x7 : Int32).toNatClampNeg) = i2 → AW l m_Md_latestIn (d + 1) 0 0 (gI sh P) 0 0 5 [.ref a, .int i1, .int i2, .int i3, .int (i4 + 1)] [] sh S6) ∧ ((S6.1 r1 (i1 + x7 : Int32).toNatClampNeg) = i2 → AW l m_Md_latestIn (d + 1) 0 0 (gI sh P) 0 0 5 [.ref a, .int i1, .int i2, .int i4, .int (i4 + 1)] [] sh S6))))))) : AW l m_Md_latestIn (d + 1) 0 0 (gI sh P) 0 0 5 [.ref a, .int i1, .int i2, .int i3, .int i4] [] sh S := by
  refine r_iload (pc := 5) d_Md_latestIn_5 (x := i4) rfl ?_
  refine r_aload_n (pc := 7) d_Md_latestIn_7 (x := a) rfl ?_
  obtain ⟨r1, er1, h⟩ := h
  refine r_getR (pc := 8) d_Md_latestIn_8 f_Md_7 sa (Or.inr ⟨_, rfl⟩) (r := r1) er1 ?_
  refine r_iload_n (pc := 11) d_Md_latestIn_11 (x := i1) rfl ?_
  refine r_iconst (pc := 12) d_Md_latestIn_12 (v := 3) (by decide) ?_
  refine r_iadd (pc := 13) d_Md_latestIn_13 ?_
  obtain ⟨n3, s2, h⟩ := h
  obtain ⟨g4, h⟩ := h
  refine r_iald (pc := 14) d_Md_latestIn_14 s2 g4 ?_
  refine r_icmp_ge (pc := 15) d_Md_latestIn_15 (tgt := 43) (by decide) (fun c5 => ?_) (fun c5 => ?_)
  · replace h := h.1 c5
    refine r_iload_n (pc := 43) d_Md_latestIn_43 (x := i3) rfl ?_
    exact r_ireturn (pc := 44) d_Md_latestIn_44 rfl rfl (Nat.le_refl _) ⟨rfl, _, rfl, h⟩
  · replace h := h.2 c5
    refine r_aload_n (pc := 18) d_Md_latestIn_18 (x := a) rfl ?_
    refine r_getR (pc := 19) d_Md_latestIn_19 f_Md_7 sa (Or.inr ⟨_, rfl⟩) (r := r1) er1 ?_
    refine r_iload_n (pc := 22) d_Md_latestIn_22 (x := i1) rfl ?_
    refine r_iload (pc := 23) d_Md_latestIn_23 (x := i4) rfl ?_
    refine r_callS (pc := 25) (k := 0) (As := [.int i4]) (rest := [.int i1, .ref r1]) (mc' := 0) (ms' := 0) lk_Md_211 st_Md_plaitRow d_Md_latestIn_25 k_Md_plaitRow rfl rfl (Nat.le_of_ble_eq_true rfl) (by decide) (by decide) (Sp.mono h ?_)
    rintro rS6 shS6 S6 ⟨qS6, x7, uS6, h⟩
    subst uS6
    rw [qS6]
    refine r_iadd (pc := 28) d_Md_latestIn_28 ?_
    obtain ⟨g8, h⟩ := h
    refine r_iald (pc := 29) d_Md_latestIn_29 s2 g8 ?_
    refine r_iload_n (pc := 30) d_Md_latestIn_30 (x := i2) rfl ?_
    refine r_icmp_ne (pc := 31) d_Md_latestIn_31 (tgt := 37) (by decide) (fun c9 => ?_) (fun c9 => ?_)
    · replace h := h.1 c9
      refine r_iinc (pc := 37) d_Md_latestIn_37 (hi := by decide) (x := i4) rfl (v := i4 + 1) rfl (ls2 := [.ref a, .int i1, .int i2, .int i3, .int (i4 + 1)]) rfl ?_
      refine r_goto (pc := 40) d_Md_latestIn_40 (tgt := 5) (by decide) ?_
      exact h
    · replace h := h.2 c9
      refine r_iload (pc := 34) d_Md_latestIn_34 (x := i4) rfl ?_
      refine r_istore_n (pc := 36) (hk := rfl) (hd := d_Md_latestIn_36) (hi := by decide) (ls2 := [.ref a, .int i1, .int i2, .int i4, .int i4]) (h2 := rfl) ?_
      refine r_iinc (pc := 37) d_Md_latestIn_37 (hi := by decide) (x := i4) rfl (v := i4 + 1) rfl (ls2 := [.ref a, .int i1, .int i2, .int i4, .int (i4 + 1)]) rfl ?_
      refine r_goto (pc := 40) d_Md_latestIn_40 (tgt := 5) (by decide) ?_
      exact h
set_option maxRecDepth 4000 in
theorem e_Md_plaitRow {l : Launch} {d : Nat} {sh : aw_SH} {S : aw_S} {P : Int32 → aw_S → Prop} {p0 : Int32} (h : P ((24 : Int32) + ((4 : Int32) * p0)) S) : Sp l m_Md_plaitRow (d + 1) 0 0 [.int p0] sh S (gI sh P) := by
  refine Sp.of k_Md_plaitRow (ls := [.int p0]) rfl (Nat.le_of_ble_eq_true rfl) ?_
  refine r_bipush (pc := 0) d_Md_plaitRow_0 (v := 24) (by decide) ?_
  refine r_iconst (pc := 2) d_Md_plaitRow_2 (v := 4) (by decide) ?_
  refine r_iload_n (pc := 3) d_Md_plaitRow_3 (x := p0) rfl ?_
  refine r_imul (pc := 4) d_Md_plaitRow_4 ?_
  refine r_iadd (pc := 5) d_Md_plaitRow_5 ?_
  exact r_ireturn (pc := 6) d_Md_plaitRow_6 rfl rfl (Nat.le_refl _) ⟨rfl, _, rfl, h⟩
set_option maxRecDepth 4000 in
theorem e_Md_isFreeIn {l : Launch} {d : Nat} {sh : aw_SH} {S : aw_S} {P : Int32 → aw_S → Prop} {a : Nat} {p0 : Int32} {p1 : Int32} (sa : sh[a]? = some (0, 11)) (h : AW l m_Md_isFreeIn (d + 1) 0 0 (gI sh P) 0 0 4 [.ref a, .int p0, .int p1, .int (p1 + (1 : Int32))] [] sh S) : Sp l m_Md_isFreeIn (d + 1) 0 0 [.ref a, .int p0, .int p1] sh S (gI sh P) := by
  refine Sp.of k_Md_isFreeIn (ls := [.ref a, .int p0, .int p1, .null]) rfl (Nat.le_of_ble_eq_true rfl) ?_
  refine r_iload_n (pc := 0) d_Md_isFreeIn_0 (x := p1) rfl ?_
  refine r_iconst (pc := 1) d_Md_isFreeIn_1 (v := 1) (by decide) ?_
  refine r_iadd (pc := 2) d_Md_isFreeIn_2 ?_
  refine r_istore_n (pc := 3) (hk := rfl) (hd := d_Md_isFreeIn_3) (hi := by decide) (ls2 := [.ref a, .int p0, .int p1, .int (p1 + (1 : Int32))]) (h2 := rfl) ?_
  exact h
set_option maxRecDepth 4000 in
theorem s_Md_isFreeIn_4 {l : Launch} {d : Nat} {sh : aw_SH} {S : aw_S} {P : Int32 → aw_S → Prop} {a : Nat} {i1 : Int32} {i2 : Int32} {i3 : Int32} (sa : sh[a]? = some (0, 11)) (h : ∃ r1, S.2.2 a 0 = some r1 ∧ ∃ n3, sh[r1]? = some (3, n3) ∧ vp_in (i1 + (3 : Int32)) n3 ∧ (((S.1 r1 (i1 + (3 : Int32) : Int32).toNatClampNeg) ≤ i3 → P 1 S) ∧ (¬ (S.1 r1 (i1 + (3 : Int32) : Int32).toNatClampNeg) ≤ i3 → Sp l m_Md_plaitRow d 0 0 [.int i3] sh S (gI sh (fun x7 S6 => vp_in (i1 + x7) n3 ∧ ∃ r9, S6.2.2 a 0 = some r9 ∧ Sp l m_Md_plaitRow d 0 0 [.int i2] sh S6 (gI sh (fun x11 S10 => ∃ n13, sh[r9]? = some (3, n13) ∧ vp_in (i1 + x11) n13 ∧ Sp l m_Md_isTouching d 0 0 [.ref a, .int i1, .int (S6.1 r1 (i1 + x7 : Int32).toNatClampNeg), .int (S10.1 r9 (i1 + x11 : Int32).toNatClampNeg)] sh S10 (gI sh (fun x16 S15 => ((x16 = 0 → AW l m_Md_isFreeIn (d + 1) 0 0 (gI sh P) 0 0 4 [.ref a, .int i1, .int i2, .int (i3 + 1)] [] sh S15) ∧ (¬ x16 = 0 → P 0 S15))))))))))) : AW l m_Md_isFreeIn (d + 1) 0 0 (gI sh P) 0 0 4 [.ref a, .int i1, .int i2, .int i3] [] sh S := by
  refine r_iload_n (pc := 4) d_Md_isFreeIn_4 (x := i3) rfl ?_
  refine r_aload_n (pc := 5) d_Md_isFreeIn_5 (x := a) rfl ?_
  obtain ⟨r1, er1, h⟩ := h
  refine r_getR (pc := 6) d_Md_isFreeIn_6 f_Md_7 sa (Or.inr ⟨_, rfl⟩) (r := r1) er1 ?_
  refine r_iload_n (pc := 9) d_Md_isFreeIn_9 (x := i1) rfl ?_
  refine r_iconst (pc := 10) d_Md_isFreeIn_10 (v := 3) (by decide) ?_
  refine r_iadd (pc := 11) d_Md_isFreeIn_11 ?_
  obtain ⟨n3, s2, h⟩ := h
  obtain ⟨g4, h⟩ := h
  refine r_iald (pc := 12) d_Md_isFreeIn_12 s2 g4 ?_
  refine r_icmp_ge (pc := 13) d_Md_isFreeIn_13 (tgt := 54) (by decide) (fun c5 => ?_) (fun c5 => ?_)
  · replace h := h.1 c5
    refine r_iconst (pc := 54) d_Md_isFreeIn_54 (v := 1) (by decide) ?_
    exact r_zreturn (pc := 55) d_Md_isFreeIn_55 (v := 1) rfl (by decide) rfl (Nat.le_refl _) ⟨rfl, _, rfl, h⟩
  · replace h := h.2 c5
    refine r_aload_n (pc := 16) d_Md_isFreeIn_16 (x := a) rfl ?_
    refine r_iload_n (pc := 17) d_Md_isFreeIn_17 (x := i1) rfl ?_
    refine r_aload_n (pc := 18) d_Md_isFreeIn_18 (x := a) rfl ?_
    refine r_getR (pc := 19) d_Md_isFreeIn_19 f_Md_7 sa (Or.inr ⟨_, rfl⟩) (r := r1) er1 ?_
    refine r_iload_n (pc := 22) d_Md_isFreeIn_22 (x := i1) rfl ?_
    refine r_iload_n (pc := 23) d_Md_isFreeIn_23 (x := i3) rfl ?_
    refine r_callS (pc := 24) (k := 0) (As := [.int i3]) (rest := [.int i1, .ref r1, .int i1, .ref a]) (mc' := 0) (ms' := 0) lk_Md_211 st_Md_plaitRow d_Md_isFreeIn_24 k_Md_plaitRow rfl rfl (Nat.le_of_ble_eq_true rfl) (by decide) (by decide) (Sp.mono h ?_)
    rintro rS6 shS6 S6 ⟨qS6, x7, uS6, h⟩
    subst uS6
    rw [qS6]
    refine r_iadd (pc := 27) d_Md_isFreeIn_27 ?_
    obtain ⟨g8, h⟩ := h
    refine r_iald (pc := 28) d_Md_isFreeIn_28 s2 g8 ?_
    refine r_aload_n (pc := 29) d_Md_isFreeIn_29 (x := a) rfl ?_
    obtain ⟨r9, er9, h⟩ := h
    refine r_getR (pc := 30) d_Md_isFreeIn_30 f_Md_7 sa (Or.inr ⟨_, rfl⟩) (r := r9) er9 ?_
    refine r_iload_n (pc := 33) d_Md_isFreeIn_33 (x := i1) rfl ?_
    refine r_iload_n (pc := 34) d_Md_isFreeIn_34 (x := i2) rfl ?_
    refine r_callS (pc := 35) (k := 0) (As := [.int i2]) (rest := [.int i1, .ref r9, .int (S6.1 r1 (i1 + x7 : Int32).toNatClampNeg), .int i1, .ref a]) (mc' := 0) (ms' := 0) lk_Md_211 st_Md_plaitRow d_Md_isFreeIn_35 k_Md_plaitRow rfl rfl (Nat.le_of_ble_eq_true rfl) (by decide) (by decide) (Sp.mono h ?_)
    rintro rS10 shS10 S10 ⟨qS10, x11, uS10, h⟩
    subst uS10
    rw [qS10]
    refine r_iadd (pc := 38) d_Md_isFreeIn_38 ?_
    obtain ⟨n13, s12, h⟩ := h
    obtain ⟨g14, h⟩ := h
    refine r_iald (pc := 39) d_Md_isFreeIn_39 s12 g14 ?_
    refine r_callV (pc := 40) (k := a) (As := [.int i1, .int (S6.1 r1 (i1 + x7 : Int32).toNatClampNeg), .int (S10.1 r9 (i1 + x11 : Int32).toNatClampNeg)]) (rest := []) (mc' := 0) (ms' := 0) lk_Md_217 in_Md_isTouching se_Md_isTouching sa rfl d_Md_isFreeIn_40 k_Md_isTouching rfl rfl (Nat.le_of_ble_eq_true rfl) (by decide) (by decide) (Sp.mono h ?_)
    rintro rS15 shS15 S15 ⟨qS15, x16, uS15, h⟩
    subst uS15
    rw [qS15]
    refine r_if_eq (pc := 43) d_Md_isFreeIn_43 (tgt := 48) (by decide) (fun c17 => ?_) (fun c17 => ?_)
    · replace h := h.1 c17
      refine r_iinc (pc := 48) d_Md_isFreeIn_48 (hi := by decide) (x := i3) rfl (v := i3 + 1) rfl (ls2 := [.ref a, .int i1, .int i2, .int (i3 + 1)]) rfl ?_
      refine r_goto (pc := 51) d_Md_isFreeIn_51 (tgt := 4) (by decide) ?_
      exact h
    · replace h := h.2 c17
      refine r_iconst (pc := 46) d_Md_isFreeIn_46 (v := 0) (by decide) ?_
      exact r_zreturn (pc := 47) d_Md_isFreeIn_47 (v := 0) rfl (by decide) rfl (Nat.le_refl _) ⟨rfl, _, rfl, h⟩
set_option maxRecDepth 4000 in
theorem e_Md_isTouching {l : Launch} {d : Nat} {sh : aw_SH} {S : aw_S} {P : Int32 → aw_S → Prop} {a : Nat} {p0 : Int32} {p1 : Int32} {p2 : Int32} (sa : sh[a]? = some (0, 11)) (h : ∃ r1, S.2.2 a 0 = some r1 ∧ ∃ n3, sh[r1]? = some (3, n3) ∧ vp_in (p0 + (0 : Int32)) n3 ∧ ¬ (S.1 r1 (p0 + (0 : Int32) : Int32).toNatClampNeg) = 0 ∧ ∀ v5 : Int32, v5 = ((p1 - p2) + (S.1 r1 (p0 + (0 : Int32) : Int32).toNatClampNeg)) - ((p1 - p2) + (S.1 r1 (p0 + (0 : Int32) : Int32).toNatClampNeg)) / (S.1 r1 (p0 + (0 : Int32) : Int32).toNatClampNeg) * (S.1 r1 (p0 + (0 : Int32) : Int32).toNatClampNeg) → ((v5 = 0 → P 1 S) ∧ (¬ v5 = 0 → (((S.1 r1 (p0 + (0 : Int32) : Int32).toNatClampNeg) ≤ 2 → P 0 S) ∧ (¬ (S.1 r1 (p0 + (0 : Int32) : Int32).toNatClampNeg) ≤ 2 → ((v5 = 1 → P 1 S) ∧ (¬ v5 = 1 → ((¬ v5 = ((S.1 r1 (p0 + (0 : Int32) : Int32).toNatClampNeg) - (1 : Int32)) → P 0 S) ∧ (v5 = ((S.1 r1 (p0 + (0 : Int32) : Int32).toNatClampNeg) - (1 : Int32)) → P 1 S))))))))) : Sp l m_Md_isTouching (d + 1) 0 0 [.ref a, .int p0, .int p1, .int p2] sh S (gI sh P) := by
  refine Sp.of k_Md_isTouching (ls := [.ref a, .int p0, .int p1, .int p2, .null, .null]) rfl (Nat.le_of_ble_eq_true rfl) ?_
  refine r_aload_n (pc := 0) d_Md_isTouching_0 (x := a) rfl ?_
  obtain ⟨r1, er1, h⟩ := h
  refine r_getR (pc := 1) d_Md_isTouching_1 f_Md_7 sa (Or.inr ⟨_, rfl⟩) (r := r1) er1 ?_
  refine r_iload_n (pc := 4) d_Md_isTouching_4 (x := p0) rfl ?_
  refine r_iconst (pc := 5) d_Md_isTouching_5 (v := 0) (by decide) ?_
  refine r_iadd (pc := 6) d_Md_isTouching_6 ?_
  obtain ⟨n3, s2, h⟩ := h
  obtain ⟨g4, h⟩ := h
  refine r_iald (pc := 7) d_Md_isTouching_7 s2 g4 ?_
  refine r_istore (pc := 8) (hd := d_Md_isTouching_8) (hi := by decide) (ls2 := [.ref a, .int p0, .int p1, .int p2, .int (S.1 r1 (p0 + (0 : Int32) : Int32).toNatClampNeg), .null]) (h2 := rfl) ?_
  refine r_iload_n (pc := 10) d_Md_isTouching_10 (x := p1) rfl ?_
  refine r_iload_n (pc := 11) d_Md_isTouching_11 (x := p2) rfl ?_
  refine r_isub (pc := 12) d_Md_isTouching_12 ?_
  refine r_iload (pc := 13) d_Md_isTouching_13 (x := (S.1 r1 (p0 + (0 : Int32) : Int32).toNatClampNeg)) rfl ?_
  refine r_iadd (pc := 15) d_Md_isTouching_15 ?_
  refine r_iload (pc := 16) d_Md_isTouching_16 (x := (S.1 r1 (p0 + (0 : Int32) : Int32).toNatClampNeg)) rfl ?_
  obtain ⟨g10, h⟩ := h
  refine r_irem (pc := 18) d_Md_isTouching_18 g10 ?_
  refine r_ni (fun v5 ev5 => ?_)
  replace h := h v5 ev5
  refine r_istore (pc := 19) (hd := d_Md_isTouching_19) (hi := by decide) (ls2 := [.ref a, .int p0, .int p1, .int p2, .int (S.1 r1 (p0 + (0 : Int32) : Int32).toNatClampNeg), .int v5]) (h2 := rfl) ?_
  refine r_iload (pc := 21) d_Md_isTouching_21 (x := v5) rfl ?_
  refine r_if_eq (pc := 23) d_Md_isTouching_23 (tgt := 47) (by decide) (fun c6 => ?_) (fun c6 => ?_)
  · replace h := h.1 c6
    refine r_iconst (pc := 47) d_Md_isTouching_47 (v := 1) (by decide) ?_
    refine r_goto (pc := 48) d_Md_isTouching_48 (tgt := 52) (by decide) ?_
    exact r_zreturn (pc := 52) d_Md_isTouching_52 (v := 1) rfl (by decide) rfl (Nat.le_refl _) ⟨rfl, _, rfl, h⟩
  · replace h := h.2 c6
    refine r_iload (pc := 26) d_Md_isTouching_26 (x := (S.1 r1 (p0 + (0 : Int32) : Int32).toNatClampNeg)) rfl ?_
    refine r_iconst (pc := 28) d_Md_isTouching_28 (v := 2) (by decide) ?_
    refine r_icmp_le (pc := 29) d_Md_isTouching_29 (tgt := 51) (by decide) (fun c7 => ?_) (fun c7 => ?_)
    · replace h := h.1 c7
      refine r_iconst (pc := 51) d_Md_isTouching_51 (v := 0) (by decide) ?_
      exact r_zreturn (pc := 52) d_Md_isTouching_52 (v := 0) rfl (by decide) rfl (Nat.le_refl _) ⟨rfl, _, rfl, h⟩
    · replace h := h.2 c7
      refine r_iload (pc := 32) d_Md_isTouching_32 (x := v5) rfl ?_
      refine r_iconst (pc := 34) d_Md_isTouching_34 (v := 1) (by decide) ?_
      refine r_icmp_eq (pc := 35) d_Md_isTouching_35 (tgt := 47) (by decide) (fun c8 => ?_) (fun c8 => ?_)
      · replace h := h.1 c8
        refine r_iconst (pc := 47) d_Md_isTouching_47 (v := 1) (by decide) ?_
        refine r_goto (pc := 48) d_Md_isTouching_48 (tgt := 52) (by decide) ?_
        exact r_zreturn (pc := 52) d_Md_isTouching_52 (v := 1) rfl (by decide) rfl (Nat.le_refl _) ⟨rfl, _, rfl, h⟩
      · replace h := h.2 c8
        refine r_iload (pc := 38) d_Md_isTouching_38 (x := v5) rfl ?_
        refine r_iload (pc := 40) d_Md_isTouching_40 (x := (S.1 r1 (p0 + (0 : Int32) : Int32).toNatClampNeg)) rfl ?_
        refine r_iconst (pc := 42) d_Md_isTouching_42 (v := 1) (by decide) ?_
        refine r_isub (pc := 43) d_Md_isTouching_43 ?_
        refine r_icmp_ne (pc := 44) d_Md_isTouching_44 (tgt := 51) (by decide) (fun c9 => ?_) (fun c9 => ?_)
        · replace h := h.1 c9
          refine r_iconst (pc := 51) d_Md_isTouching_51 (v := 0) (by decide) ?_
          exact r_zreturn (pc := 52) d_Md_isTouching_52 (v := 0) rfl (by decide) rfl (Nat.le_refl _) ⟨rfl, _, rfl, h⟩
        · replace h := h.2 c9
          refine r_iconst (pc := 47) d_Md_isTouching_47 (v := 1) (by decide) ?_
          refine r_goto (pc := 48) d_Md_isTouching_48 (tgt := 52) (by decide) ?_
          exact r_zreturn (pc := 52) d_Md_isTouching_52 (v := 1) rfl (by decide) rfl (Nat.le_refl _) ⟨rfl, _, rfl, h⟩
set_option maxRecDepth 4000 in
theorem e_Md_swaps {l : Launch} {d : Nat} {sh : aw_SH} {S : aw_S} {P : aw_S → Prop} {a : Nat} {p0 : Int32} {p1 : Int32} (sa : sh[a]? = some (0, 11)) (h : ∃ r1, S.2.2 a 0 = some r1 ∧ ∃ n3, sh[r1]? = some (3, n3) ∧ vp_in (p0 + (0 : Int32)) n3 ∧ ¬ (S.1 r1 (p0 + (0 : Int32) : Int32).toNatClampNeg) = 0 ∧ ∀ v5 : Int32, v5 = (p1 + (1 : Int32)) - (p1 + (1 : Int32)) / (S.1 r1 (p0 + (0 : Int32) : Int32).toNatClampNeg) * (S.1 r1 (p0 + (0 : Int32) : Int32).toNatClampNeg) → vp_in ((p0 + (17 : Int32)) + p1) n3 ∧ vp_in ((p0 + (17 : Int32)) + v5) n3 ∧ vp_in ((p0 + (17 : Int32)) + p1) n3 ∧ vp_in ((p0 + (17 : Int32)) + v5) n3 ∧ P (aw_uI (aw_uI S r1 (((p0 + (17 : Int32)) + p1 : Int32).toNatClampNeg) (S.1 r1 ((p0 + (17 : Int32)) + v5 : Int32).toNatClampNeg)) r1 (((p0 + (17 : Int32)) + v5 : Int32).toNatClampNeg) (S.1 r1 ((p0 + (17 : Int32)) + p1 : Int32).toNatClampNeg))) : Sp l m_Md_swaps (d + 1) 0 0 [.ref a, .int p0, .int p1] sh S (gV sh P) := by
  refine Sp.of k_Md_swaps (ls := [.ref a, .int p0, .int p1, .null, .null]) rfl (Nat.le_of_ble_eq_true rfl) ?_
  refine r_iload_n (pc := 0) d_Md_swaps_0 (x := p1) rfl ?_
  refine r_iconst (pc := 1) d_Md_swaps_1 (v := 1) (by decide) ?_
  refine r_iadd (pc := 2) d_Md_swaps_2 ?_
  refine r_aload_n (pc := 3) d_Md_swaps_3 (x := a) rfl ?_
  obtain ⟨r1, er1, h⟩ := h
  refine r_getR (pc := 4) d_Md_swaps_4 f_Md_7 sa (Or.inr ⟨_, rfl⟩) (r := r1) er1 ?_
  refine r_iload_n (pc := 7) d_Md_swaps_7 (x := p0) rfl ?_
  refine r_iconst (pc := 8) d_Md_swaps_8 (v := 0) (by decide) ?_
  refine r_iadd (pc := 9) d_Md_swaps_9 ?_
  obtain ⟨n3, s2, h⟩ := h
  obtain ⟨g4, h⟩ := h
  refine r_iald (pc := 10) d_Md_swaps_10 s2 g4 ?_
  obtain ⟨g10, h⟩ := h
  refine r_irem (pc := 11) d_Md_swaps_11 g10 ?_
  refine r_ni (fun v5 ev5 => ?_)
  replace h := h v5 ev5
  refine r_istore_n (pc := 12) (hk := rfl) (hd := d_Md_swaps_12) (hi := by decide) (ls2 := [.ref a, .int p0, .int p1, .int v5, .null]) (h2 := rfl) ?_
  refine r_aload_n (pc := 13) d_Md_swaps_13 (x := a) rfl ?_
  refine r_getR (pc := 14) d_Md_swaps_14 f_Md_7 sa (Or.inr ⟨_, rfl⟩) (r := r1) er1 ?_
  refine r_iload_n (pc := 17) d_Md_swaps_17 (x := p0) rfl ?_
  refine r_bipush (pc := 18) d_Md_swaps_18 (v := 17) (by decide) ?_
  refine r_iadd (pc := 20) d_Md_swaps_20 ?_
  refine r_iload_n (pc := 21) d_Md_swaps_21 (x := p1) rfl ?_
  refine r_iadd (pc := 22) d_Md_swaps_22 ?_
  obtain ⟨g6, h⟩ := h
  refine r_iald (pc := 23) d_Md_swaps_23 s2 g6 ?_
  refine r_istore (pc := 24) (hd := d_Md_swaps_24) (hi := by decide) (ls2 := [.ref a, .int p0, .int p1, .int v5, .int (S.1 r1 ((p0 + (17 : Int32)) + p1 : Int32).toNatClampNeg)]) (h2 := rfl) ?_
  refine r_aload_n (pc := 26) d_Md_swaps_26 (x := a) rfl ?_
  refine r_getR (pc := 27) d_Md_swaps_27 f_Md_7 sa (Or.inr ⟨_, rfl⟩) (r := r1) er1 ?_
  refine r_iload_n (pc := 30) d_Md_swaps_30 (x := p0) rfl ?_
  refine r_bipush (pc := 31) d_Md_swaps_31 (v := 17) (by decide) ?_
  refine r_iadd (pc := 33) d_Md_swaps_33 ?_
  refine r_iload_n (pc := 34) d_Md_swaps_34 (x := p1) rfl ?_
  refine r_iadd (pc := 35) d_Md_swaps_35 ?_
  refine r_aload_n (pc := 36) d_Md_swaps_36 (x := a) rfl ?_
  refine r_getR (pc := 37) d_Md_swaps_37 f_Md_7 sa (Or.inr ⟨_, rfl⟩) (r := r1) er1 ?_
  refine r_iload_n (pc := 40) d_Md_swaps_40 (x := p0) rfl ?_
  refine r_bipush (pc := 41) d_Md_swaps_41 (v := 17) (by decide) ?_
  refine r_iadd (pc := 43) d_Md_swaps_43 ?_
  refine r_iload_n (pc := 44) d_Md_swaps_44 (x := v5) rfl ?_
  refine r_iadd (pc := 45) d_Md_swaps_45 ?_
  obtain ⟨g7, h⟩ := h
  refine r_iald (pc := 46) d_Md_swaps_46 s2 g7 ?_
  obtain ⟨g8, h⟩ := h
  refine r_iast (pc := 47) d_Md_swaps_47 s2 g8 ?_
  refine r_aload_n (pc := 48) d_Md_swaps_48 (x := a) rfl ?_
  refine r_getR (pc := 49) d_Md_swaps_49 f_Md_7 sa (Or.inr ⟨_, rfl⟩) (r := r1) er1 ?_
  refine r_iload_n (pc := 52) d_Md_swaps_52 (x := p0) rfl ?_
  refine r_bipush (pc := 53) d_Md_swaps_53 (v := 17) (by decide) ?_
  refine r_iadd (pc := 55) d_Md_swaps_55 ?_
  refine r_iload_n (pc := 56) d_Md_swaps_56 (x := v5) rfl ?_
  refine r_iadd (pc := 57) d_Md_swaps_57 ?_
  refine r_iload (pc := 58) d_Md_swaps_58 (x := (S.1 r1 ((p0 + (17 : Int32)) + p1 : Int32).toNatClampNeg)) rfl ?_
  obtain ⟨g9, h⟩ := h
  refine r_iast (pc := 60) d_Md_swaps_60 s2 g9 ?_
  exact r_return (pc := 61) d_Md_swaps_61 rfl rfl (Nat.le_refl _) ⟨rfl, rfl, h⟩
set_option maxRecDepth 4000 in
theorem e_Md_loses {l : Launch} {d : Nat} {sh : aw_SH} {S : aw_S} {P : aw_S → Prop} {a : Nat} {p0 : Int32} {p1 : Int32} (sa : sh[a]? = some (0, 11)) (h : ∃ r1, S.2.2 a 0 = some r1 ∧ ∃ n3, sh[r1]? = some (3, n3) ∧ vp_in (p0 + (3 : Int32)) n3 ∧ vp_in (p0 + (3 : Int32)) n3 ∧ Sp l m_Md_plaitRow d 0 0 [.int p1] sh (aw_uI S r1 ((p0 + (3 : Int32) : Int32).toNatClampNeg) ((S.1 r1 (p0 + (3 : Int32) : Int32).toNatClampNeg) - (1 : Int32))) (gI sh (fun x7 S6 => AW l m_Md_loses (d + 1) 0 0 (gV sh P) 0 0 17 [.ref a, .int p0, .null, .int x7] [] sh S6))) : Sp l m_Md_loses (d + 1) 0 0 [.ref a, .int p0, .int p1] sh S (gV sh P) := by
  refine Sp.of k_Md_loses (ls := [.ref a, .int p0, .int p1, .null]) rfl (Nat.le_of_ble_eq_true rfl) ?_
  refine r_aload_n (pc := 0) d_Md_loses_0 (x := a) rfl ?_
  obtain ⟨r1, er1, h⟩ := h
  refine r_getR (pc := 1) d_Md_loses_1 f_Md_7 sa (Or.inr ⟨_, rfl⟩) (r := r1) er1 ?_
  refine r_iload_n (pc := 4) d_Md_loses_4 (x := p0) rfl ?_
  refine r_iconst (pc := 5) d_Md_loses_5 (v := 3) (by decide) ?_
  refine r_iadd (pc := 6) d_Md_loses_6 ?_
  refine r_dup2 (pc := 7) d_Md_loses_7 rfl rfl ?_
  obtain ⟨n3, s2, h⟩ := h
  obtain ⟨g4, h⟩ := h
  refine r_iald (pc := 8) d_Md_loses_8 s2 g4 ?_
  refine r_iconst (pc := 9) d_Md_loses_9 (v := 1) (by decide) ?_
  refine r_isub (pc := 10) d_Md_loses_10 ?_
  obtain ⟨g5, h⟩ := h
  refine r_iast (pc := 11) d_Md_loses_11 s2 g5 ?_
  refine r_iload_n (pc := 12) d_Md_loses_12 (x := p1) rfl ?_
  refine r_callS (pc := 13) (k := 0) (As := [.int p1]) (rest := []) (mc' := 0) (ms' := 0) lk_Md_211 st_Md_plaitRow d_Md_loses_13 k_Md_plaitRow rfl rfl (Nat.le_of_ble_eq_true rfl) (by decide) (by decide) (Sp.mono h ?_)
  rintro rS6 shS6 S6 ⟨qS6, x7, uS6, h⟩
  subst uS6
  rw [qS6]
  refine r_istore_n (pc := 16) (hk := rfl) (hd := d_Md_loses_16) (hi := by decide) (ls2 := [.ref a, .int p0, .int p1, .int x7]) (h2 := rfl) ?_
  exact r_weak (ls2 := [.ref a, .int p0, .null, .int x7]) ⟨Or.inr rfl, Or.inr rfl, Or.inl rfl, Or.inr rfl, trivial⟩ h
set_option maxRecDepth 4000 in
theorem s_Md_loses_17 {l : Launch} {d : Nat} {sh : aw_SH} {S : aw_S} {P : aw_S → Prop} {a : Nat} {i1 : Int32} {i3 : Int32} (sa : sh[a]? = some (0, 11)) (h : ∃ r1, S.2.2 a 0 = some r1 ∧ ∃ n3, sh[r1]? = some (3, n3) ∧ vp_in (i1 + (3 : Int32)) n3 ∧ Sp l m_Md_plaitRow d 0 0 [.int (S.1 r1 (i1 + (3 : Int32) : Int32).toNatClampNeg)] sh S (gI sh (fun x6 S5 => ((x6 ≤ i3 → P S5) ∧ (¬ x6 ≤ i3 → ∃ r8, S5.2.2 a 0 = some r8 ∧ ∃ n10, sh[r8]? = some (3, n10) ∧ vp_in ((i1 + i3) + (4 : Int32)) n10 ∧ vp_in (i1 + i3) n10 ∧ AW l m_Md_loses (d + 1) 0 0 (gV sh P) 0 0 17 [.ref a, .int i1, .null, .int (i3 + 1)] [] sh (aw_uI S5 r8 ((i1 + i3 : Int32).toNatClampNeg) (S5.1 r8 ((i1 + i3) + (4 : Int32) : Int32).toNatClampNeg))))))) : AW l m_Md_loses (d + 1) 0 0 (gV sh P) 0 0 17 [.ref a, .int i1, .null, .int i3] [] sh S := by
  refine r_iload_n (pc := 17) d_Md_loses_17 (x := i3) rfl ?_
  refine r_aload_n (pc := 18) d_Md_loses_18 (x := a) rfl ?_
  obtain ⟨r1, er1, h⟩ := h
  refine r_getR (pc := 19) d_Md_loses_19 f_Md_7 sa (Or.inr ⟨_, rfl⟩) (r := r1) er1 ?_
  refine r_iload_n (pc := 22) d_Md_loses_22 (x := i1) rfl ?_
  refine r_iconst (pc := 23) d_Md_loses_23 (v := 3) (by decide) ?_
  refine r_iadd (pc := 24) d_Md_loses_24 ?_
  obtain ⟨n3, s2, h⟩ := h
  obtain ⟨g4, h⟩ := h
  refine r_iald (pc := 25) d_Md_loses_25 s2 g4 ?_
  refine r_callS (pc := 26) (k := 0) (As := [.int (S.1 r1 (i1 + (3 : Int32) : Int32).toNatClampNeg)]) (rest := [.int i3]) (mc' := 0) (ms' := 0) lk_Md_211 st_Md_plaitRow d_Md_loses_26 k_Md_plaitRow rfl rfl (Nat.le_of_ble_eq_true rfl) (by decide) (by decide) (Sp.mono h ?_)
  rintro rS5 shS5 S5 ⟨qS5, x6, uS5, h⟩
  subst uS5
  rw [qS5]
  refine r_icmp_ge (pc := 29) d_Md_loses_29 (tgt := 56) (by decide) (fun c7 => ?_) (fun c7 => ?_)
  · replace h := h.1 c7
    exact r_return (pc := 56) d_Md_loses_56 rfl rfl (Nat.le_refl _) ⟨rfl, rfl, h⟩
  · replace h := h.2 c7
    refine r_aload_n (pc := 32) d_Md_loses_32 (x := a) rfl ?_
    obtain ⟨r8, er8, h⟩ := h
    refine r_getR (pc := 33) d_Md_loses_33 f_Md_7 sa (Or.inr ⟨_, rfl⟩) (r := r8) er8 ?_
    refine r_iload_n (pc := 36) d_Md_loses_36 (x := i1) rfl ?_
    refine r_iload_n (pc := 37) d_Md_loses_37 (x := i3) rfl ?_
    refine r_iadd (pc := 38) d_Md_loses_38 ?_
    refine r_aload_n (pc := 39) d_Md_loses_39 (x := a) rfl ?_
    refine r_getR (pc := 40) d_Md_loses_40 f_Md_7 sa (Or.inr ⟨_, rfl⟩) (r := r8) er8 ?_
    refine r_iload_n (pc := 43) d_Md_loses_43 (x := i1) rfl ?_
    refine r_iload_n (pc := 44) d_Md_loses_44 (x := i3) rfl ?_
    refine r_iadd (pc := 45) d_Md_loses_45 ?_
    refine r_iconst (pc := 46) d_Md_loses_46 (v := 4) (by decide) ?_
    refine r_iadd (pc := 47) d_Md_loses_47 ?_
    obtain ⟨n10, s9, h⟩ := h
    obtain ⟨g11, h⟩ := h
    refine r_iald (pc := 48) d_Md_loses_48 s9 g11 ?_
    obtain ⟨g12, h⟩ := h
    refine r_iast (pc := 49) d_Md_loses_49 s9 g12 ?_
    refine r_iinc (pc := 50) d_Md_loses_50 (hi := by decide) (x := i3) rfl (v := i3 + 1) rfl (ls2 := [.ref a, .int i1, .null, .int (i3 + 1)]) rfl ?_
    refine r_goto (pc := 53) d_Md_loses_53 (tgt := 17) (by decide) ?_
    exact h
set_option maxRecDepth 4000 in
theorem e_Md_leftOf {l : Launch} {d : Nat} {sh : aw_SH} {S : aw_S} {P : Int32 → aw_S → Prop} {a : Nat} {p0 : Int32} {p1 : Int32} (sa : sh[a]? = some (0, 11)) (h : ∃ r1, S.2.2 a 0 = some r1 ∧ ∃ n3, sh[r1]? = some (3, n3) ∧ vp_in (p0 + (2 : Int32)) n3 ∧ AW l m_Md_leftOf (d + 1) 0 0 (gI sh P) 0 0 12 [.ref a, .int p0, .int p1, .int (S.1 r1 (p0 + (2 : Int32) : Int32).toNatClampNeg), .int 0, .null] [] sh S) : Sp l m_Md_leftOf (d + 1) 0 0 [.ref a, .int p0, .int p1] sh S (gI sh P) := by
  refine Sp.of k_Md_leftOf (ls := [.ref a, .int p0, .int p1, .null, .null, .null]) rfl (Nat.le_of_ble_eq_true rfl) ?_
  refine r_aload_n (pc := 0) d_Md_leftOf_0 (x := a) rfl ?_
  obtain ⟨r1, er1, h⟩ := h
  refine r_getR (pc := 1) d_Md_leftOf_1 f_Md_7 sa (Or.inr ⟨_, rfl⟩) (r := r1) er1 ?_
  refine r_iload_n (pc := 4) d_Md_leftOf_4 (x := p0) rfl ?_
  refine r_iconst (pc := 5) d_Md_leftOf_5 (v := 2) (by decide) ?_
  refine r_iadd (pc := 6) d_Md_leftOf_6 ?_
  obtain ⟨n3, s2, h⟩ := h
  obtain ⟨g4, h⟩ := h
  refine r_iald (pc := 7) d_Md_leftOf_7 s2 g4 ?_
  refine r_istore_n (pc := 8) (hk := rfl) (hd := d_Md_leftOf_8) (hi := by decide) (ls2 := [.ref a, .int p0, .int p1, .int (S.1 r1 (p0 + (2 : Int32) : Int32).toNatClampNeg), .null, .null]) (h2 := rfl) ?_
  refine r_iconst (pc := 9) d_Md_leftOf_9 (v := 0) (by decide) ?_
  refine r_istore (pc := 10) (hd := d_Md_leftOf_10) (hi := by decide) (ls2 := [.ref a, .int p0, .int p1, .int (S.1 r1 (p0 + (2 : Int32) : Int32).toNatClampNeg), .int 0, .null]) (h2 := rfl) ?_
  exact h
set_option maxRecDepth 4000 in
theorem s_Md_leftOf_12 {l : Launch} {d : Nat} {sh : aw_SH} {S : aw_S} {P : Int32 → aw_S → Prop} {a : Nat} {i1 : Int32} {i2 : Int32} {i3 : Int32} {i4 : Int32} (sa : sh[a]? = some (0, 11)) (h : ∃ r1, S.2.2 a 0 = some r1 ∧ ∃ n3, sh[r1]? = some (3, n3) ∧ vp_in (i1 + (3 : Int32)) n3 ∧ (((S.1 r1 (i1 + (3 : Int32) : Int32).toNatClampNeg) ≤ i4 → Sp l m_Ma_max d 0 0 [.int 0, .int i3] sh S (gI sh (fun x7 S6 => P x7 S6))) ∧ (¬ (S.1 r1 (i1 + (3 : Int32) : Int32).toNatClampNeg) ≤ i4 → Sp l m_Md_plaitRow d 0 0 [.int i4] sh S (gI sh (fun x9 S8 => ∃ r10, S8.2.2 a 0 = some r10 ∧ ∃ n12, sh[r10]? = some (3, n12) ∧ vp_in ((i1 + x9) + (2 : Int32)) n12 ∧ (((S8.1 r10 ((i1 + x9) + (2 : Int32) : Int32).toNatClampNeg) = i2 → AW l m_Md_leftOf (d + 1) 0 0 (gI sh P) 0 0 12 [.ref a, .int i1, .int i2, .int (i3 + (-1)), .int (i4 + 1), .null] [] sh S8) ∧ (¬ (S8.1 r10 ((i1 + x9) + (2 : Int32) : Int32).toNatClampNeg) = i2 → vp_in ((i1 + x9) + (3 : Int32)) n12 ∧ ((¬ (S8.1 r10 ((i1 + x9) + (3 : Int32) : Int32).toNatClampNeg) = i2 → AW l m_Md_leftOf (d + 1) 0 0 (gI sh P) 0 0 12 [.ref a, .int i1, .int i2, .int i3, .int (i4 + 1), .null] [] sh S8) ∧ ((S8.1 r10 ((i1 + x9) + (3 : Int32) : Int32).toNatClampNeg) = i2 → AW l m_Md_leftOf (d + 1) 0 0 (gI sh P) 0 0 12 [.ref a, .int i1, .int i2, .int (i3 + (-1)), .int (i4 + 1), .null] [] sh S8))))))))) : AW l m_Md_leftOf (d + 1) 0 0 (gI sh P) 0 0 12 [.ref a, .int i1, .int i2, .int i3, .int i4, .null] [] sh S := by
  refine r_iload (pc := 12) d_Md_leftOf_12 (x := i4) rfl ?_
  refine r_aload_n (pc := 14) d_Md_leftOf_14 (x := a) rfl ?_
  obtain ⟨r1, er1, h⟩ := h
  refine r_getR (pc := 15) d_Md_leftOf_15 f_Md_7 sa (Or.inr ⟨_, rfl⟩) (r := r1) er1 ?_
  refine r_iload_n (pc := 18) d_Md_leftOf_18 (x := i1) rfl ?_
  refine r_iconst (pc := 19) d_Md_leftOf_19 (v := 3) (by decide) ?_
  refine r_iadd (pc := 20) d_Md_leftOf_20 ?_
  obtain ⟨n3, s2, h⟩ := h
  obtain ⟨g4, h⟩ := h
  refine r_iald (pc := 21) d_Md_leftOf_21 s2 g4 ?_
  refine r_icmp_ge (pc := 22) d_Md_leftOf_22 (tgt := 69) (by decide) (fun c5 => ?_) (fun c5 => ?_)
  · replace h := h.1 c5
    refine r_iconst (pc := 69) d_Md_leftOf_69 (v := 0) (by decide) ?_
    refine r_iload_n (pc := 70) d_Md_leftOf_70 (x := i3) rfl ?_
    refine r_callS (pc := 71) (k := 0) (As := [.int 0, .int i3]) (rest := []) (mc' := 0) (ms' := 0) lk_Md_214 st_Ma_max d_Md_leftOf_71 k_Ma_max rfl rfl (Nat.le_of_ble_eq_true rfl) (by decide) (by decide) (Sp.mono h ?_)
    rintro rS6 shS6 S6 ⟨qS6, x7, uS6, h⟩
    subst uS6
    rw [qS6]
    exact r_ireturn (pc := 74) d_Md_leftOf_74 rfl rfl (Nat.le_refl _) ⟨rfl, _, rfl, h⟩
  · replace h := h.2 c5
    refine r_iload_n (pc := 25) d_Md_leftOf_25 (x := i1) rfl ?_
    refine r_iload (pc := 26) d_Md_leftOf_26 (x := i4) rfl ?_
    refine r_callS (pc := 28) (k := 0) (As := [.int i4]) (rest := [.int i1]) (mc' := 0) (ms' := 0) lk_Md_211 st_Md_plaitRow d_Md_leftOf_28 k_Md_plaitRow rfl rfl (Nat.le_of_ble_eq_true rfl) (by decide) (by decide) (Sp.mono h ?_)
    rintro rS8 shS8 S8 ⟨qS8, x9, uS8, h⟩
    subst uS8
    rw [qS8]
    refine r_iadd (pc := 31) d_Md_leftOf_31 ?_
    refine r_istore (pc := 32) (hd := d_Md_leftOf_32) (hi := by decide) (ls2 := [.ref a, .int i1, .int i2, .int i3, .int i4, .int (i1 + x9)]) (h2 := rfl) ?_
    refine r_aload_n (pc := 34) d_Md_leftOf_34 (x := a) rfl ?_
    obtain ⟨r10, er10, h⟩ := h
    refine r_getR (pc := 35) d_Md_leftOf_35 f_Md_7 sa (Or.inr ⟨_, rfl⟩) (r := r10) er10 ?_
    refine r_iload (pc := 38) d_Md_leftOf_38 (x := (i1 + x9)) rfl ?_
    refine r_iconst (pc := 40) d_Md_leftOf_40 (v := 2) (by decide) ?_
    refine r_iadd (pc := 41) d_Md_leftOf_41 ?_
    obtain ⟨n12, s11, h⟩ := h
    obtain ⟨g13, h⟩ := h
    refine r_iald (pc := 42) d_Md_leftOf_42 s11 g13 ?_
    refine r_iload_n (pc := 43) d_Md_leftOf_43 (x := i2) rfl ?_
    refine r_icmp_eq (pc := 44) d_Md_leftOf_44 (tgt := 60) (by decide) (fun c14 => ?_) (fun c14 => ?_)
    · replace h := h.1 c14
      refine r_iinc (pc := 60) d_Md_leftOf_60 (hi := by decide) (x := i3) rfl (v := i3 + (-1)) rfl (ls2 := [.ref a, .int i1, .int i2, .int (i3 + (-1)), .int i4, .int (i1 + x9)]) rfl ?_
      refine r_iinc (pc := 63) d_Md_leftOf_63 (hi := by decide) (x := i4) rfl (v := i4 + 1) rfl (ls2 := [.ref a, .int i1, .int i2, .int (i3 + (-1)), .int (i4 + 1), .int (i1 + x9)]) rfl ?_
      refine r_goto (pc := 66) d_Md_leftOf_66 (tgt := 12) (by decide) ?_
      exact r_weak (ls2 := [.ref a, .int i1, .int i2, .int (i3 + (-1)), .int (i4 + 1), .null]) ⟨Or.inr rfl, Or.inr rfl, Or.inr rfl, Or.inr rfl, Or.inr rfl, Or.inl rfl, trivial⟩ h
    · replace h := h.2 c14
      refine r_aload_n (pc := 47) d_Md_leftOf_47 (x := a) rfl ?_
      refine r_getR (pc := 48) d_Md_leftOf_48 f_Md_7 sa (Or.inr ⟨_, rfl⟩) (r := r10) er10 ?_
      refine r_iload (pc := 51) d_Md_leftOf_51 (x := (i1 + x9)) rfl ?_
      refine r_iconst (pc := 53) d_Md_leftOf_53 (v := 3) (by decide) ?_
      refine r_iadd (pc := 54) d_Md_leftOf_54 ?_
      obtain ⟨g15, h⟩ := h
      refine r_iald (pc := 55) d_Md_leftOf_55 s11 g15 ?_
      refine r_iload_n (pc := 56) d_Md_leftOf_56 (x := i2) rfl ?_
      refine r_icmp_ne (pc := 57) d_Md_leftOf_57 (tgt := 63) (by decide) (fun c16 => ?_) (fun c16 => ?_)
      · replace h := h.1 c16
        refine r_iinc (pc := 63) d_Md_leftOf_63 (hi := by decide) (x := i4) rfl (v := i4 + 1) rfl (ls2 := [.ref a, .int i1, .int i2, .int i3, .int (i4 + 1), .int (i1 + x9)]) rfl ?_
        refine r_goto (pc := 66) d_Md_leftOf_66 (tgt := 12) (by decide) ?_
        exact r_weak (ls2 := [.ref a, .int i1, .int i2, .int i3, .int (i4 + 1), .null]) ⟨Or.inr rfl, Or.inr rfl, Or.inr rfl, Or.inr rfl, Or.inr rfl, Or.inl rfl, trivial⟩ h
      · replace h := h.2 c16
        refine r_iinc (pc := 60) d_Md_leftOf_60 (hi := by decide) (x := i3) rfl (v := i3 + (-1)) rfl (ls2 := [.ref a, .int i1, .int i2, .int (i3 + (-1)), .int i4, .int (i1 + x9)]) rfl ?_
        refine r_iinc (pc := 63) d_Md_leftOf_63 (hi := by decide) (x := i4) rfl (v := i4 + 1) rfl (ls2 := [.ref a, .int i1, .int i2, .int (i3 + (-1)), .int (i4 + 1), .int (i1 + x9)]) rfl ?_
        refine r_goto (pc := 66) d_Md_leftOf_66 (tgt := 12) (by decide) ?_
        exact r_weak (ls2 := [.ref a, .int i1, .int i2, .int (i3 + (-1)), .int (i4 + 1), .null]) ⟨Or.inr rfl, Or.inr rfl, Or.inr rfl, Or.inr rfl, Or.inr rfl, Or.inl rfl, trivial⟩ h
set_option maxRecDepth 4000 in
theorem e_Md_taken {l : Launch} {d : Nat} {sh : aw_SH} {S : aw_S} {P : Int32 → aw_S → Prop} {a : Nat} {p0 : Int32} (sa : sh[a]? = some (0, 11)) (h : ((((aw_uI S a 16 (S.1 a 18)).1 a 18) ≤ 0 → Sp l m_Md_gives d 0 0 [.ref a, .int p0] sh (aw_uI S a 16 (S.1 a 18)) (gI sh (fun x3 S2 => P x3 S2))) ∧ (¬ ((aw_uI S a 16 (S.1 a 18)).1 a 18) ≤ 0 → Sp l m_Md_refuse d 0 0 [.ref a, .int 9] sh (aw_uI S a 16 (S.1 a 18)) (gI sh (fun x5 S4 => P x5 S4))))) : Sp l m_Md_taken (d + 1) 0 0 [.ref a, .int p0] sh S (gI sh P) := by
  refine Sp.of k_Md_taken (ls := [.ref a, .int p0]) rfl (Nat.le_of_ble_eq_true rfl) ?_
  refine r_aload_n (pc := 0) d_Md_taken_0 (x := a) rfl ?_
  refine r_aload_n (pc := 1) d_Md_taken_1 (x := a) rfl ?_
  refine r_getI (pc := 2) d_Md_taken_2 f_Md_188 sa rfl ?_
  refine r_putI (pc := 5) d_Md_taken_5 f_Md_37 sa rfl ?_
  refine r_aload_n (pc := 8) d_Md_taken_8 (x := a) rfl ?_
  refine r_getI (pc := 9) d_Md_taken_9 f_Md_188 sa rfl ?_
  refine r_if_le (pc := 12) d_Md_taken_12 (tgt := 24) (by decide) (fun c1 => ?_) (fun c1 => ?_)
  · replace h := h.1 c1
    refine r_aload_n (pc := 24) d_Md_taken_24 (x := a) rfl ?_
    refine r_iload_n (pc := 25) d_Md_taken_25 (x := p0) rfl ?_
    refine r_callV (pc := 26) (k := a) (As := [.int p0]) (rest := []) (mc' := 0) (ms' := 0) lk_Md_122 in_Md_gives se_Md_gives sa rfl d_Md_taken_26 k_Md_gives rfl rfl (Nat.le_of_ble_eq_true rfl) (by decide) (by decide) (Sp.mono h ?_)
    rintro rS2 shS2 S2 ⟨qS2, x3, uS2, h⟩
    subst uS2
    rw [qS2]
    exact r_ireturn (pc := 29) d_Md_taken_29 rfl rfl (Nat.le_refl _) ⟨rfl, _, rfl, h⟩
  · replace h := h.2 c1
    refine r_aload_n (pc := 15) d_Md_taken_15 (x := a) rfl ?_
    refine r_bipush (pc := 16) d_Md_taken_16 (v := 9) (by decide) ?_
    refine r_callV (pc := 18) (k := a) (As := [.int 9]) (rest := []) (mc' := 0) (ms' := 0) lk_Md_118 in_Md_refuse se_Md_refuse sa rfl d_Md_taken_18 k_Md_refuse rfl rfl (Nat.le_of_ble_eq_true rfl) (by decide) (by decide) (Sp.mono h ?_)
    rintro rS4 shS4 S4 ⟨qS4, x5, uS4, h⟩
    subst uS4
    rw [qS4]
    refine r_goto (pc := 21) d_Md_taken_21 (tgt := 29) (by decide) ?_
    exact r_ireturn (pc := 29) d_Md_taken_29 rfl rfl (Nat.le_refl _) ⟨rfl, _, rfl, h⟩
set_option maxRecDepth 4000 in
theorem e_Md_gives {l : Launch} {d : Nat} {sh : aw_SH} {S : aw_S} {P : Int32 → aw_S → Prop} {a : Nat} {p0 : Int32} (sa : sh[a]? = some (0, 11)) (h : P p0 (aw_uI S a 2 0)) : Sp l m_Md_gives (d + 1) 0 0 [.ref a, .int p0] sh S (gI sh P) := by
  refine Sp.of k_Md_gives (ls := [.ref a, .int p0]) rfl (Nat.le_of_ble_eq_true rfl) ?_
  refine r_aload_n (pc := 0) d_Md_gives_0 (x := a) rfl ?_
  refine r_iconst (pc := 1) d_Md_gives_1 (v := 0) (by decide) ?_
  refine r_putI (pc := 2) d_Md_gives_2 f_Md_112 sa rfl ?_
  refine r_iload_n (pc := 5) d_Md_gives_5 (x := p0) rfl ?_
  exact r_ireturn (pc := 6) d_Md_gives_6 rfl rfl (Nat.le_refl _) ⟨rfl, _, rfl, h⟩
set_option maxRecDepth 4000 in
theorem e_Md_feasts {l : Launch} {d : Nat} {sh : aw_SH} {S : aw_S} {P : Int32 → aw_S → Prop} {a : Nat} {p0 : Int32} (sa : sh[a]? = some (0, 11)) (h : Sp l m_Md_begins d 0 0 [.ref a, .int p0, .int 300] sh S (gI sh (fun x2 S1 => ((¬ x2 = 0 → ∃ r4, S1.2.2 a 0 = some r4 ∧ ∃ n6, sh[r4]? = some (3, n6) ∧ vp_in 2213 n6 ∧ AW l m_Md_feasts (d + 1) 0 0 (gI sh P) 0 0 38 [.ref a, .null, .int 1, .null] [] sh (aw_uI (aw_uI (aw_uI S1 r4 ((2213 : Int32).toNatClampNeg) 0) a 22 0) a 23 0)) ∧ (x2 = 0 → Sp l m_Md_refuse d 0 0 [.ref a, .int 1] sh S1 (gI sh (fun x9 S8 => P x9 S8))))))) : Sp l m_Md_feasts (d + 1) 0 0 [.ref a, .int p0] sh S (gI sh P) := by
  refine Sp.of k_Md_feasts (ls := [.ref a, .int p0, .null, .null]) rfl (Nat.le_of_ble_eq_true rfl) ?_
  refine r_aload_n (pc := 0) d_Md_feasts_0 (x := a) rfl ?_
  refine r_iload_n (pc := 1) d_Md_feasts_1 (x := p0) rfl ?_
  refine r_sipush (pc := 2) d_Md_feasts_2 (v := 300) (by decide) ?_
  refine r_callV (pc := 5) (k := a) (As := [.int p0, .int 300]) (rest := []) (mc' := 0) (ms' := 0) lk_Md_283 in_Md_begins se_Md_begins sa rfl d_Md_feasts_5 k_Md_begins rfl rfl (Nat.le_of_ble_eq_true rfl) (by decide) (by decide) (Sp.mono h ?_)
  rintro rS1 shS1 S1 ⟨qS1, x2, uS1, h⟩
  subst uS1
  rw [qS1]
  refine r_if_ne (pc := 8) d_Md_feasts_8 (tgt := 17) (by decide) (fun c3 => ?_) (fun c3 => ?_)
  · replace h := h.1 c3
    refine r_aload_n (pc := 17) d_Md_feasts_17 (x := a) rfl ?_
    obtain ⟨r4, er4, h⟩ := h
    refine r_getR (pc := 18) d_Md_feasts_18 f_Md_7 sa (Or.inr ⟨_, rfl⟩) (r := r4) er4 ?_
    refine r_sipush (pc := 21) d_Md_feasts_21 (v := 2213) (by decide) ?_
    refine r_iconst (pc := 24) d_Md_feasts_24 (v := 0) (by decide) ?_
    obtain ⟨n6, s5, h⟩ := h
    obtain ⟨g7, h⟩ := h
    refine r_iast (pc := 25) d_Md_feasts_25 s5 g7 ?_
    refine r_aload_n (pc := 26) d_Md_feasts_26 (x := a) rfl ?_
    refine r_iconst (pc := 27) d_Md_feasts_27 (v := 0) (by decide) ?_
    refine r_putI (pc := 28) d_Md_feasts_28 f_Md_301 sa rfl ?_
    refine r_aload_n (pc := 31) d_Md_feasts_31 (x := a) rfl ?_
    refine r_iconst (pc := 32) d_Md_feasts_32 (v := 0) (by decide) ?_
    refine r_putI (pc := 33) d_Md_feasts_33 f_Md_304 sa rfl ?_
    refine r_iconst (pc := 36) d_Md_feasts_36 (v := 1) (by decide) ?_
    refine r_istore_n (pc := 37) (hk := rfl) (hd := d_Md_feasts_37) (hi := by decide) (ls2 := [.ref a, .int p0, .int 1, .null]) (h2 := rfl) ?_
    exact r_weak (ls2 := [.ref a, .null, .int 1, .null]) ⟨Or.inr rfl, Or.inl rfl, Or.inr rfl, Or.inl rfl, trivial⟩ h
  · replace h := h.2 c3
    refine r_aload_n (pc := 11) d_Md_feasts_11 (x := a) rfl ?_
    refine r_iconst (pc := 12) d_Md_feasts_12 (v := 1) (by decide) ?_
    refine r_callV (pc := 13) (k := a) (As := [.int 1]) (rest := []) (mc' := 0) (ms' := 0) lk_Md_118 in_Md_refuse se_Md_refuse sa rfl d_Md_feasts_13 k_Md_refuse rfl rfl (Nat.le_of_ble_eq_true rfl) (by decide) (by decide) (Sp.mono h ?_)
    rintro rS8 shS8 S8 ⟨qS8, x9, uS8, h⟩
    subst uS8
    rw [qS8]
    exact r_ireturn (pc := 16) d_Md_feasts_16 rfl rfl (Nat.le_refl _) ⟨rfl, _, rfl, h⟩
set_option maxRecDepth 4000 in
theorem s_Md_feasts_38 {l : Launch} {d : Nat} {sh : aw_SH} {S : aw_S} {P : Int32 → aw_S → Prop} {a : Nat} {i2 : Int32} (sa : sh[a]? = some (0, 11)) (h : ((i2 = 0 → ((¬ (S.1 a 18) = 0 → ((¬ (S.1 a 18) = 0 → Sp l m_Md_taken d 0 0 [.ref a, .int (S.1 a 23)] sh S (gI sh (fun x5 S4 => P x5 S4))) ∧ ((S.1 a 18) = 0 → ∃ r6, S.2.2 a 0 = some r6 ∧ ∃ n8, sh[r6]? = some (3, n8) ∧ vp_in 2213 n8 ∧ vp_in 5 n8 ∧ AW l m_Md_feasts (d + 1) 0 0 (gI sh P) 0 0 102 [.ref a, .null, .null, .int 184] [] sh (aw_uI S r6 ((5 : Int32).toNatClampNeg) (S.1 r6 (2213 : Int32).toNatClampNeg))))) ∧ ((S.1 a 18) = 0 → (((S.1 a 22) ≤ 0 → ((¬ (S.1 a 18) = 0 → Sp l m_Md_taken d 0 0 [.ref a, .int (S.1 a 23)] sh S (gI sh (fun x14 S13 => P x14 S13))) ∧ ((S.1 a 18) = 0 → ∃ r15, S.2.2 a 0 = some r15 ∧ ∃ n17, sh[r15]? = some (3, n17) ∧ vp_in 2213 n17 ∧ vp_in 5 n17 ∧ AW l m_Md_feasts (d + 1) 0 0 (gI sh P) 0 0 102 [.ref a, .null, .null, .int 184] [] sh (aw_uI S r15 ((5 : Int32).toNatClampNeg) (S.1 r15 (2213 : Int32).toNatClampNeg))))) ∧ (¬ (S.1 a 22) ≤ 0 → Sp l m_Md_fails d 0 0 [.ref a, .int 2] sh S (gI sh (fun x21 S20 => ((¬ (S20.1 a 18) = 0 → Sp l m_Md_taken d 0 0 [.ref a, .int (S20.1 a 23)] sh S20 (gI sh (fun x24 S23 => P x24 S23))) ∧ ((S20.1 a 18) = 0 → ∃ r25, S20.2.2 a 0 = some r25 ∧ ∃ n27, sh[r25]? = some (3, n27) ∧ vp_in 2213 n27 ∧ vp_in 5 n27 ∧ AW l m_Md_feasts (d + 1) 0 0 (gI sh P) 0 0 102 [.ref a, .null, .null, .int 184] [] sh (aw_uI S20 r25 ((5 : Int32).toNatClampNeg) (S20.1 r25 (2213 : Int32).toNatClampNeg))))))))))) ∧ (¬ i2 = 0 → (((S.1 a 12) = 0 → ((¬ (S.1 a 18) = 0 → ((¬ (S.1 a 18) = 0 → Sp l m_Md_taken d 0 0 [.ref a, .int (S.1 a 23)] sh S (gI sh (fun x34 S33 => P x34 S33))) ∧ ((S.1 a 18) = 0 → ∃ r35, S.2.2 a 0 = some r35 ∧ ∃ n37, sh[r35]? = some (3, n37) ∧ vp_in 2213 n37 ∧ vp_in 5 n37 ∧ AW l m_Md_feasts (d + 1) 0 0 (gI sh P) 0 0 102 [.ref a, .null, .null, .int 184] [] sh (aw_uI S r35 ((5 : Int32).toNatClampNeg) (S.1 r35 (2213 : Int32).toNatClampNeg))))) ∧ ((S.1 a 18) = 0 → (((S.1 a 22) ≤ 0 → ((¬ (S.1 a 18) = 0 → Sp l m_Md_taken d 0 0 [.ref a, .int (S.1 a 23)] sh S (gI sh (fun x43 S42 => P x43 S42))) ∧ ((S.1 a 18) = 0 → ∃ r44, S.2.2 a 0 = some r44 ∧ ∃ n46, sh[r44]? = some (3, n46) ∧ vp_in 2213 n46 ∧ vp_in 5 n46 ∧ AW l m_Md_feasts (d + 1) 0 0 (gI sh P) 0 0 102 [.ref a, .null, .null, .int 184] [] sh (aw_uI S r44 ((5 : Int32).toNatClampNeg) (S.1 r44 (2213 : Int32).toNatClampNeg))))) ∧ (¬ (S.1 a 22) ≤ 0 → Sp l m_Md_fails d 0 0 [.ref a, .int 2] sh S (gI sh (fun x50 S49 => ((¬ (S49.1 a 18) = 0 → Sp l m_Md_taken d 0 0 [.ref a, .int (S49.1 a 23)] sh S49 (gI sh (fun x53 S52 => P x53 S52))) ∧ ((S49.1 a 18) = 0 → ∃ r54, S49.2.2 a 0 = some r54 ∧ ∃ n56, sh[r54]? = some (3, n56) ∧ vp_in 2213 n56 ∧ vp_in 5 n56 ∧ AW l m_Md_feasts (d + 1) 0 0 (gI sh P) 0 0 102 [.ref a, .null, .null, .int 184] [] sh (aw_uI S49 r54 ((5 : Int32).toNatClampNeg) (S49.1 r54 (2213 : Int32).toNatClampNeg))))))))))) ∧ (¬ (S.1 a 12) = 0 → Sp l m_Md_feastStep d 0 0 [.ref a] sh S (gI sh (fun x60 S59 => AW l m_Md_feasts (d + 1) 0 0 (gI sh P) 0 0 38 [.ref a, .null, .int x60, .null] [] sh S59))))))) : AW l m_Md_feasts (d + 1) 0 0 (gI sh P) 0 0 38 [.ref a, .null, .int i2, .null] [] sh S := by
  refine r_iload_n (pc := 38) d_Md_feasts_38 (x := i2) rfl ?_
  refine r_if_eq (pc := 39) d_Md_feasts_39 (tgt := 57) (by decide) (fun c1 => ?_) (fun c1 => ?_)
  · replace h := h.1 c1
    refine r_aload_n (pc := 57) d_Md_feasts_57 (x := a) rfl ?_
    refine r_getI (pc := 58) d_Md_feasts_58 f_Md_188 sa rfl ?_
    refine r_if_ne (pc := 61) d_Md_feasts_61 (tgt := 77) (by decide) (fun c2 => ?_) (fun c2 => ?_)
    · replace h := h.1 c2
      refine r_aload_n (pc := 77) d_Md_feasts_77 (x := a) rfl ?_
      refine r_getI (pc := 78) d_Md_feasts_78 f_Md_188 sa rfl ?_
      refine r_if_ne (pc := 81) d_Md_feasts_81 (tgt := 131) (by decide) (fun c3 => ?_) (fun c3 => ?_)
      · replace h := h.1 c3
        refine r_aload_n (pc := 131) d_Md_feasts_131 (x := a) rfl ?_
        refine r_aload_n (pc := 132) d_Md_feasts_132 (x := a) rfl ?_
        refine r_getI (pc := 133) d_Md_feasts_133 f_Md_304 sa rfl ?_
        refine r_callV (pc := 136) (k := a) (As := [.int (S.1 a 23)]) (rest := []) (mc' := 0) (ms' := 0) lk_Md_289 in_Md_taken se_Md_taken sa rfl d_Md_feasts_136 k_Md_taken rfl rfl (Nat.le_of_ble_eq_true rfl) (by decide) (by decide) (Sp.mono h ?_)
        rintro rS4 shS4 S4 ⟨qS4, x5, uS4, h⟩
        subst uS4
        rw [qS4]
        exact r_ireturn (pc := 139) d_Md_feasts_139 rfl rfl (Nat.le_refl _) ⟨rfl, _, rfl, h⟩
      · replace h := h.2 c3
        refine r_aload_n (pc := 84) d_Md_feasts_84 (x := a) rfl ?_
        obtain ⟨r6, er6, h⟩ := h
        refine r_getR (pc := 85) d_Md_feasts_85 f_Md_7 sa (Or.inr ⟨_, rfl⟩) (r := r6) er6 ?_
        refine r_iconst (pc := 88) d_Md_feasts_88 (v := 5) (by decide) ?_
        refine r_aload_n (pc := 89) d_Md_feasts_89 (x := a) rfl ?_
        refine r_getR (pc := 90) d_Md_feasts_90 f_Md_7 sa (Or.inr ⟨_, rfl⟩) (r := r6) er6 ?_
        refine r_sipush (pc := 93) d_Md_feasts_93 (v := 2213) (by decide) ?_
        obtain ⟨n8, s7, h⟩ := h
        obtain ⟨g9, h⟩ := h
        refine r_iald (pc := 96) d_Md_feasts_96 s7 g9 ?_
        obtain ⟨g10, h⟩ := h
        refine r_iast (pc := 97) d_Md_feasts_97 s7 g10 ?_
        refine r_sipush (pc := 98) d_Md_feasts_98 (v := 184) (by decide) ?_
        refine r_istore_n (pc := 101) (hk := rfl) (hd := d_Md_feasts_101) (hi := by decide) (ls2 := [.ref a, .null, .int i2, .int 184]) (h2 := rfl) ?_
        exact r_weak (ls2 := [.ref a, .null, .null, .int 184]) ⟨Or.inr rfl, Or.inl rfl, Or.inl rfl, Or.inr rfl, trivial⟩ h
    · replace h := h.2 c2
      refine r_aload_n (pc := 64) d_Md_feasts_64 (x := a) rfl ?_
      refine r_getI (pc := 65) d_Md_feasts_65 f_Md_301 sa rfl ?_
      refine r_if_le (pc := 68) d_Md_feasts_68 (tgt := 77) (by decide) (fun c11 => ?_) (fun c11 => ?_)
      · replace h := h.1 c11
        refine r_aload_n (pc := 77) d_Md_feasts_77 (x := a) rfl ?_
        refine r_getI (pc := 78) d_Md_feasts_78 f_Md_188 sa rfl ?_
        refine r_if_ne (pc := 81) d_Md_feasts_81 (tgt := 131) (by decide) (fun c12 => ?_) (fun c12 => ?_)
        · replace h := h.1 c12
          refine r_aload_n (pc := 131) d_Md_feasts_131 (x := a) rfl ?_
          refine r_aload_n (pc := 132) d_Md_feasts_132 (x := a) rfl ?_
          refine r_getI (pc := 133) d_Md_feasts_133 f_Md_304 sa rfl ?_
          refine r_callV (pc := 136) (k := a) (As := [.int (S.1 a 23)]) (rest := []) (mc' := 0) (ms' := 0) lk_Md_289 in_Md_taken se_Md_taken sa rfl d_Md_feasts_136 k_Md_taken rfl rfl (Nat.le_of_ble_eq_true rfl) (by decide) (by decide) (Sp.mono h ?_)
          rintro rS13 shS13 S13 ⟨qS13, x14, uS13, h⟩
          subst uS13
          rw [qS13]
          exact r_ireturn (pc := 139) d_Md_feasts_139 rfl rfl (Nat.le_refl _) ⟨rfl, _, rfl, h⟩
        · replace h := h.2 c12
          refine r_aload_n (pc := 84) d_Md_feasts_84 (x := a) rfl ?_
          obtain ⟨r15, er15, h⟩ := h
          refine r_getR (pc := 85) d_Md_feasts_85 f_Md_7 sa (Or.inr ⟨_, rfl⟩) (r := r15) er15 ?_
          refine r_iconst (pc := 88) d_Md_feasts_88 (v := 5) (by decide) ?_
          refine r_aload_n (pc := 89) d_Md_feasts_89 (x := a) rfl ?_
          refine r_getR (pc := 90) d_Md_feasts_90 f_Md_7 sa (Or.inr ⟨_, rfl⟩) (r := r15) er15 ?_
          refine r_sipush (pc := 93) d_Md_feasts_93 (v := 2213) (by decide) ?_
          obtain ⟨n17, s16, h⟩ := h
          obtain ⟨g18, h⟩ := h
          refine r_iald (pc := 96) d_Md_feasts_96 s16 g18 ?_
          obtain ⟨g19, h⟩ := h
          refine r_iast (pc := 97) d_Md_feasts_97 s16 g19 ?_
          refine r_sipush (pc := 98) d_Md_feasts_98 (v := 184) (by decide) ?_
          refine r_istore_n (pc := 101) (hk := rfl) (hd := d_Md_feasts_101) (hi := by decide) (ls2 := [.ref a, .null, .int i2, .int 184]) (h2 := rfl) ?_
          exact r_weak (ls2 := [.ref a, .null, .null, .int 184]) ⟨Or.inr rfl, Or.inl rfl, Or.inl rfl, Or.inr rfl, trivial⟩ h
      · replace h := h.2 c11
        refine r_aload_n (pc := 71) d_Md_feasts_71 (x := a) rfl ?_
        refine r_iconst (pc := 72) d_Md_feasts_72 (v := 2) (by decide) ?_
        refine r_callV (pc := 73) (k := a) (As := [.int 2]) (rest := []) (mc' := 0) (ms' := 0) lk_Md_200 in_Md_fails se_Md_fails sa rfl d_Md_feasts_73 k_Md_fails rfl rfl (Nat.le_of_ble_eq_true rfl) (by decide) (by decide) (Sp.mono h ?_)
        rintro rS20 shS20 S20 ⟨qS20, x21, uS20, h⟩
        subst uS20
        rw [qS20]
        refine r_pop (pc := 76) d_Md_feasts_76 rfl ?_
        refine r_aload_n (pc := 77) d_Md_feasts_77 (x := a) rfl ?_
        refine r_getI (pc := 78) d_Md_feasts_78 f_Md_188 sa rfl ?_
        refine r_if_ne (pc := 81) d_Md_feasts_81 (tgt := 131) (by decide) (fun c22 => ?_) (fun c22 => ?_)
        · replace h := h.1 c22
          refine r_aload_n (pc := 131) d_Md_feasts_131 (x := a) rfl ?_
          refine r_aload_n (pc := 132) d_Md_feasts_132 (x := a) rfl ?_
          refine r_getI (pc := 133) d_Md_feasts_133 f_Md_304 sa rfl ?_
          refine r_callV (pc := 136) (k := a) (As := [.int (S20.1 a 23)]) (rest := []) (mc' := 0) (ms' := 0) lk_Md_289 in_Md_taken se_Md_taken sa rfl d_Md_feasts_136 k_Md_taken rfl rfl (Nat.le_of_ble_eq_true rfl) (by decide) (by decide) (Sp.mono h ?_)
          rintro rS23 shS23 S23 ⟨qS23, x24, uS23, h⟩
          subst uS23
          rw [qS23]
          exact r_ireturn (pc := 139) d_Md_feasts_139 rfl rfl (Nat.le_refl _) ⟨rfl, _, rfl, h⟩
        · replace h := h.2 c22
          refine r_aload_n (pc := 84) d_Md_feasts_84 (x := a) rfl ?_
          obtain ⟨r25, er25, h⟩ := h
          refine r_getR (pc := 85) d_Md_feasts_85 f_Md_7 sa (Or.inr ⟨_, rfl⟩) (r := r25) er25 ?_
          refine r_iconst (pc := 88) d_Md_feasts_88 (v := 5) (by decide) ?_
          refine r_aload_n (pc := 89) d_Md_feasts_89 (x := a) rfl ?_
          refine r_getR (pc := 90) d_Md_feasts_90 f_Md_7 sa (Or.inr ⟨_, rfl⟩) (r := r25) er25 ?_
          refine r_sipush (pc := 93) d_Md_feasts_93 (v := 2213) (by decide) ?_
          obtain ⟨n27, s26, h⟩ := h
          obtain ⟨g28, h⟩ := h
          refine r_iald (pc := 96) d_Md_feasts_96 s26 g28 ?_
          obtain ⟨g29, h⟩ := h
          refine r_iast (pc := 97) d_Md_feasts_97 s26 g29 ?_
          refine r_sipush (pc := 98) d_Md_feasts_98 (v := 184) (by decide) ?_
          refine r_istore_n (pc := 101) (hk := rfl) (hd := d_Md_feasts_101) (hi := by decide) (ls2 := [.ref a, .null, .int i2, .int 184]) (h2 := rfl) ?_
          exact r_weak (ls2 := [.ref a, .null, .null, .int 184]) ⟨Or.inr rfl, Or.inl rfl, Or.inl rfl, Or.inr rfl, trivial⟩ h
  · replace h := h.2 c1
    refine r_aload_n (pc := 42) d_Md_feasts_42 (x := a) rfl ?_
    refine r_getI (pc := 43) d_Md_feasts_43 f_Md_163 sa rfl ?_
    refine r_if_eq (pc := 46) d_Md_feasts_46 (tgt := 57) (by decide) (fun c30 => ?_) (fun c30 => ?_)
    · replace h := h.1 c30
      refine r_aload_n (pc := 57) d_Md_feasts_57 (x := a) rfl ?_
      refine r_getI (pc := 58) d_Md_feasts_58 f_Md_188 sa rfl ?_
      refine r_if_ne (pc := 61) d_Md_feasts_61 (tgt := 77) (by decide) (fun c31 => ?_) (fun c31 => ?_)
      · replace h := h.1 c31
        refine r_aload_n (pc := 77) d_Md_feasts_77 (x := a) rfl ?_
        refine r_getI (pc := 78) d_Md_feasts_78 f_Md_188 sa rfl ?_
        refine r_if_ne (pc := 81) d_Md_feasts_81 (tgt := 131) (by decide) (fun c32 => ?_) (fun c32 => ?_)
        · replace h := h.1 c32
          refine r_aload_n (pc := 131) d_Md_feasts_131 (x := a) rfl ?_
          refine r_aload_n (pc := 132) d_Md_feasts_132 (x := a) rfl ?_
          refine r_getI (pc := 133) d_Md_feasts_133 f_Md_304 sa rfl ?_
          refine r_callV (pc := 136) (k := a) (As := [.int (S.1 a 23)]) (rest := []) (mc' := 0) (ms' := 0) lk_Md_289 in_Md_taken se_Md_taken sa rfl d_Md_feasts_136 k_Md_taken rfl rfl (Nat.le_of_ble_eq_true rfl) (by decide) (by decide) (Sp.mono h ?_)
          rintro rS33 shS33 S33 ⟨qS33, x34, uS33, h⟩
          subst uS33
          rw [qS33]
          exact r_ireturn (pc := 139) d_Md_feasts_139 rfl rfl (Nat.le_refl _) ⟨rfl, _, rfl, h⟩
        · replace h := h.2 c32
          refine r_aload_n (pc := 84) d_Md_feasts_84 (x := a) rfl ?_
          obtain ⟨r35, er35, h⟩ := h
          refine r_getR (pc := 85) d_Md_feasts_85 f_Md_7 sa (Or.inr ⟨_, rfl⟩) (r := r35) er35 ?_
          refine r_iconst (pc := 88) d_Md_feasts_88 (v := 5) (by decide) ?_
          refine r_aload_n (pc := 89) d_Md_feasts_89 (x := a) rfl ?_
          refine r_getR (pc := 90) d_Md_feasts_90 f_Md_7 sa (Or.inr ⟨_, rfl⟩) (r := r35) er35 ?_
          refine r_sipush (pc := 93) d_Md_feasts_93 (v := 2213) (by decide) ?_
          obtain ⟨n37, s36, h⟩ := h
          obtain ⟨g38, h⟩ := h
          refine r_iald (pc := 96) d_Md_feasts_96 s36 g38 ?_
          obtain ⟨g39, h⟩ := h
          refine r_iast (pc := 97) d_Md_feasts_97 s36 g39 ?_
          refine r_sipush (pc := 98) d_Md_feasts_98 (v := 184) (by decide) ?_
          refine r_istore_n (pc := 101) (hk := rfl) (hd := d_Md_feasts_101) (hi := by decide) (ls2 := [.ref a, .null, .int i2, .int 184]) (h2 := rfl) ?_
          exact r_weak (ls2 := [.ref a, .null, .null, .int 184]) ⟨Or.inr rfl, Or.inl rfl, Or.inl rfl, Or.inr rfl, trivial⟩ h
      · replace h := h.2 c31
        refine r_aload_n (pc := 64) d_Md_feasts_64 (x := a) rfl ?_
        refine r_getI (pc := 65) d_Md_feasts_65 f_Md_301 sa rfl ?_
        refine r_if_le (pc := 68) d_Md_feasts_68 (tgt := 77) (by decide) (fun c40 => ?_) (fun c40 => ?_)
        · replace h := h.1 c40
          refine r_aload_n (pc := 77) d_Md_feasts_77 (x := a) rfl ?_
          refine r_getI (pc := 78) d_Md_feasts_78 f_Md_188 sa rfl ?_
          refine r_if_ne (pc := 81) d_Md_feasts_81 (tgt := 131) (by decide) (fun c41 => ?_) (fun c41 => ?_)
          · replace h := h.1 c41
            refine r_aload_n (pc := 131) d_Md_feasts_131 (x := a) rfl ?_
            refine r_aload_n (pc := 132) d_Md_feasts_132 (x := a) rfl ?_
            refine r_getI (pc := 133) d_Md_feasts_133 f_Md_304 sa rfl ?_
            refine r_callV (pc := 136) (k := a) (As := [.int (S.1 a 23)]) (rest := []) (mc' := 0) (ms' := 0) lk_Md_289 in_Md_taken se_Md_taken sa rfl d_Md_feasts_136 k_Md_taken rfl rfl (Nat.le_of_ble_eq_true rfl) (by decide) (by decide) (Sp.mono h ?_)
            rintro rS42 shS42 S42 ⟨qS42, x43, uS42, h⟩
            subst uS42
            rw [qS42]
            exact r_ireturn (pc := 139) d_Md_feasts_139 rfl rfl (Nat.le_refl _) ⟨rfl, _, rfl, h⟩
          · replace h := h.2 c41
            refine r_aload_n (pc := 84) d_Md_feasts_84 (x := a) rfl ?_
            obtain ⟨r44, er44, h⟩ := h
            refine r_getR (pc := 85) d_Md_feasts_85 f_Md_7 sa (Or.inr ⟨_, rfl⟩) (r := r44) er44 ?_
            refine r_iconst (pc := 88) d_Md_feasts_88 (v := 5) (by decide) ?_
            refine r_aload_n (pc := 89) d_Md_feasts_89 (x := a) rfl ?_
            refine r_getR (pc := 90) d_Md_feasts_90 f_Md_7 sa (Or.inr ⟨_, rfl⟩) (r := r44) er44 ?_
            refine r_sipush (pc := 93) d_Md_feasts_93 (v := 2213) (by decide) ?_
            obtain ⟨n46, s45, h⟩ := h
            obtain ⟨g47, h⟩ := h
            refine r_iald (pc := 96) d_Md_feasts_96 s45 g47 ?_
            obtain ⟨g48, h⟩ := h
            refine r_iast (pc := 97) d_Md_feasts_97 s45 g48 ?_
            refine r_sipush (pc := 98) d_Md_feasts_98 (v := 184) (by decide) ?_
            refine r_istore_n (pc := 101) (hk := rfl) (hd := d_Md_feasts_101) (hi := by decide) (ls2 := [.ref a, .null, .int i2, .int 184]) (h2 := rfl) ?_
            exact r_weak (ls2 := [.ref a, .null, .null, .int 184]) ⟨Or.inr rfl, Or.inl rfl, Or.inl rfl, Or.inr rfl, trivial⟩ h
        · replace h := h.2 c40
          refine r_aload_n (pc := 71) d_Md_feasts_71 (x := a) rfl ?_
          refine r_iconst (pc := 72) d_Md_feasts_72 (v := 2) (by decide) ?_
          refine r_callV (pc := 73) (k := a) (As := [.int 2]) (rest := []) (mc' := 0) (ms' := 0) lk_Md_200 in_Md_fails se_Md_fails sa rfl d_Md_feasts_73 k_Md_fails rfl rfl (Nat.le_of_ble_eq_true rfl) (by decide) (by decide) (Sp.mono h ?_)
          rintro rS49 shS49 S49 ⟨qS49, x50, uS49, h⟩
          subst uS49
          rw [qS49]
          refine r_pop (pc := 76) d_Md_feasts_76 rfl ?_
          refine r_aload_n (pc := 77) d_Md_feasts_77 (x := a) rfl ?_
          refine r_getI (pc := 78) d_Md_feasts_78 f_Md_188 sa rfl ?_
          refine r_if_ne (pc := 81) d_Md_feasts_81 (tgt := 131) (by decide) (fun c51 => ?_) (fun c51 => ?_)
          · replace h := h.1 c51
            refine r_aload_n (pc := 131) d_Md_feasts_131 (x := a) rfl ?_
            refine r_aload_n (pc := 132) d_Md_feasts_132 (x := a) rfl ?_
            refine r_getI (pc := 133) d_Md_feasts_133 f_Md_304 sa rfl ?_
            refine r_callV (pc := 136) (k := a) (As := [.int (S49.1 a 23)]) (rest := []) (mc' := 0) (ms' := 0) lk_Md_289 in_Md_taken se_Md_taken sa rfl d_Md_feasts_136 k_Md_taken rfl rfl (Nat.le_of_ble_eq_true rfl) (by decide) (by decide) (Sp.mono h ?_)
            rintro rS52 shS52 S52 ⟨qS52, x53, uS52, h⟩
            subst uS52
            rw [qS52]
            exact r_ireturn (pc := 139) d_Md_feasts_139 rfl rfl (Nat.le_refl _) ⟨rfl, _, rfl, h⟩
          · replace h := h.2 c51
            refine r_aload_n (pc := 84) d_Md_feasts_84 (x := a) rfl ?_
            obtain ⟨r54, er54, h⟩ := h
            refine r_getR (pc := 85) d_Md_feasts_85 f_Md_7 sa (Or.inr ⟨_, rfl⟩) (r := r54) er54 ?_
            refine r_iconst (pc := 88) d_Md_feasts_88 (v := 5) (by decide) ?_
            refine r_aload_n (pc := 89) d_Md_feasts_89 (x := a) rfl ?_
            refine r_getR (pc := 90) d_Md_feasts_90 f_Md_7 sa (Or.inr ⟨_, rfl⟩) (r := r54) er54 ?_
            refine r_sipush (pc := 93) d_Md_feasts_93 (v := 2213) (by decide) ?_
            obtain ⟨n56, s55, h⟩ := h
            obtain ⟨g57, h⟩ := h
            refine r_iald (pc := 96) d_Md_feasts_96 s55 g57 ?_
            obtain ⟨g58, h⟩ := h
            refine r_iast (pc := 97) d_Md_feasts_97 s55 g58 ?_
            refine r_sipush (pc := 98) d_Md_feasts_98 (v := 184) (by decide) ?_
            refine r_istore_n (pc := 101) (hk := rfl) (hd := d_Md_feasts_101) (hi := by decide) (ls2 := [.ref a, .null, .int i2, .int 184]) (h2 := rfl) ?_
            exact r_weak (ls2 := [.ref a, .null, .null, .int 184]) ⟨Or.inr rfl, Or.inl rfl, Or.inl rfl, Or.inr rfl, trivial⟩ h
    · replace h := h.2 c30
      refine r_aload_n (pc := 49) d_Md_feasts_49 (x := a) rfl ?_
      refine r_callV (pc := 50) (k := a) (As := []) (rest := []) (mc' := 0) (ms' := 0) lk_Md_310 in_Md_feastStep se_Md_feastStep sa rfl d_Md_feasts_50 k_Md_feastStep rfl rfl (Nat.le_of_ble_eq_true rfl) (by decide) (by decide) (Sp.mono h ?_)
      rintro rS59 shS59 S59 ⟨qS59, x60, uS59, h⟩
      subst uS59
      rw [qS59]
      refine r_istore_n (pc := 53) (hk := rfl) (hd := d_Md_feasts_53) (hi := by decide) (ls2 := [.ref a, .null, .int x60, .null]) (h2 := rfl) ?_
      refine r_goto (pc := 54) d_Md_feasts_54 (tgt := 38) (by decide) ?_
      exact h
set_option maxRecDepth 4000 in
theorem s_Md_feasts_102 {l : Launch} {d : Nat} {sh : aw_SH} {S : aw_S} {P : Int32 → aw_S → Prop} {a : Nat} {i3 : Int32} (sa : sh[a]? = some (0, 11)) (h : ((544 ≤ i3 → Sp l m_Md_taken d 0 0 [.ref a, .int (S.1 a 23)] sh S (gI sh (fun x3 S2 => P x3 S2))) ∧ (¬ 544 ≤ i3 → ∃ r4, S.2.2 a 0 = some r4 ∧ ∃ n6, sh[r4]? = some (3, n6) ∧ vp_in ((2208 : Int32) + i3) n6 ∧ vp_in i3 n6 ∧ AW l m_Md_feasts (d + 1) 0 0 (gI sh P) 0 0 102 [.ref a, .null, .null, .int (i3 + 1)] [] sh (aw_uI S r4 i3.toNatClampNeg (S.1 r4 ((2208 : Int32) + i3 : Int32).toNatClampNeg))))) : AW l m_Md_feasts (d + 1) 0 0 (gI sh P) 0 0 102 [.ref a, .null, .null, .int i3] [] sh S := by
  refine r_iload_n (pc := 102) d_Md_feasts_102 (x := i3) rfl ?_
  refine r_sipush (pc := 103) d_Md_feasts_103 (v := 544) (by decide) ?_
  refine r_icmp_ge (pc := 106) d_Md_feasts_106 (tgt := 131) (by decide) (fun c1 => ?_) (fun c1 => ?_)
  · replace h := h.1 c1
    refine r_aload_n (pc := 131) d_Md_feasts_131 (x := a) rfl ?_
    refine r_aload_n (pc := 132) d_Md_feasts_132 (x := a) rfl ?_
    refine r_getI (pc := 133) d_Md_feasts_133 f_Md_304 sa rfl ?_
    refine r_callV (pc := 136) (k := a) (As := [.int (S.1 a 23)]) (rest := []) (mc' := 0) (ms' := 0) lk_Md_289 in_Md_taken se_Md_taken sa rfl d_Md_feasts_136 k_Md_taken rfl rfl (Nat.le_of_ble_eq_true rfl) (by decide) (by decide) (Sp.mono h ?_)
    rintro rS2 shS2 S2 ⟨qS2, x3, uS2, h⟩
    subst uS2
    rw [qS2]
    exact r_ireturn (pc := 139) d_Md_feasts_139 rfl rfl (Nat.le_refl _) ⟨rfl, _, rfl, h⟩
  · replace h := h.2 c1
    refine r_aload_n (pc := 109) d_Md_feasts_109 (x := a) rfl ?_
    obtain ⟨r4, er4, h⟩ := h
    refine r_getR (pc := 110) d_Md_feasts_110 f_Md_7 sa (Or.inr ⟨_, rfl⟩) (r := r4) er4 ?_
    refine r_iload_n (pc := 113) d_Md_feasts_113 (x := i3) rfl ?_
    refine r_aload_n (pc := 114) d_Md_feasts_114 (x := a) rfl ?_
    refine r_getR (pc := 115) d_Md_feasts_115 f_Md_7 sa (Or.inr ⟨_, rfl⟩) (r := r4) er4 ?_
    refine r_sipush (pc := 118) d_Md_feasts_118 (v := 2208) (by decide) ?_
    refine r_iload_n (pc := 121) d_Md_feasts_121 (x := i3) rfl ?_
    refine r_iadd (pc := 122) d_Md_feasts_122 ?_
    obtain ⟨n6, s5, h⟩ := h
    obtain ⟨g7, h⟩ := h
    refine r_iald (pc := 123) d_Md_feasts_123 s5 g7 ?_
    obtain ⟨g8, h⟩ := h
    refine r_iast (pc := 124) d_Md_feasts_124 s5 g8 ?_
    refine r_iinc (pc := 125) d_Md_feasts_125 (hi := by decide) (x := i3) rfl (v := i3 + 1) rfl (ls2 := [.ref a, .null, .null, .int (i3 + 1)]) rfl ?_
    refine r_goto (pc := 128) d_Md_feasts_128 (tgt := 102) (by decide) ?_
    exact h
set_option maxRecDepth 4000 in
theorem e_Md_feastStep {l : Launch} {d : Nat} {sh : aw_SH} {S : aw_S} {P : Int32 → aw_S → Prop} {a : Nat} (sa : sh[a]? = some (0, 11)) (h : Sp l m_Md_inWords d 0 0 [.ref a, .float 2] sh S (gI sh (fun x2 S1 => ∃ r3, S1.2.2 a 0 = some r3 ∧ ∃ n5, sh[r3]? = some (3, n5) ∧ vp_in 2213 n5 ∧ ∀ v7 : Int32, v7 = (2392 : Int32) + ((6 : Int32) * (S1.1 r3 (2213 : Int32).toNatClampNeg)) → ((x2 = 11 → AW l m_Md_feastStep (d + 1) 0 0 (gI sh P) 0 0 44 [.ref a, .int x2, .int (S1.1 r3 (2213 : Int32).toNatClampNeg), .int v7, .int 1, .null, .null] [] sh S1) ∧ (¬ x2 = 11 → ((¬ x2 = 12 → AW l m_Md_feastStep (d + 1) 0 0 (gI sh P) 0 0 44 [.ref a, .int x2, .int (S1.1 r3 (2213 : Int32).toNatClampNeg), .int v7, .int 0, .null, .null] [] sh S1) ∧ (x2 = 12 → AW l m_Md_feastStep (d + 1) 0 0 (gI sh P) 0 0 44 [.ref a, .int x2, .int (S1.1 r3 (2213 : Int32).toNatClampNeg), .int v7, .int 1, .null, .null] [] sh S1))))))) : Sp l m_Md_feastStep (d + 1) 0 0 [.ref a] sh S (gI sh P) := by
  refine Sp.of k_Md_feastStep (ls := [.ref a, .null, .null, .null, .null, .null, .null]) rfl (Nat.le_of_ble_eq_true rfl) ?_
  refine r_aload_n (pc := 0) d_Md_feastStep_0 (x := a) rfl ?_
  refine r_ldcS (pc := 1) d_Md_feastStep_1 (w := 2) (by decide) ?_
  refine r_callV (pc := 3) (k := a) (As := [.float 2]) (rest := []) (mc' := 0) (ms' := 0) lk_Md_203 in_Md_inWords se_Md_inWords sa rfl d_Md_feastStep_3 k_Md_inWords rfl rfl (Nat.le_of_ble_eq_true rfl) (by decide) (by decide) (Sp.mono h ?_)
  rintro rS1 shS1 S1 ⟨qS1, x2, uS1, h⟩
  subst uS1
  rw [qS1]
  refine r_istore_n (pc := 6) (hk := rfl) (hd := d_Md_feastStep_6) (hi := by decide) (ls2 := [.ref a, .int x2, .null, .null, .null, .null, .null]) (h2 := rfl) ?_
  refine r_aload_n (pc := 7) d_Md_feastStep_7 (x := a) rfl ?_
  obtain ⟨r3, er3, h⟩ := h
  refine r_getR (pc := 8) d_Md_feastStep_8 f_Md_7 sa (Or.inr ⟨_, rfl⟩) (r := r3) er3 ?_
  refine r_sipush (pc := 11) d_Md_feastStep_11 (v := 2213) (by decide) ?_
  obtain ⟨n5, s4, h⟩ := h
  obtain ⟨g6, h⟩ := h
  refine r_iald (pc := 14) d_Md_feastStep_14 s4 g6 ?_
  refine r_istore_n (pc := 15) (hk := rfl) (hd := d_Md_feastStep_15) (hi := by decide) (ls2 := [.ref a, .int x2, .int (S1.1 r3 (2213 : Int32).toNatClampNeg), .null, .null, .null, .null]) (h2 := rfl) ?_
  refine r_sipush (pc := 16) d_Md_feastStep_16 (v := 2392) (by decide) ?_
  refine r_bipush (pc := 19) d_Md_feastStep_19 (v := 6) (by decide) ?_
  refine r_iload_n (pc := 21) d_Md_feastStep_21 (x := (S1.1 r3 (2213 : Int32).toNatClampNeg)) rfl ?_
  refine r_imul (pc := 22) d_Md_feastStep_22 ?_
  refine r_iadd (pc := 23) d_Md_feastStep_23 ?_
  refine r_ni (fun v7 ev7 => ?_)
  replace h := h v7 ev7
  refine r_istore_n (pc := 24) (hk := rfl) (hd := d_Md_feastStep_24) (hi := by decide) (ls2 := [.ref a, .int x2, .int (S1.1 r3 (2213 : Int32).toNatClampNeg), .int v7, .null, .null, .null]) (h2 := rfl) ?_
  refine r_iload_n (pc := 25) d_Md_feastStep_25 (x := x2) rfl ?_
  refine r_bipush (pc := 26) d_Md_feastStep_26 (v := 11) (by decide) ?_
  refine r_icmp_eq (pc := 28) d_Md_feastStep_28 (tgt := 37) (by decide) (fun c8 => ?_) (fun c8 => ?_)
  · replace h := h.1 c8
    refine r_iconst (pc := 37) d_Md_feastStep_37 (v := 1) (by decide) ?_
    refine r_goto (pc := 38) d_Md_feastStep_38 (tgt := 42) (by decide) ?_
    refine r_istore (pc := 42) (hd := d_Md_feastStep_42) (hi := by decide) (ls2 := [.ref a, .int x2, .int (S1.1 r3 (2213 : Int32).toNatClampNeg), .int v7, .int 1, .null, .null]) (h2 := rfl) ?_
    exact h
  · replace h := h.2 c8
    refine r_iload_n (pc := 31) d_Md_feastStep_31 (x := x2) rfl ?_
    refine r_bipush (pc := 32) d_Md_feastStep_32 (v := 12) (by decide) ?_
    refine r_icmp_ne (pc := 34) d_Md_feastStep_34 (tgt := 41) (by decide) (fun c9 => ?_) (fun c9 => ?_)
    · replace h := h.1 c9
      refine r_iconst (pc := 41) d_Md_feastStep_41 (v := 0) (by decide) ?_
      refine r_istore (pc := 42) (hd := d_Md_feastStep_42) (hi := by decide) (ls2 := [.ref a, .int x2, .int (S1.1 r3 (2213 : Int32).toNatClampNeg), .int v7, .int 0, .null, .null]) (h2 := rfl) ?_
      exact h
    · replace h := h.2 c9
      refine r_iconst (pc := 37) d_Md_feastStep_37 (v := 1) (by decide) ?_
      refine r_goto (pc := 38) d_Md_feastStep_38 (tgt := 42) (by decide) ?_
      refine r_istore (pc := 42) (hd := d_Md_feastStep_42) (hi := by decide) (ls2 := [.ref a, .int x2, .int (S1.1 r3 (2213 : Int32).toNatClampNeg), .int v7, .int 1, .null, .null]) (h2 := rfl) ?_
      exact h
set_option maxRecDepth 4000 in
theorem s_Md_feastStep_44 {l : Launch} {d : Nat} {sh : aw_SH} {S : aw_S} {P : Int32 → aw_S → Prop} {a : Nat} {i1 : Int32} {i2 : Int32} {i3 : Int32} {i4 : Int32} (sa : sh[a]? = some (0, 11)) (h : ((i1 = 3 → AW l m_Md_feastStep (d + 1) 0 0 (gI sh P) 0 0 68 [.ref a, .int i1, .int i2, .int i3, .int i4, .int 1, .null] [] sh S) ∧ (¬ i1 = 3 → ((i1 < 7 → AW l m_Md_feastStep (d + 1) 0 0 (gI sh P) 0 0 68 [.ref a, .int i1, .int i2, .int i3, .int i4, .int 0, .null] [] sh S) ∧ (¬ i1 < 7 → ((14 < i1 → AW l m_Md_feastStep (d + 1) 0 0 (gI sh P) 0 0 68 [.ref a, .int i1, .int i2, .int i3, .int i4, .int 0, .null] [] sh S) ∧ (¬ 14 < i1 → AW l m_Md_feastStep (d + 1) 0 0 (gI sh P) 0 0 68 [.ref a, .int i1, .int i2, .int i3, .int i4, .int 1, .null] [] sh S))))))) : AW l m_Md_feastStep (d + 1) 0 0 (gI sh P) 0 0 44 [.ref a, .int i1, .int i2, .int i3, .int i4, .null, .null] [] sh S := by
  refine r_iload_n (pc := 44) d_Md_feastStep_44 (x := i1) rfl ?_
  refine r_iconst (pc := 45) d_Md_feastStep_45 (v := 3) (by decide) ?_
  refine r_icmp_eq (pc := 46) d_Md_feastStep_46 (tgt := 61) (by decide) (fun c1 => ?_) (fun c1 => ?_)
  · replace h := h.1 c1
    refine r_iconst (pc := 61) d_Md_feastStep_61 (v := 1) (by decide) ?_
    refine r_goto (pc := 62) d_Md_feastStep_62 (tgt := 66) (by decide) ?_
    refine r_istore (pc := 66) (hd := d_Md_feastStep_66) (hi := by decide) (ls2 := [.ref a, .int i1, .int i2, .int i3, .int i4, .int 1, .null]) (h2 := rfl) ?_
    exact h
  · replace h := h.2 c1
    refine r_iload_n (pc := 49) d_Md_feastStep_49 (x := i1) rfl ?_
    refine r_bipush (pc := 50) d_Md_feastStep_50 (v := 7) (by decide) ?_
    refine r_icmp_lt (pc := 52) d_Md_feastStep_52 (tgt := 65) (by decide) (fun c2 => ?_) (fun c2 => ?_)
    · replace h := h.1 c2
      refine r_iconst (pc := 65) d_Md_feastStep_65 (v := 0) (by decide) ?_
      refine r_istore (pc := 66) (hd := d_Md_feastStep_66) (hi := by decide) (ls2 := [.ref a, .int i1, .int i2, .int i3, .int i4, .int 0, .null]) (h2 := rfl) ?_
      exact h
    · replace h := h.2 c2
      refine r_iload_n (pc := 55) d_Md_feastStep_55 (x := i1) rfl ?_
      refine r_bipush (pc := 56) d_Md_feastStep_56 (v := 14) (by decide) ?_
      refine r_icmp_gt (pc := 58) d_Md_feastStep_58 (tgt := 65) (by decide) (fun c3 => ?_) (fun c3 => ?_)
      · replace h := h.1 c3
        refine r_iconst (pc := 65) d_Md_feastStep_65 (v := 0) (by decide) ?_
        refine r_istore (pc := 66) (hd := d_Md_feastStep_66) (hi := by decide) (ls2 := [.ref a, .int i1, .int i2, .int i3, .int i4, .int 0, .null]) (h2 := rfl) ?_
        exact h
      · replace h := h.2 c3
        refine r_iconst (pc := 61) d_Md_feastStep_61 (v := 1) (by decide) ?_
        refine r_goto (pc := 62) d_Md_feastStep_62 (tgt := 66) (by decide) ?_
        refine r_istore (pc := 66) (hd := d_Md_feastStep_66) (hi := by decide) (ls2 := [.ref a, .int i1, .int i2, .int i3, .int i4, .int 1, .null]) (h2 := rfl) ?_
        exact h
set_option maxRecDepth 4000 in
theorem s_Md_feastStep_68 {l : Launch} {d : Nat} {sh : aw_SH} {S : aw_S} {P : Int32 → aw_S → Prop} {a : Nat} {i1 : Int32} {i2 : Int32} {i3 : Int32} {i4 : Int32} {i5 : Int32} (sa : sh[a]? = some (0, 11)) (h : ((i5 = 0 → Sp l m_Md_fails d 0 0 [.ref a, .int 2] sh S (gI sh (fun x3 S2 => ((x3 = 0 ∨ x3 = 1) ∧ P x3 S2)))) ∧ (¬ i5 = 0 → ((¬ i1 = 13 → ((i1 = 13 → ((i4 = 0 → ((¬ i1 = 13 → ∃ r9, (aw_uI S a 23 ((S.1 a 23) + (1 : Int32))).2.2 a 0 = some r9 ∧ ∃ n11, sh[r9]? = some (3, n11) ∧ vp_in i3 n11 ∧ AW l m_Md_feastStep (d + 1) 0 0 (gI sh P) 0 0 164 [.ref a, .int i1, .int i2, .int i3, .int i4, .null, .int 1] [] sh (aw_uI (aw_uI S a 23 ((S.1 a 23) + (1 : Int32))) r9 i3.toNatClampNeg i1)) ∧ (i1 = 13 → ∃ r13, (aw_uI S a 23 ((S.1 a 23) + (0 : Int32))).2.2 a 0 = some r13 ∧ ∃ n15, sh[r13]? = some (3, n15) ∧ vp_in i3 n15 ∧ AW l m_Md_feastStep (d + 1) 0 0 (gI sh P) 0 0 164 [.ref a, .int i1, .int i2, .int i3, .int i4, .null, .int 1] [] sh (aw_uI (aw_uI S a 23 ((S.1 a 23) + (0 : Int32))) r13 i3.toNatClampNeg i1)))) ∧ (¬ i4 = 0 → ((¬ (S.1 a 22) = 3 → ((¬ i1 = 13 → ∃ r19, (aw_uI S a 23 ((S.1 a 23) + (1 : Int32))).2.2 a 0 = some r19 ∧ ∃ n21, sh[r19]? = some (3, n21) ∧ vp_in i3 n21 ∧ AW l m_Md_feastStep (d + 1) 0 0 (gI sh P) 0 0 164 [.ref a, .int i1, .int i2, .int i3, .int i4, .null, .int 1] [] sh (aw_uI (aw_uI S a 23 ((S.1 a 23) + (1 : Int32))) r19 i3.toNatClampNeg i1)) ∧ (i1 = 13 → ∃ r23, (aw_uI S a 23 ((S.1 a 23) + (0 : Int32))).2.2 a 0 = some r23 ∧ ∃ n25, sh[r23]? = some (3, n25) ∧ vp_in i3 n25 ∧ AW l m_Md_feastStep (d + 1) 0 0 (gI sh P) 0 0 164 [.ref a, .int i1, .int i2, .int i3, .int i4, .null, .int 1] [] sh (aw_uI (aw_uI S a 23 ((S.1 a 23) + (0 : Int32))) r23 i3.toNatClampNeg i1)))) ∧ ((S.1 a 22) = 3 → Sp l m_Md_fails d 0 0 [.ref a, .int 7] sh S (gI sh (fun x28 S27 => ((x28 = 0 ∨ x28 = 1) ∧ P x28 S27)))))))) ∧ (¬ i1 = 13 → ((¬ (S.1 a 23) = 30 → ((i4 = 0 → ((¬ i1 = 13 → ∃ r33, (aw_uI S a 23 ((S.1 a 23) + (1 : Int32))).2.2 a 0 = some r33 ∧ ∃ n35, sh[r33]? = some (3, n35) ∧ vp_in i3 n35 ∧ AW l m_Md_feastStep (d + 1) 0 0 (gI sh P) 0 0 164 [.ref a, .int i1, .int i2, .int i3, .int i4, .null, .int 1] [] sh (aw_uI (aw_uI S a 23 ((S.1 a 23) + (1 : Int32))) r33 i3.toNatClampNeg i1)) ∧ (i1 = 13 → ∃ r37, (aw_uI S a 23 ((S.1 a 23) + (0 : Int32))).2.2 a 0 = some r37 ∧ ∃ n39, sh[r37]? = some (3, n39) ∧ vp_in i3 n39 ∧ AW l m_Md_feastStep (d + 1) 0 0 (gI sh P) 0 0 164 [.ref a, .int i1, .int i2, .int i3, .int i4, .null, .int 1] [] sh (aw_uI (aw_uI S a 23 ((S.1 a 23) + (0 : Int32))) r37 i3.toNatClampNeg i1)))) ∧ (¬ i4 = 0 → ((¬ (S.1 a 22) = 3 → ((¬ i1 = 13 → ∃ r43, (aw_uI S a 23 ((S.1 a 23) + (1 : Int32))).2.2 a 0 = some r43 ∧ ∃ n45, sh[r43]? = some (3, n45) ∧ vp_in i3 n45 ∧ AW l m_Md_feastStep (d + 1) 0 0 (gI sh P) 0 0 164 [.ref a, .int i1, .int i2, .int i3, .int i4, .null, .int 1] [] sh (aw_uI (aw_uI S a 23 ((S.1 a 23) + (1 : Int32))) r43 i3.toNatClampNeg i1)) ∧ (i1 = 13 → ∃ r47, (aw_uI S a 23 ((S.1 a 23) + (0 : Int32))).2.2 a 0 = some r47 ∧ ∃ n49, sh[r47]? = some (3, n49) ∧ vp_in i3 n49 ∧ AW l m_Md_feastStep (d + 1) 0 0 (gI sh P) 0 0 164 [.ref a, .int i1, .int i2, .int i3, .int i4, .null, .int 1] [] sh (aw_uI (aw_uI S a 23 ((S.1 a 23) + (0 : Int32))) r47 i3.toNatClampNeg i1)))) ∧ ((S.1 a 22) = 3 → Sp l m_Md_fails d 0 0 [.ref a, .int 7] sh S (gI sh (fun x52 S51 => ((x52 = 0 ∨ x52 = 1) ∧ P x52 S51)))))))) ∧ ((S.1 a 23) = 30 → Sp l m_Md_fails d 0 0 [.ref a, .int 6] sh S (gI sh (fun x55 S54 => ((x55 = 0 ∨ x55 = 1) ∧ P x55 S54)))))))) ∧ (i1 = 13 → ((¬ (S.1 a 22) = 0 → ((i1 = 13 → ((i4 = 0 → ((¬ i1 = 13 → ∃ r61, (aw_uI S a 23 ((S.1 a 23) + (1 : Int32))).2.2 a 0 = some r61 ∧ ∃ n63, sh[r61]? = some (3, n63) ∧ vp_in i3 n63 ∧ AW l m_Md_feastStep (d + 1) 0 0 (gI sh P) 0 0 164 [.ref a, .int i1, .int i2, .int i3, .int i4, .null, .int 1] [] sh (aw_uI (aw_uI S a 23 ((S.1 a 23) + (1 : Int32))) r61 i3.toNatClampNeg i1)) ∧ (i1 = 13 → ∃ r65, (aw_uI S a 23 ((S.1 a 23) + (0 : Int32))).2.2 a 0 = some r65 ∧ ∃ n67, sh[r65]? = some (3, n67) ∧ vp_in i3 n67 ∧ AW l m_Md_feastStep (d + 1) 0 0 (gI sh P) 0 0 164 [.ref a, .int i1, .int i2, .int i3, .int i4, .null, .int 1] [] sh (aw_uI (aw_uI S a 23 ((S.1 a 23) + (0 : Int32))) r65 i3.toNatClampNeg i1)))) ∧ (¬ i4 = 0 → ((¬ (S.1 a 22) = 3 → ((¬ i1 = 13 → ∃ r71, (aw_uI S a 23 ((S.1 a 23) + (1 : Int32))).2.2 a 0 = some r71 ∧ ∃ n73, sh[r71]? = some (3, n73) ∧ vp_in i3 n73 ∧ AW l m_Md_feastStep (d + 1) 0 0 (gI sh P) 0 0 164 [.ref a, .int i1, .int i2, .int i3, .int i4, .null, .int 1] [] sh (aw_uI (aw_uI S a 23 ((S.1 a 23) + (1 : Int32))) r71 i3.toNatClampNeg i1)) ∧ (i1 = 13 → ∃ r75, (aw_uI S a 23 ((S.1 a 23) + (0 : Int32))).2.2 a 0 = some r75 ∧ ∃ n77, sh[r75]? = some (3, n77) ∧ vp_in i3 n77 ∧ AW l m_Md_feastStep (d + 1) 0 0 (gI sh P) 0 0 164 [.ref a, .int i1, .int i2, .int i3, .int i4, .null, .int 1] [] sh (aw_uI (aw_uI S a 23 ((S.1 a 23) + (0 : Int32))) r75 i3.toNatClampNeg i1)))) ∧ ((S.1 a 22) = 3 → Sp l m_Md_fails d 0 0 [.ref a, .int 7] sh S (gI sh (fun x80 S79 => ((x80 = 0 ∨ x80 = 1) ∧ P x80 S79)))))))) ∧ (¬ i1 = 13 → ((¬ (S.1 a 23) = 30 → ((i4 = 0 → ((¬ i1 = 13 → ∃ r85, (aw_uI S a 23 ((S.1 a 23) + (1 : Int32))).2.2 a 0 = some r85 ∧ ∃ n87, sh[r85]? = some (3, n87) ∧ vp_in i3 n87 ∧ AW l m_Md_feastStep (d + 1) 0 0 (gI sh P) 0 0 164 [.ref a, .int i1, .int i2, .int i3, .int i4, .null, .int 1] [] sh (aw_uI (aw_uI S a 23 ((S.1 a 23) + (1 : Int32))) r85 i3.toNatClampNeg i1)) ∧ (i1 = 13 → ∃ r89, (aw_uI S a 23 ((S.1 a 23) + (0 : Int32))).2.2 a 0 = some r89 ∧ ∃ n91, sh[r89]? = some (3, n91) ∧ vp_in i3 n91 ∧ AW l m_Md_feastStep (d + 1) 0 0 (gI sh P) 0 0 164 [.ref a, .int i1, .int i2, .int i3, .int i4, .null, .int 1] [] sh (aw_uI (aw_uI S a 23 ((S.1 a 23) + (0 : Int32))) r89 i3.toNatClampNeg i1)))) ∧ (¬ i4 = 0 → ((¬ (S.1 a 22) = 3 → ((¬ i1 = 13 → ∃ r95, (aw_uI S a 23 ((S.1 a 23) + (1 : Int32))).2.2 a 0 = some r95 ∧ ∃ n97, sh[r95]? = some (3, n97) ∧ vp_in i3 n97 ∧ AW l m_Md_feastStep (d + 1) 0 0 (gI sh P) 0 0 164 [.ref a, .int i1, .int i2, .int i3, .int i4, .null, .int 1] [] sh (aw_uI (aw_uI S a 23 ((S.1 a 23) + (1 : Int32))) r95 i3.toNatClampNeg i1)) ∧ (i1 = 13 → ∃ r99, (aw_uI S a 23 ((S.1 a 23) + (0 : Int32))).2.2 a 0 = some r99 ∧ ∃ n101, sh[r99]? = some (3, n101) ∧ vp_in i3 n101 ∧ AW l m_Md_feastStep (d + 1) 0 0 (gI sh P) 0 0 164 [.ref a, .int i1, .int i2, .int i3, .int i4, .null, .int 1] [] sh (aw_uI (aw_uI S a 23 ((S.1 a 23) + (0 : Int32))) r99 i3.toNatClampNeg i1)))) ∧ ((S.1 a 22) = 3 → Sp l m_Md_fails d 0 0 [.ref a, .int 7] sh S (gI sh (fun x104 S103 => ((x104 = 0 ∨ x104 = 1) ∧ P x104 S103)))))))) ∧ ((S.1 a 23) = 30 → Sp l m_Md_fails d 0 0 [.ref a, .int 6] sh S (gI sh (fun x107 S106 => ((x107 = 0 ∨ x107 = 1) ∧ P x107 S106)))))))) ∧ ((S.1 a 22) = 0 → Sp l m_Md_fails d 0 0 [.ref a, .int 2] sh S (gI sh (fun x110 S109 => ((x110 = 0 ∨ x110 = 1) ∧ P x110 S109)))))))))) : AW l m_Md_feastStep (d + 1) 0 0 (gI sh P) 0 0 68 [.ref a, .int i1, .int i2, .int i3, .int i4, .int i5, .null] [] sh S := by
  refine r_iload (pc := 68) d_Md_feastStep_68 (x := i5) rfl ?_
  refine r_if_eq (pc := 70) d_Md_feastStep_70 (tgt := 86) (by decide) (fun c1 => ?_) (fun c1 => ?_)
  · replace h := h.1 c1
    refine r_aload_n (pc := 86) d_Md_feastStep_86 (x := a) rfl ?_
    refine r_iconst (pc := 87) d_Md_feastStep_87 (v := 2) (by decide) ?_
    refine r_callV (pc := 88) (k := a) (As := [.int 2]) (rest := []) (mc' := 0) (ms' := 0) lk_Md_200 in_Md_fails se_Md_fails sa rfl d_Md_feastStep_88 k_Md_fails rfl rfl (Nat.le_of_ble_eq_true rfl) (by decide) (by decide) (Sp.mono h ?_)
    rintro rS2 shS2 S2 ⟨qS2, x3, uS2, h⟩
    subst uS2
    rw [qS2]
    obtain ⟨g4, h⟩ := h
    exact r_zreturn (pc := 91) d_Md_feastStep_91 rfl (aw_nb g4) rfl (Nat.le_refl _) ⟨rfl, _, rfl, h⟩
  · replace h := h.2 c1
    refine r_iload_n (pc := 73) d_Md_feastStep_73 (x := i1) rfl ?_
    refine r_bipush (pc := 74) d_Md_feastStep_74 (v := 13) (by decide) ?_
    refine r_icmp_ne (pc := 76) d_Md_feastStep_76 (tgt := 92) (by decide) (fun c5 => ?_) (fun c5 => ?_)
    · replace h := h.1 c5
      refine r_iload_n (pc := 92) d_Md_feastStep_92 (x := i1) rfl ?_
      refine r_bipush (pc := 93) d_Md_feastStep_93 (v := 13) (by decide) ?_
      refine r_icmp_eq (pc := 95) d_Md_feastStep_95 (tgt := 114) (by decide) (fun c6 => ?_) (fun c6 => ?_)
      · replace h := h.1 c6
        refine r_iload (pc := 114) d_Md_feastStep_114 (x := i4) rfl ?_
        refine r_if_eq (pc := 116) d_Md_feastStep_116 (tgt := 134) (by decide) (fun c7 => ?_) (fun c7 => ?_)
        · replace h := h.1 c7
          refine r_aload_n (pc := 134) d_Md_feastStep_134 (x := a) rfl ?_
          refine r_dup (pc := 135) d_Md_feastStep_135 rfl ?_
          refine r_getI (pc := 136) d_Md_feastStep_136 f_Md_304 sa rfl ?_
          refine r_iload_n (pc := 139) d_Md_feastStep_139 (x := i1) rfl ?_
          refine r_bipush (pc := 140) d_Md_feastStep_140 (v := 13) (by decide) ?_
          refine r_icmp_ne (pc := 142) d_Md_feastStep_142 (tgt := 149) (by decide) (fun c8 => ?_) (fun c8 => ?_)
          · replace h := h.1 c8
            refine r_iconst (pc := 149) d_Md_feastStep_149 (v := 1) (by decide) ?_
            refine r_iadd (pc := 150) d_Md_feastStep_150 ?_
            refine r_putI (pc := 151) d_Md_feastStep_151 f_Md_304 sa rfl ?_
            refine r_aload_n (pc := 154) d_Md_feastStep_154 (x := a) rfl ?_
            obtain ⟨r9, er9, h⟩ := h
            refine r_getR (pc := 155) d_Md_feastStep_155 f_Md_7 sa (Or.inr ⟨_, rfl⟩) (r := r9) er9 ?_
            refine r_iload_n (pc := 158) d_Md_feastStep_158 (x := i3) rfl ?_
            refine r_iload_n (pc := 159) d_Md_feastStep_159 (x := i1) rfl ?_
            obtain ⟨n11, s10, h⟩ := h
            obtain ⟨g12, h⟩ := h
            refine r_iast (pc := 160) d_Md_feastStep_160 s10 g12 ?_
            refine r_iconst (pc := 161) d_Md_feastStep_161 (v := 1) (by decide) ?_
            refine r_istore (pc := 162) (hd := d_Md_feastStep_162) (hi := by decide) (ls2 := [.ref a, .int i1, .int i2, .int i3, .int i4, .int i5, .int 1]) (h2 := rfl) ?_
            exact r_weak (ls2 := [.ref a, .int i1, .int i2, .int i3, .int i4, .null, .int 1]) ⟨Or.inr rfl, Or.inr rfl, Or.inr rfl, Or.inr rfl, Or.inr rfl, Or.inl rfl, Or.inr rfl, trivial⟩ h
          · replace h := h.2 c8
            refine r_iconst (pc := 145) d_Md_feastStep_145 (v := 0) (by decide) ?_
            refine r_goto (pc := 146) d_Md_feastStep_146 (tgt := 150) (by decide) ?_
            refine r_iadd (pc := 150) d_Md_feastStep_150 ?_
            refine r_putI (pc := 151) d_Md_feastStep_151 f_Md_304 sa rfl ?_
            refine r_aload_n (pc := 154) d_Md_feastStep_154 (x := a) rfl ?_
            obtain ⟨r13, er13, h⟩ := h
            refine r_getR (pc := 155) d_Md_feastStep_155 f_Md_7 sa (Or.inr ⟨_, rfl⟩) (r := r13) er13 ?_
            refine r_iload_n (pc := 158) d_Md_feastStep_158 (x := i3) rfl ?_
            refine r_iload_n (pc := 159) d_Md_feastStep_159 (x := i1) rfl ?_
            obtain ⟨n15, s14, h⟩ := h
            obtain ⟨g16, h⟩ := h
            refine r_iast (pc := 160) d_Md_feastStep_160 s14 g16 ?_
            refine r_iconst (pc := 161) d_Md_feastStep_161 (v := 1) (by decide) ?_
            refine r_istore (pc := 162) (hd := d_Md_feastStep_162) (hi := by decide) (ls2 := [.ref a, .int i1, .int i2, .int i3, .int i4, .int i5, .int 1]) (h2 := rfl) ?_
            exact r_weak (ls2 := [.ref a, .int i1, .int i2, .int i3, .int i4, .null, .int 1]) ⟨Or.inr rfl, Or.inr rfl, Or.inr rfl, Or.inr rfl, Or.inr rfl, Or.inl rfl, Or.inr rfl, trivial⟩ h
        · replace h := h.2 c7
          refine r_aload_n (pc := 119) d_Md_feastStep_119 (x := a) rfl ?_
          refine r_getI (pc := 120) d_Md_feastStep_120 f_Md_301 sa rfl ?_
          refine r_iconst (pc := 123) d_Md_feastStep_123 (v := 3) (by decide) ?_
          refine r_icmp_ne (pc := 124) d_Md_feastStep_124 (tgt := 134) (by decide) (fun c17 => ?_) (fun c17 => ?_)
          · replace h := h.1 c17
            refine r_aload_n (pc := 134) d_Md_feastStep_134 (x := a) rfl ?_
            refine r_dup (pc := 135) d_Md_feastStep_135 rfl ?_
            refine r_getI (pc := 136) d_Md_feastStep_136 f_Md_304 sa rfl ?_
            refine r_iload_n (pc := 139) d_Md_feastStep_139 (x := i1) rfl ?_
            refine r_bipush (pc := 140) d_Md_feastStep_140 (v := 13) (by decide) ?_
            refine r_icmp_ne (pc := 142) d_Md_feastStep_142 (tgt := 149) (by decide) (fun c18 => ?_) (fun c18 => ?_)
            · replace h := h.1 c18
              refine r_iconst (pc := 149) d_Md_feastStep_149 (v := 1) (by decide) ?_
              refine r_iadd (pc := 150) d_Md_feastStep_150 ?_
              refine r_putI (pc := 151) d_Md_feastStep_151 f_Md_304 sa rfl ?_
              refine r_aload_n (pc := 154) d_Md_feastStep_154 (x := a) rfl ?_
              obtain ⟨r19, er19, h⟩ := h
              refine r_getR (pc := 155) d_Md_feastStep_155 f_Md_7 sa (Or.inr ⟨_, rfl⟩) (r := r19) er19 ?_
              refine r_iload_n (pc := 158) d_Md_feastStep_158 (x := i3) rfl ?_
              refine r_iload_n (pc := 159) d_Md_feastStep_159 (x := i1) rfl ?_
              obtain ⟨n21, s20, h⟩ := h
              obtain ⟨g22, h⟩ := h
              refine r_iast (pc := 160) d_Md_feastStep_160 s20 g22 ?_
              refine r_iconst (pc := 161) d_Md_feastStep_161 (v := 1) (by decide) ?_
              refine r_istore (pc := 162) (hd := d_Md_feastStep_162) (hi := by decide) (ls2 := [.ref a, .int i1, .int i2, .int i3, .int i4, .int i5, .int 1]) (h2 := rfl) ?_
              exact r_weak (ls2 := [.ref a, .int i1, .int i2, .int i3, .int i4, .null, .int 1]) ⟨Or.inr rfl, Or.inr rfl, Or.inr rfl, Or.inr rfl, Or.inr rfl, Or.inl rfl, Or.inr rfl, trivial⟩ h
            · replace h := h.2 c18
              refine r_iconst (pc := 145) d_Md_feastStep_145 (v := 0) (by decide) ?_
              refine r_goto (pc := 146) d_Md_feastStep_146 (tgt := 150) (by decide) ?_
              refine r_iadd (pc := 150) d_Md_feastStep_150 ?_
              refine r_putI (pc := 151) d_Md_feastStep_151 f_Md_304 sa rfl ?_
              refine r_aload_n (pc := 154) d_Md_feastStep_154 (x := a) rfl ?_
              obtain ⟨r23, er23, h⟩ := h
              refine r_getR (pc := 155) d_Md_feastStep_155 f_Md_7 sa (Or.inr ⟨_, rfl⟩) (r := r23) er23 ?_
              refine r_iload_n (pc := 158) d_Md_feastStep_158 (x := i3) rfl ?_
              refine r_iload_n (pc := 159) d_Md_feastStep_159 (x := i1) rfl ?_
              obtain ⟨n25, s24, h⟩ := h
              obtain ⟨g26, h⟩ := h
              refine r_iast (pc := 160) d_Md_feastStep_160 s24 g26 ?_
              refine r_iconst (pc := 161) d_Md_feastStep_161 (v := 1) (by decide) ?_
              refine r_istore (pc := 162) (hd := d_Md_feastStep_162) (hi := by decide) (ls2 := [.ref a, .int i1, .int i2, .int i3, .int i4, .int i5, .int 1]) (h2 := rfl) ?_
              exact r_weak (ls2 := [.ref a, .int i1, .int i2, .int i3, .int i4, .null, .int 1]) ⟨Or.inr rfl, Or.inr rfl, Or.inr rfl, Or.inr rfl, Or.inr rfl, Or.inl rfl, Or.inr rfl, trivial⟩ h
          · replace h := h.2 c17
            refine r_aload_n (pc := 127) d_Md_feastStep_127 (x := a) rfl ?_
            refine r_bipush (pc := 128) d_Md_feastStep_128 (v := 7) (by decide) ?_
            refine r_callV (pc := 130) (k := a) (As := [.int 7]) (rest := []) (mc' := 0) (ms' := 0) lk_Md_200 in_Md_fails se_Md_fails sa rfl d_Md_feastStep_130 k_Md_fails rfl rfl (Nat.le_of_ble_eq_true rfl) (by decide) (by decide) (Sp.mono h ?_)
            rintro rS27 shS27 S27 ⟨qS27, x28, uS27, h⟩
            subst uS27
            rw [qS27]
            obtain ⟨g29, h⟩ := h
            exact r_zreturn (pc := 133) d_Md_feastStep_133 rfl (aw_nb g29) rfl (Nat.le_refl _) ⟨rfl, _, rfl, h⟩
      · replace h := h.2 c6
        refine r_aload_n (pc := 98) d_Md_feastStep_98 (x := a) rfl ?_
        refine r_getI (pc := 99) d_Md_feastStep_99 f_Md_304 sa rfl ?_
        refine r_bipush (pc := 102) d_Md_feastStep_102 (v := 30) (by decide) ?_
        refine r_icmp_ne (pc := 104) d_Md_feastStep_104 (tgt := 114) (by decide) (fun c30 => ?_) (fun c30 => ?_)
        · replace h := h.1 c30
          refine r_iload (pc := 114) d_Md_feastStep_114 (x := i4) rfl ?_
          refine r_if_eq (pc := 116) d_Md_feastStep_116 (tgt := 134) (by decide) (fun c31 => ?_) (fun c31 => ?_)
          · replace h := h.1 c31
            refine r_aload_n (pc := 134) d_Md_feastStep_134 (x := a) rfl ?_
            refine r_dup (pc := 135) d_Md_feastStep_135 rfl ?_
            refine r_getI (pc := 136) d_Md_feastStep_136 f_Md_304 sa rfl ?_
            refine r_iload_n (pc := 139) d_Md_feastStep_139 (x := i1) rfl ?_
            refine r_bipush (pc := 140) d_Md_feastStep_140 (v := 13) (by decide) ?_
            refine r_icmp_ne (pc := 142) d_Md_feastStep_142 (tgt := 149) (by decide) (fun c32 => ?_) (fun c32 => ?_)
            · replace h := h.1 c32
              refine r_iconst (pc := 149) d_Md_feastStep_149 (v := 1) (by decide) ?_
              refine r_iadd (pc := 150) d_Md_feastStep_150 ?_
              refine r_putI (pc := 151) d_Md_feastStep_151 f_Md_304 sa rfl ?_
              refine r_aload_n (pc := 154) d_Md_feastStep_154 (x := a) rfl ?_
              obtain ⟨r33, er33, h⟩ := h
              refine r_getR (pc := 155) d_Md_feastStep_155 f_Md_7 sa (Or.inr ⟨_, rfl⟩) (r := r33) er33 ?_
              refine r_iload_n (pc := 158) d_Md_feastStep_158 (x := i3) rfl ?_
              refine r_iload_n (pc := 159) d_Md_feastStep_159 (x := i1) rfl ?_
              obtain ⟨n35, s34, h⟩ := h
              obtain ⟨g36, h⟩ := h
              refine r_iast (pc := 160) d_Md_feastStep_160 s34 g36 ?_
              refine r_iconst (pc := 161) d_Md_feastStep_161 (v := 1) (by decide) ?_
              refine r_istore (pc := 162) (hd := d_Md_feastStep_162) (hi := by decide) (ls2 := [.ref a, .int i1, .int i2, .int i3, .int i4, .int i5, .int 1]) (h2 := rfl) ?_
              exact r_weak (ls2 := [.ref a, .int i1, .int i2, .int i3, .int i4, .null, .int 1]) ⟨Or.inr rfl, Or.inr rfl, Or.inr rfl, Or.inr rfl, Or.inr rfl, Or.inl rfl, Or.inr rfl, trivial⟩ h
            · replace h := h.2 c32
              refine r_iconst (pc := 145) d_Md_feastStep_145 (v := 0) (by decide) ?_
              refine r_goto (pc := 146) d_Md_feastStep_146 (tgt := 150) (by decide) ?_
              refine r_iadd (pc := 150) d_Md_feastStep_150 ?_
              refine r_putI (pc := 151) d_Md_feastStep_151 f_Md_304 sa rfl ?_
              refine r_aload_n (pc := 154) d_Md_feastStep_154 (x := a) rfl ?_
              obtain ⟨r37, er37, h⟩ := h
              refine r_getR (pc := 155) d_Md_feastStep_155 f_Md_7 sa (Or.inr ⟨_, rfl⟩) (r := r37) er37 ?_
              refine r_iload_n (pc := 158) d_Md_feastStep_158 (x := i3) rfl ?_
              refine r_iload_n (pc := 159) d_Md_feastStep_159 (x := i1) rfl ?_
              obtain ⟨n39, s38, h⟩ := h
              obtain ⟨g40, h⟩ := h
              refine r_iast (pc := 160) d_Md_feastStep_160 s38 g40 ?_
              refine r_iconst (pc := 161) d_Md_feastStep_161 (v := 1) (by decide) ?_
              refine r_istore (pc := 162) (hd := d_Md_feastStep_162) (hi := by decide) (ls2 := [.ref a, .int i1, .int i2, .int i3, .int i4, .int i5, .int 1]) (h2 := rfl) ?_
              exact r_weak (ls2 := [.ref a, .int i1, .int i2, .int i3, .int i4, .null, .int 1]) ⟨Or.inr rfl, Or.inr rfl, Or.inr rfl, Or.inr rfl, Or.inr rfl, Or.inl rfl, Or.inr rfl, trivial⟩ h
          · replace h := h.2 c31
            refine r_aload_n (pc := 119) d_Md_feastStep_119 (x := a) rfl ?_
            refine r_getI (pc := 120) d_Md_feastStep_120 f_Md_301 sa rfl ?_
            refine r_iconst (pc := 123) d_Md_feastStep_123 (v := 3) (by decide) ?_
            refine r_icmp_ne (pc := 124) d_Md_feastStep_124 (tgt := 134) (by decide) (fun c41 => ?_) (fun c41 => ?_)
            · replace h := h.1 c41
              refine r_aload_n (pc := 134) d_Md_feastStep_134 (x := a) rfl ?_
              refine r_dup (pc := 135) d_Md_feastStep_135 rfl ?_
              refine r_getI (pc := 136) d_Md_feastStep_136 f_Md_304 sa rfl ?_
              refine r_iload_n (pc := 139) d_Md_feastStep_139 (x := i1) rfl ?_
              refine r_bipush (pc := 140) d_Md_feastStep_140 (v := 13) (by decide) ?_
              refine r_icmp_ne (pc := 142) d_Md_feastStep_142 (tgt := 149) (by decide) (fun c42 => ?_) (fun c42 => ?_)
              · replace h := h.1 c42
                refine r_iconst (pc := 149) d_Md_feastStep_149 (v := 1) (by decide) ?_
                refine r_iadd (pc := 150) d_Md_feastStep_150 ?_
                refine r_putI (pc := 151) d_Md_feastStep_151 f_Md_304 sa rfl ?_
                refine r_aload_n (pc := 154) d_Md_feastStep_154 (x := a) rfl ?_
                obtain ⟨r43, er43, h⟩ := h
                refine r_getR (pc := 155) d_Md_feastStep_155 f_Md_7 sa (Or.inr ⟨_, rfl⟩) (r := r43) er43 ?_
                refine r_iload_n (pc := 158) d_Md_feastStep_158 (x := i3) rfl ?_
                refine r_iload_n (pc := 159) d_Md_feastStep_159 (x := i1) rfl ?_
                obtain ⟨n45, s44, h⟩ := h
                obtain ⟨g46, h⟩ := h
                refine r_iast (pc := 160) d_Md_feastStep_160 s44 g46 ?_
                refine r_iconst (pc := 161) d_Md_feastStep_161 (v := 1) (by decide) ?_
                refine r_istore (pc := 162) (hd := d_Md_feastStep_162) (hi := by decide) (ls2 := [.ref a, .int i1, .int i2, .int i3, .int i4, .int i5, .int 1]) (h2 := rfl) ?_
                exact r_weak (ls2 := [.ref a, .int i1, .int i2, .int i3, .int i4, .null, .int 1]) ⟨Or.inr rfl, Or.inr rfl, Or.inr rfl, Or.inr rfl, Or.inr rfl, Or.inl rfl, Or.inr rfl, trivial⟩ h
              · replace h := h.2 c42
                refine r_iconst (pc := 145) d_Md_feastStep_145 (v := 0) (by decide) ?_
                refine r_goto (pc := 146) d_Md_feastStep_146 (tgt := 150) (by decide) ?_
                refine r_iadd (pc := 150) d_Md_feastStep_150 ?_
                refine r_putI (pc := 151) d_Md_feastStep_151 f_Md_304 sa rfl ?_
                refine r_aload_n (pc := 154) d_Md_feastStep_154 (x := a) rfl ?_
                obtain ⟨r47, er47, h⟩ := h
                refine r_getR (pc := 155) d_Md_feastStep_155 f_Md_7 sa (Or.inr ⟨_, rfl⟩) (r := r47) er47 ?_
                refine r_iload_n (pc := 158) d_Md_feastStep_158 (x := i3) rfl ?_
                refine r_iload_n (pc := 159) d_Md_feastStep_159 (x := i1) rfl ?_
                obtain ⟨n49, s48, h⟩ := h
                obtain ⟨g50, h⟩ := h
                refine r_iast (pc := 160) d_Md_feastStep_160 s48 g50 ?_
                refine r_iconst (pc := 161) d_Md_feastStep_161 (v := 1) (by decide) ?_
                refine r_istore (pc := 162) (hd := d_Md_feastStep_162) (hi := by decide) (ls2 := [.ref a, .int i1, .int i2, .int i3, .int i4, .int i5, .int 1]) (h2 := rfl) ?_
                exact r_weak (ls2 := [.ref a, .int i1, .int i2, .int i3, .int i4, .null, .int 1]) ⟨Or.inr rfl, Or.inr rfl, Or.inr rfl, Or.inr rfl, Or.inr rfl, Or.inl rfl, Or.inr rfl, trivial⟩ h
            · replace h := h.2 c41
              refine r_aload_n (pc := 127) d_Md_feastStep_127 (x := a) rfl ?_
              refine r_bipush (pc := 128) d_Md_feastStep_128 (v := 7) (by decide) ?_
              refine r_callV (pc := 130) (k := a) (As := [.int 7]) (rest := []) (mc' := 0) (ms' := 0) lk_Md_200 in_Md_fails se_Md_fails sa rfl d_Md_feastStep_130 k_Md_fails rfl rfl (Nat.le_of_ble_eq_true rfl) (by decide) (by decide) (Sp.mono h ?_)
              rintro rS51 shS51 S51 ⟨qS51, x52, uS51, h⟩
              subst uS51
              rw [qS51]
              obtain ⟨g53, h⟩ := h
              exact r_zreturn (pc := 133) d_Md_feastStep_133 rfl (aw_nb g53) rfl (Nat.le_refl _) ⟨rfl, _, rfl, h⟩
        · replace h := h.2 c30
          refine r_aload_n (pc := 107) d_Md_feastStep_107 (x := a) rfl ?_
          refine r_bipush (pc := 108) d_Md_feastStep_108 (v := 6) (by decide) ?_
          refine r_callV (pc := 110) (k := a) (As := [.int 6]) (rest := []) (mc' := 0) (ms' := 0) lk_Md_200 in_Md_fails se_Md_fails sa rfl d_Md_feastStep_110 k_Md_fails rfl rfl (Nat.le_of_ble_eq_true rfl) (by decide) (by decide) (Sp.mono h ?_)
          rintro rS54 shS54 S54 ⟨qS54, x55, uS54, h⟩
          subst uS54
          rw [qS54]
          obtain ⟨g56, h⟩ := h
          exact r_zreturn (pc := 113) d_Md_feastStep_113 rfl (aw_nb g56) rfl (Nat.le_refl _) ⟨rfl, _, rfl, h⟩
    · replace h := h.2 c5
      refine r_aload_n (pc := 79) d_Md_feastStep_79 (x := a) rfl ?_
      refine r_getI (pc := 80) d_Md_feastStep_80 f_Md_301 sa rfl ?_
      refine r_if_ne (pc := 83) d_Md_feastStep_83 (tgt := 92) (by decide) (fun c57 => ?_) (fun c57 => ?_)
      · replace h := h.1 c57
        refine r_iload_n (pc := 92) d_Md_feastStep_92 (x := i1) rfl ?_
        refine r_bipush (pc := 93) d_Md_feastStep_93 (v := 13) (by decide) ?_
        refine r_icmp_eq (pc := 95) d_Md_feastStep_95 (tgt := 114) (by decide) (fun c58 => ?_) (fun c58 => ?_)
        · replace h := h.1 c58
          refine r_iload (pc := 114) d_Md_feastStep_114 (x := i4) rfl ?_
          refine r_if_eq (pc := 116) d_Md_feastStep_116 (tgt := 134) (by decide) (fun c59 => ?_) (fun c59 => ?_)
          · replace h := h.1 c59
            refine r_aload_n (pc := 134) d_Md_feastStep_134 (x := a) rfl ?_
            refine r_dup (pc := 135) d_Md_feastStep_135 rfl ?_
            refine r_getI (pc := 136) d_Md_feastStep_136 f_Md_304 sa rfl ?_
            refine r_iload_n (pc := 139) d_Md_feastStep_139 (x := i1) rfl ?_
            refine r_bipush (pc := 140) d_Md_feastStep_140 (v := 13) (by decide) ?_
            refine r_icmp_ne (pc := 142) d_Md_feastStep_142 (tgt := 149) (by decide) (fun c60 => ?_) (fun c60 => ?_)
            · replace h := h.1 c60
              refine r_iconst (pc := 149) d_Md_feastStep_149 (v := 1) (by decide) ?_
              refine r_iadd (pc := 150) d_Md_feastStep_150 ?_
              refine r_putI (pc := 151) d_Md_feastStep_151 f_Md_304 sa rfl ?_
              refine r_aload_n (pc := 154) d_Md_feastStep_154 (x := a) rfl ?_
              obtain ⟨r61, er61, h⟩ := h
              refine r_getR (pc := 155) d_Md_feastStep_155 f_Md_7 sa (Or.inr ⟨_, rfl⟩) (r := r61) er61 ?_
              refine r_iload_n (pc := 158) d_Md_feastStep_158 (x := i3) rfl ?_
              refine r_iload_n (pc := 159) d_Md_feastStep_159 (x := i1) rfl ?_
              obtain ⟨n63, s62, h⟩ := h
              obtain ⟨g64, h⟩ := h
              refine r_iast (pc := 160) d_Md_feastStep_160 s62 g64 ?_
              refine r_iconst (pc := 161) d_Md_feastStep_161 (v := 1) (by decide) ?_
              refine r_istore (pc := 162) (hd := d_Md_feastStep_162) (hi := by decide) (ls2 := [.ref a, .int i1, .int i2, .int i3, .int i4, .int i5, .int 1]) (h2 := rfl) ?_
              exact r_weak (ls2 := [.ref a, .int i1, .int i2, .int i3, .int i4, .null, .int 1]) ⟨Or.inr rfl, Or.inr rfl, Or.inr rfl, Or.inr rfl, Or.inr rfl, Or.inl rfl, Or.inr rfl, trivial⟩ h
            · replace h := h.2 c60
              refine r_iconst (pc := 145) d_Md_feastStep_145 (v := 0) (by decide) ?_
              refine r_goto (pc := 146) d_Md_feastStep_146 (tgt := 150) (by decide) ?_
              refine r_iadd (pc := 150) d_Md_feastStep_150 ?_
              refine r_putI (pc := 151) d_Md_feastStep_151 f_Md_304 sa rfl ?_
              refine r_aload_n (pc := 154) d_Md_feastStep_154 (x := a) rfl ?_
              obtain ⟨r65, er65, h⟩ := h
              refine r_getR (pc := 155) d_Md_feastStep_155 f_Md_7 sa (Or.inr ⟨_, rfl⟩) (r := r65) er65 ?_
              refine r_iload_n (pc := 158) d_Md_feastStep_158 (x := i3) rfl ?_
              refine r_iload_n (pc := 159) d_Md_feastStep_159 (x := i1) rfl ?_
              obtain ⟨n67, s66, h⟩ := h
              obtain ⟨g68, h⟩ := h
              refine r_iast (pc := 160) d_Md_feastStep_160 s66 g68 ?_
              refine r_iconst (pc := 161) d_Md_feastStep_161 (v := 1) (by decide) ?_
              refine r_istore (pc := 162) (hd := d_Md_feastStep_162) (hi := by decide) (ls2 := [.ref a, .int i1, .int i2, .int i3, .int i4, .int i5, .int 1]) (h2 := rfl) ?_
              exact r_weak (ls2 := [.ref a, .int i1, .int i2, .int i3, .int i4, .null, .int 1]) ⟨Or.inr rfl, Or.inr rfl, Or.inr rfl, Or.inr rfl, Or.inr rfl, Or.inl rfl, Or.inr rfl, trivial⟩ h
          · replace h := h.2 c59
            refine r_aload_n (pc := 119) d_Md_feastStep_119 (x := a) rfl ?_
            refine r_getI (pc := 120) d_Md_feastStep_120 f_Md_301 sa rfl ?_
            refine r_iconst (pc := 123) d_Md_feastStep_123 (v := 3) (by decide) ?_
            refine r_icmp_ne (pc := 124) d_Md_feastStep_124 (tgt := 134) (by decide) (fun c69 => ?_) (fun c69 => ?_)
            · replace h := h.1 c69
              refine r_aload_n (pc := 134) d_Md_feastStep_134 (x := a) rfl ?_
              refine r_dup (pc := 135) d_Md_feastStep_135 rfl ?_
              refine r_getI (pc := 136) d_Md_feastStep_136 f_Md_304 sa rfl ?_
              refine r_iload_n (pc := 139) d_Md_feastStep_139 (x := i1) rfl ?_
              refine r_bipush (pc := 140) d_Md_feastStep_140 (v := 13) (by decide) ?_
              refine r_icmp_ne (pc := 142) d_Md_feastStep_142 (tgt := 149) (by decide) (fun c70 => ?_) (fun c70 => ?_)
              · replace h := h.1 c70
                refine r_iconst (pc := 149) d_Md_feastStep_149 (v := 1) (by decide) ?_
                refine r_iadd (pc := 150) d_Md_feastStep_150 ?_
                refine r_putI (pc := 151) d_Md_feastStep_151 f_Md_304 sa rfl ?_
                refine r_aload_n (pc := 154) d_Md_feastStep_154 (x := a) rfl ?_
                obtain ⟨r71, er71, h⟩ := h
                refine r_getR (pc := 155) d_Md_feastStep_155 f_Md_7 sa (Or.inr ⟨_, rfl⟩) (r := r71) er71 ?_
                refine r_iload_n (pc := 158) d_Md_feastStep_158 (x := i3) rfl ?_
                refine r_iload_n (pc := 159) d_Md_feastStep_159 (x := i1) rfl ?_
                obtain ⟨n73, s72, h⟩ := h
                obtain ⟨g74, h⟩ := h
                refine r_iast (pc := 160) d_Md_feastStep_160 s72 g74 ?_
                refine r_iconst (pc := 161) d_Md_feastStep_161 (v := 1) (by decide) ?_
                refine r_istore (pc := 162) (hd := d_Md_feastStep_162) (hi := by decide) (ls2 := [.ref a, .int i1, .int i2, .int i3, .int i4, .int i5, .int 1]) (h2 := rfl) ?_
                exact r_weak (ls2 := [.ref a, .int i1, .int i2, .int i3, .int i4, .null, .int 1]) ⟨Or.inr rfl, Or.inr rfl, Or.inr rfl, Or.inr rfl, Or.inr rfl, Or.inl rfl, Or.inr rfl, trivial⟩ h
              · replace h := h.2 c70
                refine r_iconst (pc := 145) d_Md_feastStep_145 (v := 0) (by decide) ?_
                refine r_goto (pc := 146) d_Md_feastStep_146 (tgt := 150) (by decide) ?_
                refine r_iadd (pc := 150) d_Md_feastStep_150 ?_
                refine r_putI (pc := 151) d_Md_feastStep_151 f_Md_304 sa rfl ?_
                refine r_aload_n (pc := 154) d_Md_feastStep_154 (x := a) rfl ?_
                obtain ⟨r75, er75, h⟩ := h
                refine r_getR (pc := 155) d_Md_feastStep_155 f_Md_7 sa (Or.inr ⟨_, rfl⟩) (r := r75) er75 ?_
                refine r_iload_n (pc := 158) d_Md_feastStep_158 (x := i3) rfl ?_
                refine r_iload_n (pc := 159) d_Md_feastStep_159 (x := i1) rfl ?_
                obtain ⟨n77, s76, h⟩ := h
                obtain ⟨g78, h⟩ := h
                refine r_iast (pc := 160) d_Md_feastStep_160 s76 g78 ?_
                refine r_iconst (pc := 161) d_Md_feastStep_161 (v := 1) (by decide) ?_
                refine r_istore (pc := 162) (hd := d_Md_feastStep_162) (hi := by decide) (ls2 := [.ref a, .int i1, .int i2, .int i3, .int i4, .int i5, .int 1]) (h2 := rfl) ?_
                exact r_weak (ls2 := [.ref a, .int i1, .int i2, .int i3, .int i4, .null, .int 1]) ⟨Or.inr rfl, Or.inr rfl, Or.inr rfl, Or.inr rfl, Or.inr rfl, Or.inl rfl, Or.inr rfl, trivial⟩ h
            · replace h := h.2 c69
              refine r_aload_n (pc := 127) d_Md_feastStep_127 (x := a) rfl ?_
              refine r_bipush (pc := 128) d_Md_feastStep_128 (v := 7) (by decide) ?_
              refine r_callV (pc := 130) (k := a) (As := [.int 7]) (rest := []) (mc' := 0) (ms' := 0) lk_Md_200 in_Md_fails se_Md_fails sa rfl d_Md_feastStep_130 k_Md_fails rfl rfl (Nat.le_of_ble_eq_true rfl) (by decide) (by decide) (Sp.mono h ?_)
              rintro rS79 shS79 S79 ⟨qS79, x80, uS79, h⟩
              subst uS79
              rw [qS79]
              obtain ⟨g81, h⟩ := h
              exact r_zreturn (pc := 133) d_Md_feastStep_133 rfl (aw_nb g81) rfl (Nat.le_refl _) ⟨rfl, _, rfl, h⟩
        · replace h := h.2 c58
          refine r_aload_n (pc := 98) d_Md_feastStep_98 (x := a) rfl ?_
          refine r_getI (pc := 99) d_Md_feastStep_99 f_Md_304 sa rfl ?_
          refine r_bipush (pc := 102) d_Md_feastStep_102 (v := 30) (by decide) ?_
          refine r_icmp_ne (pc := 104) d_Md_feastStep_104 (tgt := 114) (by decide) (fun c82 => ?_) (fun c82 => ?_)
          · replace h := h.1 c82
            refine r_iload (pc := 114) d_Md_feastStep_114 (x := i4) rfl ?_
            refine r_if_eq (pc := 116) d_Md_feastStep_116 (tgt := 134) (by decide) (fun c83 => ?_) (fun c83 => ?_)
            · replace h := h.1 c83
              refine r_aload_n (pc := 134) d_Md_feastStep_134 (x := a) rfl ?_
              refine r_dup (pc := 135) d_Md_feastStep_135 rfl ?_
              refine r_getI (pc := 136) d_Md_feastStep_136 f_Md_304 sa rfl ?_
              refine r_iload_n (pc := 139) d_Md_feastStep_139 (x := i1) rfl ?_
              refine r_bipush (pc := 140) d_Md_feastStep_140 (v := 13) (by decide) ?_
              refine r_icmp_ne (pc := 142) d_Md_feastStep_142 (tgt := 149) (by decide) (fun c84 => ?_) (fun c84 => ?_)
              · replace h := h.1 c84
                refine r_iconst (pc := 149) d_Md_feastStep_149 (v := 1) (by decide) ?_
                refine r_iadd (pc := 150) d_Md_feastStep_150 ?_
                refine r_putI (pc := 151) d_Md_feastStep_151 f_Md_304 sa rfl ?_
                refine r_aload_n (pc := 154) d_Md_feastStep_154 (x := a) rfl ?_
                obtain ⟨r85, er85, h⟩ := h
                refine r_getR (pc := 155) d_Md_feastStep_155 f_Md_7 sa (Or.inr ⟨_, rfl⟩) (r := r85) er85 ?_
                refine r_iload_n (pc := 158) d_Md_feastStep_158 (x := i3) rfl ?_
                refine r_iload_n (pc := 159) d_Md_feastStep_159 (x := i1) rfl ?_
                obtain ⟨n87, s86, h⟩ := h
                obtain ⟨g88, h⟩ := h
                refine r_iast (pc := 160) d_Md_feastStep_160 s86 g88 ?_
                refine r_iconst (pc := 161) d_Md_feastStep_161 (v := 1) (by decide) ?_
                refine r_istore (pc := 162) (hd := d_Md_feastStep_162) (hi := by decide) (ls2 := [.ref a, .int i1, .int i2, .int i3, .int i4, .int i5, .int 1]) (h2 := rfl) ?_
                exact r_weak (ls2 := [.ref a, .int i1, .int i2, .int i3, .int i4, .null, .int 1]) ⟨Or.inr rfl, Or.inr rfl, Or.inr rfl, Or.inr rfl, Or.inr rfl, Or.inl rfl, Or.inr rfl, trivial⟩ h
              · replace h := h.2 c84
                refine r_iconst (pc := 145) d_Md_feastStep_145 (v := 0) (by decide) ?_
                refine r_goto (pc := 146) d_Md_feastStep_146 (tgt := 150) (by decide) ?_
                refine r_iadd (pc := 150) d_Md_feastStep_150 ?_
                refine r_putI (pc := 151) d_Md_feastStep_151 f_Md_304 sa rfl ?_
                refine r_aload_n (pc := 154) d_Md_feastStep_154 (x := a) rfl ?_
                obtain ⟨r89, er89, h⟩ := h
                refine r_getR (pc := 155) d_Md_feastStep_155 f_Md_7 sa (Or.inr ⟨_, rfl⟩) (r := r89) er89 ?_
                refine r_iload_n (pc := 158) d_Md_feastStep_158 (x := i3) rfl ?_
                refine r_iload_n (pc := 159) d_Md_feastStep_159 (x := i1) rfl ?_
                obtain ⟨n91, s90, h⟩ := h
                obtain ⟨g92, h⟩ := h
                refine r_iast (pc := 160) d_Md_feastStep_160 s90 g92 ?_
                refine r_iconst (pc := 161) d_Md_feastStep_161 (v := 1) (by decide) ?_
                refine r_istore (pc := 162) (hd := d_Md_feastStep_162) (hi := by decide) (ls2 := [.ref a, .int i1, .int i2, .int i3, .int i4, .int i5, .int 1]) (h2 := rfl) ?_
                exact r_weak (ls2 := [.ref a, .int i1, .int i2, .int i3, .int i4, .null, .int 1]) ⟨Or.inr rfl, Or.inr rfl, Or.inr rfl, Or.inr rfl, Or.inr rfl, Or.inl rfl, Or.inr rfl, trivial⟩ h
            · replace h := h.2 c83
              refine r_aload_n (pc := 119) d_Md_feastStep_119 (x := a) rfl ?_
              refine r_getI (pc := 120) d_Md_feastStep_120 f_Md_301 sa rfl ?_
              refine r_iconst (pc := 123) d_Md_feastStep_123 (v := 3) (by decide) ?_
              refine r_icmp_ne (pc := 124) d_Md_feastStep_124 (tgt := 134) (by decide) (fun c93 => ?_) (fun c93 => ?_)
              · replace h := h.1 c93
                refine r_aload_n (pc := 134) d_Md_feastStep_134 (x := a) rfl ?_
                refine r_dup (pc := 135) d_Md_feastStep_135 rfl ?_
                refine r_getI (pc := 136) d_Md_feastStep_136 f_Md_304 sa rfl ?_
                refine r_iload_n (pc := 139) d_Md_feastStep_139 (x := i1) rfl ?_
                refine r_bipush (pc := 140) d_Md_feastStep_140 (v := 13) (by decide) ?_
                refine r_icmp_ne (pc := 142) d_Md_feastStep_142 (tgt := 149) (by decide) (fun c94 => ?_) (fun c94 => ?_)
                · replace h := h.1 c94
                  refine r_iconst (pc := 149) d_Md_feastStep_149 (v := 1) (by decide) ?_
                  refine r_iadd (pc := 150) d_Md_feastStep_150 ?_
                  refine r_putI (pc := 151) d_Md_feastStep_151 f_Md_304 sa rfl ?_
                  refine r_aload_n (pc := 154) d_Md_feastStep_154 (x := a) rfl ?_
                  obtain ⟨r95, er95, h⟩ := h
                  refine r_getR (pc := 155) d_Md_feastStep_155 f_Md_7 sa (Or.inr ⟨_, rfl⟩) (r := r95) er95 ?_
                  refine r_iload_n (pc := 158) d_Md_feastStep_158 (x := i3) rfl ?_
                  refine r_iload_n (pc := 159) d_Md_feastStep_159 (x := i1) rfl ?_
                  obtain ⟨n97, s96, h⟩ := h
                  obtain ⟨g98, h⟩ := h
                  refine r_iast (pc := 160) d_Md_feastStep_160 s96 g98 ?_
                  refine r_iconst (pc := 161) d_Md_feastStep_161 (v := 1) (by decide) ?_
                  refine r_istore (pc := 162) (hd := d_Md_feastStep_162) (hi := by decide) (ls2 := [.ref a, .int i1, .int i2, .int i3, .int i4, .int i5, .int 1]) (h2 := rfl) ?_
                  exact r_weak (ls2 := [.ref a, .int i1, .int i2, .int i3, .int i4, .null, .int 1]) ⟨Or.inr rfl, Or.inr rfl, Or.inr rfl, Or.inr rfl, Or.inr rfl, Or.inl rfl, Or.inr rfl, trivial⟩ h
                · replace h := h.2 c94
                  refine r_iconst (pc := 145) d_Md_feastStep_145 (v := 0) (by decide) ?_
                  refine r_goto (pc := 146) d_Md_feastStep_146 (tgt := 150) (by decide) ?_
                  refine r_iadd (pc := 150) d_Md_feastStep_150 ?_
                  refine r_putI (pc := 151) d_Md_feastStep_151 f_Md_304 sa rfl ?_
                  refine r_aload_n (pc := 154) d_Md_feastStep_154 (x := a) rfl ?_
                  obtain ⟨r99, er99, h⟩ := h
                  refine r_getR (pc := 155) d_Md_feastStep_155 f_Md_7 sa (Or.inr ⟨_, rfl⟩) (r := r99) er99 ?_
                  refine r_iload_n (pc := 158) d_Md_feastStep_158 (x := i3) rfl ?_
                  refine r_iload_n (pc := 159) d_Md_feastStep_159 (x := i1) rfl ?_
                  obtain ⟨n101, s100, h⟩ := h
                  obtain ⟨g102, h⟩ := h
                  refine r_iast (pc := 160) d_Md_feastStep_160 s100 g102 ?_
                  refine r_iconst (pc := 161) d_Md_feastStep_161 (v := 1) (by decide) ?_
                  refine r_istore (pc := 162) (hd := d_Md_feastStep_162) (hi := by decide) (ls2 := [.ref a, .int i1, .int i2, .int i3, .int i4, .int i5, .int 1]) (h2 := rfl) ?_
                  exact r_weak (ls2 := [.ref a, .int i1, .int i2, .int i3, .int i4, .null, .int 1]) ⟨Or.inr rfl, Or.inr rfl, Or.inr rfl, Or.inr rfl, Or.inr rfl, Or.inl rfl, Or.inr rfl, trivial⟩ h
              · replace h := h.2 c93
                refine r_aload_n (pc := 127) d_Md_feastStep_127 (x := a) rfl ?_
                refine r_bipush (pc := 128) d_Md_feastStep_128 (v := 7) (by decide) ?_
                refine r_callV (pc := 130) (k := a) (As := [.int 7]) (rest := []) (mc' := 0) (ms' := 0) lk_Md_200 in_Md_fails se_Md_fails sa rfl d_Md_feastStep_130 k_Md_fails rfl rfl (Nat.le_of_ble_eq_true rfl) (by decide) (by decide) (Sp.mono h ?_)
                rintro rS103 shS103 S103 ⟨qS103, x104, uS103, h⟩
                subst uS103
                rw [qS103]
                obtain ⟨g105, h⟩ := h
                exact r_zreturn (pc := 133) d_Md_feastStep_133 rfl (aw_nb g105) rfl (Nat.le_refl _) ⟨rfl, _, rfl, h⟩
          · replace h := h.2 c82
            refine r_aload_n (pc := 107) d_Md_feastStep_107 (x := a) rfl ?_
            refine r_bipush (pc := 108) d_Md_feastStep_108 (v := 6) (by decide) ?_
            refine r_callV (pc := 110) (k := a) (As := [.int 6]) (rest := []) (mc' := 0) (ms' := 0) lk_Md_200 in_Md_fails se_Md_fails sa rfl d_Md_feastStep_110 k_Md_fails rfl rfl (Nat.le_of_ble_eq_true rfl) (by decide) (by decide) (Sp.mono h ?_)
            rintro rS106 shS106 S106 ⟨qS106, x107, uS106, h⟩
            subst uS106
            rw [qS106]
            obtain ⟨g108, h⟩ := h
            exact r_zreturn (pc := 113) d_Md_feastStep_113 rfl (aw_nb g108) rfl (Nat.le_refl _) ⟨rfl, _, rfl, h⟩
      · replace h := h.2 c57
        refine r_aload_n (pc := 86) d_Md_feastStep_86 (x := a) rfl ?_
        refine r_iconst (pc := 87) d_Md_feastStep_87 (v := 2) (by decide) ?_
        refine r_callV (pc := 88) (k := a) (As := [.int 2]) (rest := []) (mc' := 0) (ms' := 0) lk_Md_200 in_Md_fails se_Md_fails sa rfl d_Md_feastStep_88 k_Md_fails rfl rfl (Nat.le_of_ble_eq_true rfl) (by decide) (by decide) (Sp.mono h ?_)
        rintro rS109 shS109 S109 ⟨qS109, x110, uS109, h⟩
        subst uS109
        rw [qS109]
        obtain ⟨g111, h⟩ := h
        exact r_zreturn (pc := 91) d_Md_feastStep_91 rfl (aw_nb g111) rfl (Nat.le_refl _) ⟨rfl, _, rfl, h⟩
set_option maxRecDepth 4000 in
theorem s_Md_feastStep_164 {l : Launch} {d : Nat} {sh : aw_SH} {S : aw_S} {P : Int32 → aw_S → Prop} {a : Nat} {i1 : Int32} {i2 : Int32} {i3 : Int32} {i4 : Int32} {i6 : Int32} (sa : sh[a]? = some (0, 11)) (h : ((6 ≤ i6 → ∃ r2, S.2.2 a 0 = some r2 ∧ ∃ n4, sh[r2]? = some (3, n4) ∧ vp_in 2213 n4 ∧ vp_in 2213 n4 ∧ Sp l m_Md_ahead d 0 0 [.ref a] sh (aw_uI S r2 ((2213 : Int32).toNatClampNeg) ((S.1 r2 (2213 : Int32).toNatClampNeg) + (1 : Int32))) (gV sh (fun S7 => Sp l m_Md_feastOrder d 0 0 [.ref a, .int i1, .int i3] sh S7 (gI sh (fun x9 S8 => ((¬ x9 = 0 → ((i4 = 0 → ((¬ i1 = 13 → Sp l m_Md_wantSign d 0 0 [.ref a, .int 59] sh S8 (gI sh (fun x14 S13 => ((x14 = 0 ∨ x14 = 1) ∧ P x14 S13)))) ∧ (i1 = 13 → ∃ r16, (aw_uI S8 a 22 ((S8.1 a 22) - (1 : Int32))).2.2 a 0 = some r16 ∧ ∃ r17, (aw_uI S8 a 22 ((S8.1 a 22) - (1 : Int32))).2.2 a 21 = some r17 ∧ ∃ n19, sh[r17]? = some (3, n19) ∧ vp_in ((aw_uI S8 a 22 ((S8.1 a 22) - (1 : Int32))).1 a 22) n19 ∧ ∃ n22, sh[r16]? = some (3, n22) ∧ vp_in (i3 + (4 : Int32)) n22 ∧ vp_in ((aw_uI (aw_uI S8 a 22 ((S8.1 a 22) - (1 : Int32))) r16 ((i3 + (4 : Int32) : Int32).toNatClampNeg) ((aw_uI S8 a 22 ((S8.1 a 22) - (1 : Int32))).1 r17 ((aw_uI S8 a 22 ((S8.1 a 22) - (1 : Int32))).1 a 22 : Int32).toNatClampNeg)).1 a 22) n19 ∧ vp_in (((2392 : Int32) + ((6 : Int32) * ((aw_uI (aw_uI S8 a 22 ((S8.1 a 22) - (1 : Int32))) r16 ((i3 + (4 : Int32) : Int32).toNatClampNeg) ((aw_uI S8 a 22 ((S8.1 a 22) - (1 : Int32))).1 r17 ((aw_uI S8 a 22 ((S8.1 a 22) - (1 : Int32))).1 a 22 : Int32).toNatClampNeg)).1 r17 ((aw_uI (aw_uI S8 a 22 ((S8.1 a 22) - (1 : Int32))) r16 ((i3 + (4 : Int32) : Int32).toNatClampNeg) ((aw_uI S8 a 22 ((S8.1 a 22) - (1 : Int32))).1 r17 ((aw_uI S8 a 22 ((S8.1 a 22) - (1 : Int32))).1 a 22 : Int32).toNatClampNeg)).1 a 22 : Int32).toNatClampNeg))) + (4 : Int32)) n22 ∧ Sp l m_Md_wantSign d 0 0 [.ref a, .int 59] sh (aw_uI (aw_uI (aw_uI S8 a 22 ((S8.1 a 22) - (1 : Int32))) r16 ((i3 + (4 : Int32) : Int32).toNatClampNeg) ((aw_uI S8 a 22 ((S8.1 a 22) - (1 : Int32))).1 r17 ((aw_uI S8 a 22 ((S8.1 a 22) - (1 : Int32))).1 a 22 : Int32).toNatClampNeg)) r16 ((((2392 : Int32) + ((6 : Int32) * ((aw_uI (aw_uI S8 a 22 ((S8.1 a 22) - (1 : Int32))) r16 ((i3 + (4 : Int32) : Int32).toNatClampNeg) ((aw_uI S8 a 22 ((S8.1 a 22) - (1 : Int32))).1 r17 ((aw_uI S8 a 22 ((S8.1 a 22) - (1 : Int32))).1 a 22 : Int32).toNatClampNeg)).1 r17 ((aw_uI (aw_uI S8 a 22 ((S8.1 a 22) - (1 : Int32))) r16 ((i3 + (4 : Int32) : Int32).toNatClampNeg) ((aw_uI S8 a 22 ((S8.1 a 22) - (1 : Int32))).1 r17 ((aw_uI S8 a 22 ((S8.1 a 22) - (1 : Int32))).1 a 22 : Int32).toNatClampNeg)).1 a 22 : Int32).toNatClampNeg))) + (4 : Int32) : Int32).toNatClampNeg) i2) (gI sh (fun x27 S26 => ((x27 = 0 ∨ x27 = 1) ∧ P x27 S26)))))) ∧ (¬ i4 = 0 → ∃ r29, S8.2.2 a 21 = some r29 ∧ ∃ n31, sh[r29]? = some (3, n31) ∧ vp_in (S8.1 a 22) n31 ∧ ((¬ i1 = 13 → Sp l m_Md_wantSign d 0 0 [.ref a, .int 59] sh (aw_uI (aw_uI S8 r29 ((S8.1 a 22 : Int32).toNatClampNeg) i2) a 22 (((aw_uI S8 r29 ((S8.1 a 22 : Int32).toNatClampNeg) i2).1 a 22) + (1 : Int32))) (gI sh (fun x35 S34 => ((x35 = 0 ∨ x35 = 1) ∧ P x35 S34)))) ∧ (i1 = 13 → ∃ r37, (aw_uI (aw_uI (aw_uI S8 r29 ((S8.1 a 22 : Int32).toNatClampNeg) i2) a 22 (((aw_uI S8 r29 ((S8.1 a 22 : Int32).toNatClampNeg) i2).1 a 22) + (1 : Int32))) a 22 (((aw_uI (aw_uI S8 r29 ((S8.1 a 22 : Int32).toNatClampNeg) i2) a 22 (((aw_uI S8 r29 ((S8.1 a 22 : Int32).toNatClampNeg) i2).1 a 22) + (1 : Int32))).1 a 22) - (1 : Int32))).2.2 a 0 = some r37 ∧ vp_in ((aw_uI (aw_uI (aw_uI S8 r29 ((S8.1 a 22 : Int32).toNatClampNeg) i2) a 22 (((aw_uI S8 r29 ((S8.1 a 22 : Int32).toNatClampNeg) i2).1 a 22) + (1 : Int32))) a 22 (((aw_uI (aw_uI S8 r29 ((S8.1 a 22 : Int32).toNatClampNeg) i2) a 22 (((aw_uI S8 r29 ((S8.1 a 22 : Int32).toNatClampNeg) i2).1 a 22) + (1 : Int32))).1 a 22) - (1 : Int32))).1 a 22) n31 ∧ ∃ n40, sh[r37]? = some (3, n40) ∧ vp_in (i3 + (4 : Int32)) n40 ∧ vp_in ((aw_uI (aw_uI (aw_uI (aw_uI S8 r29 ((S8.1 a 22 : Int32).toNatClampNeg) i2) a 22 (((aw_uI S8 r29 ((S8.1 a 22 : Int32).toNatClampNeg) i2).1 a 22) + (1 : Int32))) a 22 (((aw_uI (aw_uI S8 r29 ((S8.1 a 22 : Int32).toNatClampNeg) i2) a 22 (((aw_uI S8 r29 ((S8.1 a 22 : Int32).toNatClampNeg) i2).1 a 22) + (1 : Int32))).1 a 22) - (1 : Int32))) r37 ((i3 + (4 : Int32) : Int32).toNatClampNeg) ((aw_uI (aw_uI (aw_uI S8 r29 ((S8.1 a 22 : Int32).toNatClampNeg) i2) a 22 (((aw_uI S8 r29 ((S8.1 a 22 : Int32).toNatClampNeg) i2).1 a 22) + (1 : Int32))) a 22 (((aw_uI (aw_uI S8 r29 ((S8.1 a 22 : Int32).toNatClampNeg) i2) a 22 (((aw_uI S8 r29 ((S8.1 a 22 : Int32).toNatClampNeg) i2).1 a 22) + (1 : Int32))).1 a 22) - (1 : Int32))).1 r29 ((aw_uI (aw_uI (aw_uI S8 r29 ((S8.1 a 22 : Int32).toNatClampNeg) i2) a 22 (((aw_uI S8 r29 ((S8.1 a 22 : Int32).toNatClampNeg) i2).1 a 22) + (1 : Int32))) a 22 (((aw_uI (aw_uI S8 r29 ((S8.1 a 22 : Int32).toNatClampNeg) i2) a 22 (((aw_uI S8 r29 ((S8.1 a 22 : Int32).toNatClampNeg) i2).1 a 22) + (1 : Int32))).1 a 22) - (1 : Int32))).1 a 22 : Int32).toNatClampNeg)).1 a 22) n31 ∧ vp_in (((2392 : Int32) + ((6 : Int32) * ((aw_uI (aw_uI (aw_uI (aw_uI S8 r29 ((S8.1 a 22 : Int32).toNatClampNeg) i2) a 22 (((aw_uI S8 r29 ((S8.1 a 22 : Int32).toNatClampNeg) i2).1 a 22) + (1 : Int32))) a 22 (((aw_uI (aw_uI S8 r29 ((S8.1 a 22 : Int32).toNatClampNeg) i2) a 22 (((aw_uI S8 r29 ((S8.1 a 22 : Int32).toNatClampNeg) i2).1 a 22) + (1 : Int32))).1 a 22) - (1 : Int32))) r37 ((i3 + (4 : Int32) : Int32).toNatClampNeg) ((aw_uI (aw_uI (aw_uI S8 r29 ((S8.1 a 22 : Int32).toNatClampNeg) i2) a 22 (((aw_uI S8 r29 ((S8.1 a 22 : Int32).toNatClampNeg) i2).1 a 22) + (1 : Int32))) a 22 (((aw_uI (aw_uI S8 r29 ((S8.1 a 22 : Int32).toNatClampNeg) i2) a 22 (((aw_uI S8 r29 ((S8.1 a 22 : Int32).toNatClampNeg) i2).1 a 22) + (1 : Int32))).1 a 22) - (1 : Int32))).1 r29 ((aw_uI (aw_uI (aw_uI S8 r29 ((S8.1 a 22 : Int32).toNatClampNeg) i2) a 22 (((aw_uI S8 r29 ((S8.1 a 22 : Int32).toNatClampNeg) i2).1 a 22) + (1 : Int32))) a 22 (((aw_uI (aw_uI S8 r29 ((S8.1 a 22 : Int32).toNatClampNeg) i2) a 22 (((aw_uI S8 r29 ((S8.1 a 22 : Int32).toNatClampNeg) i2).1 a 22) + (1 : Int32))).1 a 22) - (1 : Int32))).1 a 22 : Int32).toNatClampNeg)).1 r29 ((aw_uI (aw_uI (aw_uI (aw_uI S8 r29 ((S8.1 a 22 : Int32).toNatClampNeg) i2) a 22 (((aw_uI S8 r29 ((S8.1 a 22 : Int32).toNatClampNeg) i2).1 a 22) + (1 : Int32))) a 22 (((aw_uI (aw_uI S8 r29 ((S8.1 a 22 : Int32).toNatClampNeg) i2) a 22 (((aw_uI S8 r29 ((S8.1 a 22 : Int32).toNatClampNeg) i2).1 a 22) + (1 : Int32))).1 a 22) - (1 : Int32))) r37 ((i3 + (4 : Int32) : Int32).toNatClampNeg) ((aw_uI (aw_uI (aw_uI S8 r29 ((S8.1 a 22 : Int32).toNatClampNeg) i2) a 22 (((aw_uI S8 r29 ((S8.1 a 22 : Int32).toNatClampNeg) i2).1 a 22) + (1 : Int32))) a 22 (((aw_uI (aw_uI S8 r29 ((S8.1 a 22 : Int32).toNatClampNeg) i2) a 22 (((aw_uI S8 r29 ((S8.1 a 22 : Int32).toNatClampNeg) i2).1 a 22) + (1 : Int32))).1 a 22) - (1 : Int32))).1 r29 ((aw_uI (aw_uI (aw_uI S8 r29 ((S8.1 a 22 : Int32).toNatClampNeg) i2) a 22 (((aw_uI S8 r29 ((S8.1 a 22 : Int32).toNatClampNeg) i2).1 a 22) + (1 : Int32))) a 22 (((aw_uI (aw_uI S8 r29 ((S8.1 a 22 : Int32).toNatClampNeg) i2) a 22 (((aw_uI S8 r29 ((S8.1 a 22 : Int32).toNatClampNeg) i2).1 a 22) + (1 : Int32))).1 a 22) - (1 : Int32))).1 a 22 : Int32).toNatClampNeg)).1 a 22 : Int32).toNatClampNeg))) + (4 : Int32)) n40 ∧ Sp l m_Md_wantSign d 0 0 [.ref a, .int 59] sh (aw_uI (aw_uI (aw_uI (aw_uI (aw_uI S8 r29 ((S8.1 a 22 : Int32).toNatClampNeg) i2) a 22 (((aw_uI S8 r29 ((S8.1 a 22 : Int32).toNatClampNeg) i2).1 a 22) + (1 : Int32))) a 22 (((aw_uI (aw_uI S8 r29 ((S8.1 a 22 : Int32).toNatClampNeg) i2) a 22 (((aw_uI S8 r29 ((S8.1 a 22 : Int32).toNatClampNeg) i2).1 a 22) + (1 : Int32))).1 a 22) - (1 : Int32))) r37 ((i3 + (4 : Int32) : Int32).toNatClampNeg) ((aw_uI (aw_uI (aw_uI S8 r29 ((S8.1 a 22 : Int32).toNatClampNeg) i2) a 22 (((aw_uI S8 r29 ((S8.1 a 22 : Int32).toNatClampNeg) i2).1 a 22) + (1 : Int32))) a 22 (((aw_uI (aw_uI S8 r29 ((S8.1 a 22 : Int32).toNatClampNeg) i2) a 22 (((aw_uI S8 r29 ((S8.1 a 22 : Int32).toNatClampNeg) i2).1 a 22) + (1 : Int32))).1 a 22) - (1 : Int32))).1 r29 ((aw_uI (aw_uI (aw_uI S8 r29 ((S8.1 a 22 : Int32).toNatClampNeg) i2) a 22 (((aw_uI S8 r29 ((S8.1 a 22 : Int32).toNatClampNeg) i2).1 a 22) + (1 : Int32))) a 22 (((aw_uI (aw_uI S8 r29 ((S8.1 a 22 : Int32).toNatClampNeg) i2) a 22 (((aw_uI S8 r29 ((S8.1 a 22 : Int32).toNatClampNeg) i2).1 a 22) + (1 : Int32))).1 a 22) - (1 : Int32))).1 a 22 : Int32).toNatClampNeg)) r37 ((((2392 : Int32) + ((6 : Int32) * ((aw_uI (aw_uI (aw_uI (aw_uI S8 r29 ((S8.1 a 22 : Int32).toNatClampNeg) i2) a 22 (((aw_uI S8 r29 ((S8.1 a 22 : Int32).toNatClampNeg) i2).1 a 22) + (1 : Int32))) a 22 (((aw_uI (aw_uI S8 r29 ((S8.1 a 22 : Int32).toNatClampNeg) i2) a 22 (((aw_uI S8 r29 ((S8.1 a 22 : Int32).toNatClampNeg) i2).1 a 22) + (1 : Int32))).1 a 22) - (1 : Int32))) r37 ((i3 + (4 : Int32) : Int32).toNatClampNeg) ((aw_uI (aw_uI (aw_uI S8 r29 ((S8.1 a 22 : Int32).toNatClampNeg) i2) a 22 (((aw_uI S8 r29 ((S8.1 a 22 : Int32).toNatClampNeg) i2).1 a 22) + (1 : Int32))) a 22 (((aw_uI (aw_uI S8 r29 ((S8.1 a 22 : Int32).toNatClampNeg) i2) a 22 (((aw_uI S8 r29 ((S8.1 a 22 : Int32).toNatClampNeg) i2).1 a 22) + (1 : Int32))).1 a 22) - (1 : Int32))).1 r29 ((aw_uI (aw_uI (aw_uI S8 r29 ((S8.1 a 22 : Int32).toNatClampNeg) i2) a 22 (((aw_uI S8 r29 ((S8.1 a 22 : Int32).toNatClampNeg) i2).1 a 22) + (1 : Int32))) a 22 (((aw_uI (aw_uI S8 r29 ((S8.1 a 22 : Int32).toNatClampNeg) i2) a 22 (((aw_uI S8 r29 ((S8.1 a 22 : Int32).toNatClampNeg) i2).1 a 22) + (1 : Int32))).1 a 22) - (1 : Int32))).1 a 22 : Int32).toNatClampNeg)).1 r29 ((aw_uI (aw_uI (aw_uI (aw_uI S8 r29 ((S8.1 a 22 : Int32).toNatClampNeg) i2) a 22 (((aw_uI S8 r29 ((S8.1 a 22 : Int32).toNatClampNeg) i2).1 a 22) + (1 : Int32))) a 22 (((aw_uI (aw_uI S8 r29 ((S8.1 a 22 : Int32).toNatClampNeg) i2) a 22 (((aw_uI S8 r29 ((S8.1 a 22 : Int32).toNatClampNeg) i2).1 a 22) + (1 : Int32))).1 a 22) - (1 : Int32))) r37 ((i3 + (4 : Int32) : Int32).toNatClampNeg) ((aw_uI (aw_uI (aw_uI S8 r29 ((S8.1 a 22 : Int32).toNatClampNeg) i2) a 22 (((aw_uI S8 r29 ((S8.1 a 22 : Int32).toNatClampNeg) i2).1 a 22) + (1 : Int32))) a 22 (((aw_uI (aw_uI S8 r29 ((S8.1 a 22 : Int32).toNatClampNeg) i2) a 22 (((aw_uI S8 r29 ((S8.1 a 22 : Int32).toNatClampNeg) i2).1 a 22) + (1 : Int32))).1 a 22) - (1 : Int32))).1 r29 ((aw_uI (aw_uI (aw_uI S8 r29 ((S8.1 a 22 : Int32).toNatClampNeg) i2) a 22 (((aw_uI S8 r29 ((S8.1 a 22 : Int32).toNatClampNeg) i2).1 a 22) + (1 : Int32))) a 22 (((aw_uI (aw_uI S8 r29 ((S8.1 a 22 : Int32).toNatClampNeg) i2) a 22 (((aw_uI S8 r29 ((S8.1 a 22 : Int32).toNatClampNeg) i2).1 a 22) + (1 : Int32))).1 a 22) - (1 : Int32))).1 a 22 : Int32).toNatClampNeg)).1 a 22 : Int32).toNatClampNeg))) + (4 : Int32) : Int32).toNatClampNeg) i2) (gI sh (fun x45 S44 => ((x45 = 0 ∨ x45 = 1) ∧ P x45 S44)))))))) ∧ (x9 = 0 → P 0 S8))))))) ∧ (¬ 6 ≤ i6 → ∃ r47, S.2.2 a 0 = some r47 ∧ ∃ n49, sh[r47]? = some (3, n49) ∧ vp_in (i3 + i6) n49 ∧ AW l m_Md_feastStep (d + 1) 0 0 (gI sh P) 0 0 164 [.ref a, .int i1, .int i2, .int i3, .int i4, .null, .int (i6 + 1)] [] sh (aw_uI S r47 ((i3 + i6 : Int32).toNatClampNeg) 0)))) : AW l m_Md_feastStep (d + 1) 0 0 (gI sh P) 0 0 164 [.ref a, .int i1, .int i2, .int i3, .int i4, .null, .int i6] [] sh S := by
  refine r_iload (pc := 164) d_Md_feastStep_164 (x := i6) rfl ?_
  refine r_bipush (pc := 166) d_Md_feastStep_166 (v := 6) (by decide) ?_
  refine r_icmp_ge (pc := 168) d_Md_feastStep_168 (tgt := 187) (by decide) (fun c1 => ?_) (fun c1 => ?_)
  · replace h := h.1 c1
    refine r_aload_n (pc := 187) d_Md_feastStep_187 (x := a) rfl ?_
    obtain ⟨r2, er2, h⟩ := h
    refine r_getR (pc := 188) d_Md_feastStep_188 f_Md_7 sa (Or.inr ⟨_, rfl⟩) (r := r2) er2 ?_
    refine r_sipush (pc := 191) d_Md_feastStep_191 (v := 2213) (by decide) ?_
    refine r_dup2 (pc := 194) d_Md_feastStep_194 rfl rfl ?_
    obtain ⟨n4, s3, h⟩ := h
    obtain ⟨g5, h⟩ := h
    refine r_iald (pc := 195) d_Md_feastStep_195 s3 g5 ?_
    refine r_iconst (pc := 196) d_Md_feastStep_196 (v := 1) (by decide) ?_
    refine r_iadd (pc := 197) d_Md_feastStep_197 ?_
    obtain ⟨g6, h⟩ := h
    refine r_iast (pc := 198) d_Md_feastStep_198 s3 g6 ?_
    refine r_aload_n (pc := 199) d_Md_feastStep_199 (x := a) rfl ?_
    refine r_callV (pc := 200) (k := a) (As := []) (rest := []) (mc' := 0) (ms' := 0) lk_Md_194 in_Md_ahead se_Md_ahead sa rfl d_Md_feastStep_200 k_Md_ahead rfl rfl (Nat.le_of_ble_eq_true rfl) (by decide) (by decide) (Sp.mono h ?_)
    rintro rS7 shS7 S7 ⟨qS7, uS7, h⟩
    subst uS7
    rw [qS7]
    refine r_aload_n (pc := 203) d_Md_feastStep_203 (x := a) rfl ?_
    refine r_iload_n (pc := 204) d_Md_feastStep_204 (x := i1) rfl ?_
    refine r_iload_n (pc := 205) d_Md_feastStep_205 (x := i3) rfl ?_
    refine r_callV (pc := 206) (k := a) (As := [.int i1, .int i3]) (rest := []) (mc' := 0) (ms' := 0) lk_Md_307 in_Md_feastOrder se_Md_feastOrder sa rfl d_Md_feastStep_206 k_Md_feastOrder rfl rfl (Nat.le_of_ble_eq_true rfl) (by decide) (by decide) (Sp.mono h ?_)
    rintro rS8 shS8 S8 ⟨qS8, x9, uS8, h⟩
    subst uS8
    rw [qS8]
    refine r_if_ne (pc := 209) d_Md_feastStep_209 (tgt := 214) (by decide) (fun c10 => ?_) (fun c10 => ?_)
    · replace h := h.1 c10
      refine r_iload (pc := 214) d_Md_feastStep_214 (x := i4) rfl ?_
      refine r_if_eq (pc := 216) d_Md_feastStep_216 (tgt := 239) (by decide) (fun c11 => ?_) (fun c11 => ?_)
      · replace h := h.1 c11
        refine r_iload_n (pc := 239) d_Md_feastStep_239 (x := i1) rfl ?_
        refine r_bipush (pc := 240) d_Md_feastStep_240 (v := 13) (by decide) ?_
        refine r_icmp_ne (pc := 242) d_Md_feastStep_242 (tgt := 296) (by decide) (fun c12 => ?_) (fun c12 => ?_)
        · replace h := h.1 c12
          refine r_aload_n (pc := 296) d_Md_feastStep_296 (x := a) rfl ?_
          refine r_bipush (pc := 297) d_Md_feastStep_297 (v := 59) (by decide) ?_
          refine r_callV (pc := 299) (k := a) (As := [.int 59]) (rest := []) (mc' := 0) (ms' := 0) lk_Md_277 in_Md_wantSign se_Md_wantSign sa rfl d_Md_feastStep_299 k_Md_wantSign rfl rfl (Nat.le_of_ble_eq_true rfl) (by decide) (by decide) (Sp.mono h ?_)
          rintro rS13 shS13 S13 ⟨qS13, x14, uS13, h⟩
          subst uS13
          rw [qS13]
          obtain ⟨g15, h⟩ := h
          exact r_zreturn (pc := 302) d_Md_feastStep_302 rfl (aw_nb g15) rfl (Nat.le_refl _) ⟨rfl, _, rfl, h⟩
        · replace h := h.2 c12
          refine r_aload_n (pc := 245) d_Md_feastStep_245 (x := a) rfl ?_
          refine r_dup (pc := 246) d_Md_feastStep_246 rfl ?_
          refine r_getI (pc := 247) d_Md_feastStep_247 f_Md_301 sa rfl ?_
          refine r_iconst (pc := 250) d_Md_feastStep_250 (v := 1) (by decide) ?_
          refine r_isub (pc := 251) d_Md_feastStep_251 ?_
          refine r_putI (pc := 252) d_Md_feastStep_252 f_Md_301 sa rfl ?_
          refine r_aload_n (pc := 255) d_Md_feastStep_255 (x := a) rfl ?_
          obtain ⟨r16, er16, h⟩ := h
          refine r_getR (pc := 256) d_Md_feastStep_256 f_Md_7 sa (Or.inr ⟨_, rfl⟩) (r := r16) er16 ?_
          refine r_iload_n (pc := 259) d_Md_feastStep_259 (x := i3) rfl ?_
          refine r_iconst (pc := 260) d_Md_feastStep_260 (v := 4) (by decide) ?_
          refine r_iadd (pc := 261) d_Md_feastStep_261 ?_
          refine r_aload_n (pc := 262) d_Md_feastStep_262 (x := a) rfl ?_
          obtain ⟨r17, er17, h⟩ := h
          refine r_getR (pc := 263) d_Md_feastStep_263 f_Md_44 sa (Or.inr ⟨_, rfl⟩) (r := r17) er17 ?_
          refine r_aload_n (pc := 266) d_Md_feastStep_266 (x := a) rfl ?_
          refine r_getI (pc := 267) d_Md_feastStep_267 f_Md_301 sa rfl ?_
          obtain ⟨n19, s18, h⟩ := h
          obtain ⟨g20, h⟩ := h
          refine r_iald (pc := 270) d_Md_feastStep_270 s18 g20 ?_
          obtain ⟨n22, s21, h⟩ := h
          obtain ⟨g23, h⟩ := h
          refine r_iast (pc := 271) d_Md_feastStep_271 s21 g23 ?_
          refine r_aload_n (pc := 272) d_Md_feastStep_272 (x := a) rfl ?_
          refine r_getR (pc := 273) d_Md_feastStep_273 f_Md_7 sa (Or.inr ⟨_, rfl⟩) (r := r16) er16 ?_
          refine r_sipush (pc := 276) d_Md_feastStep_276 (v := 2392) (by decide) ?_
          refine r_bipush (pc := 279) d_Md_feastStep_279 (v := 6) (by decide) ?_
          refine r_aload_n (pc := 281) d_Md_feastStep_281 (x := a) rfl ?_
          refine r_getR (pc := 282) d_Md_feastStep_282 f_Md_44 sa (Or.inr ⟨_, rfl⟩) (r := r17) er17 ?_
          refine r_aload_n (pc := 285) d_Md_feastStep_285 (x := a) rfl ?_
          refine r_getI (pc := 286) d_Md_feastStep_286 f_Md_301 sa rfl ?_
          obtain ⟨g24, h⟩ := h
          refine r_iald (pc := 289) d_Md_feastStep_289 s18 g24 ?_
          refine r_imul (pc := 290) d_Md_feastStep_290 ?_
          refine r_iadd (pc := 291) d_Md_feastStep_291 ?_
          refine r_iconst (pc := 292) d_Md_feastStep_292 (v := 4) (by decide) ?_
          refine r_iadd (pc := 293) d_Md_feastStep_293 ?_
          refine r_iload_n (pc := 294) d_Md_feastStep_294 (x := i2) rfl ?_
          obtain ⟨g25, h⟩ := h
          refine r_iast (pc := 295) d_Md_feastStep_295 s21 g25 ?_
          refine r_aload_n (pc := 296) d_Md_feastStep_296 (x := a) rfl ?_
          refine r_bipush (pc := 297) d_Md_feastStep_297 (v := 59) (by decide) ?_
          refine r_callV (pc := 299) (k := a) (As := [.int 59]) (rest := []) (mc' := 0) (ms' := 0) lk_Md_277 in_Md_wantSign se_Md_wantSign sa rfl d_Md_feastStep_299 k_Md_wantSign rfl rfl (Nat.le_of_ble_eq_true rfl) (by decide) (by decide) (Sp.mono h ?_)
          rintro rS26 shS26 S26 ⟨qS26, x27, uS26, h⟩
          subst uS26
          rw [qS26]
          obtain ⟨g28, h⟩ := h
          exact r_zreturn (pc := 302) d_Md_feastStep_302 rfl (aw_nb g28) rfl (Nat.le_refl _) ⟨rfl, _, rfl, h⟩
      · replace h := h.2 c11
        refine r_aload_n (pc := 219) d_Md_feastStep_219 (x := a) rfl ?_
        obtain ⟨r29, er29, h⟩ := h
        refine r_getR (pc := 220) d_Md_feastStep_220 f_Md_44 sa (Or.inr ⟨_, rfl⟩) (r := r29) er29 ?_
        refine r_aload_n (pc := 223) d_Md_feastStep_223 (x := a) rfl ?_
        refine r_getI (pc := 224) d_Md_feastStep_224 f_Md_301 sa rfl ?_
        refine r_iload_n (pc := 227) d_Md_feastStep_227 (x := i2) rfl ?_
        obtain ⟨n31, s30, h⟩ := h
        obtain ⟨g32, h⟩ := h
        refine r_iast (pc := 228) d_Md_feastStep_228 s30 g32 ?_
        refine r_aload_n (pc := 229) d_Md_feastStep_229 (x := a) rfl ?_
        refine r_dup (pc := 230) d_Md_feastStep_230 rfl ?_
        refine r_getI (pc := 231) d_Md_feastStep_231 f_Md_301 sa rfl ?_
        refine r_iconst (pc := 234) d_Md_feastStep_234 (v := 1) (by decide) ?_
        refine r_iadd (pc := 235) d_Md_feastStep_235 ?_
        refine r_putI (pc := 236) d_Md_feastStep_236 f_Md_301 sa rfl ?_
        refine r_iload_n (pc := 239) d_Md_feastStep_239 (x := i1) rfl ?_
        refine r_bipush (pc := 240) d_Md_feastStep_240 (v := 13) (by decide) ?_
        refine r_icmp_ne (pc := 242) d_Md_feastStep_242 (tgt := 296) (by decide) (fun c33 => ?_) (fun c33 => ?_)
        · replace h := h.1 c33
          refine r_aload_n (pc := 296) d_Md_feastStep_296 (x := a) rfl ?_
          refine r_bipush (pc := 297) d_Md_feastStep_297 (v := 59) (by decide) ?_
          refine r_callV (pc := 299) (k := a) (As := [.int 59]) (rest := []) (mc' := 0) (ms' := 0) lk_Md_277 in_Md_wantSign se_Md_wantSign sa rfl d_Md_feastStep_299 k_Md_wantSign rfl rfl (Nat.le_of_ble_eq_true rfl) (by decide) (by decide) (Sp.mono h ?_)
          rintro rS34 shS34 S34 ⟨qS34, x35, uS34, h⟩
          subst uS34
          rw [qS34]
          obtain ⟨g36, h⟩ := h
          exact r_zreturn (pc := 302) d_Md_feastStep_302 rfl (aw_nb g36) rfl (Nat.le_refl _) ⟨rfl, _, rfl, h⟩
        · replace h := h.2 c33
          refine r_aload_n (pc := 245) d_Md_feastStep_245 (x := a) rfl ?_
          refine r_dup (pc := 246) d_Md_feastStep_246 rfl ?_
          refine r_getI (pc := 247) d_Md_feastStep_247 f_Md_301 sa rfl ?_
          refine r_iconst (pc := 250) d_Md_feastStep_250 (v := 1) (by decide) ?_
          refine r_isub (pc := 251) d_Md_feastStep_251 ?_
          refine r_putI (pc := 252) d_Md_feastStep_252 f_Md_301 sa rfl ?_
          refine r_aload_n (pc := 255) d_Md_feastStep_255 (x := a) rfl ?_
          obtain ⟨r37, er37, h⟩ := h
          refine r_getR (pc := 256) d_Md_feastStep_256 f_Md_7 sa (Or.inr ⟨_, rfl⟩) (r := r37) er37 ?_
          refine r_iload_n (pc := 259) d_Md_feastStep_259 (x := i3) rfl ?_
          refine r_iconst (pc := 260) d_Md_feastStep_260 (v := 4) (by decide) ?_
          refine r_iadd (pc := 261) d_Md_feastStep_261 ?_
          refine r_aload_n (pc := 262) d_Md_feastStep_262 (x := a) rfl ?_
          refine r_getR (pc := 263) d_Md_feastStep_263 f_Md_44 sa (Or.inr ⟨_, rfl⟩) (r := r29) er29 ?_
          refine r_aload_n (pc := 266) d_Md_feastStep_266 (x := a) rfl ?_
          refine r_getI (pc := 267) d_Md_feastStep_267 f_Md_301 sa rfl ?_
          obtain ⟨g38, h⟩ := h
          refine r_iald (pc := 270) d_Md_feastStep_270 s30 g38 ?_
          obtain ⟨n40, s39, h⟩ := h
          obtain ⟨g41, h⟩ := h
          refine r_iast (pc := 271) d_Md_feastStep_271 s39 g41 ?_
          refine r_aload_n (pc := 272) d_Md_feastStep_272 (x := a) rfl ?_
          refine r_getR (pc := 273) d_Md_feastStep_273 f_Md_7 sa (Or.inr ⟨_, rfl⟩) (r := r37) er37 ?_
          refine r_sipush (pc := 276) d_Md_feastStep_276 (v := 2392) (by decide) ?_
          refine r_bipush (pc := 279) d_Md_feastStep_279 (v := 6) (by decide) ?_
          refine r_aload_n (pc := 281) d_Md_feastStep_281 (x := a) rfl ?_
          refine r_getR (pc := 282) d_Md_feastStep_282 f_Md_44 sa (Or.inr ⟨_, rfl⟩) (r := r29) er29 ?_
          refine r_aload_n (pc := 285) d_Md_feastStep_285 (x := a) rfl ?_
          refine r_getI (pc := 286) d_Md_feastStep_286 f_Md_301 sa rfl ?_
          obtain ⟨g42, h⟩ := h
          refine r_iald (pc := 289) d_Md_feastStep_289 s30 g42 ?_
          refine r_imul (pc := 290) d_Md_feastStep_290 ?_
          refine r_iadd (pc := 291) d_Md_feastStep_291 ?_
          refine r_iconst (pc := 292) d_Md_feastStep_292 (v := 4) (by decide) ?_
          refine r_iadd (pc := 293) d_Md_feastStep_293 ?_
          refine r_iload_n (pc := 294) d_Md_feastStep_294 (x := i2) rfl ?_
          obtain ⟨g43, h⟩ := h
          refine r_iast (pc := 295) d_Md_feastStep_295 s39 g43 ?_
          refine r_aload_n (pc := 296) d_Md_feastStep_296 (x := a) rfl ?_
          refine r_bipush (pc := 297) d_Md_feastStep_297 (v := 59) (by decide) ?_
          refine r_callV (pc := 299) (k := a) (As := [.int 59]) (rest := []) (mc' := 0) (ms' := 0) lk_Md_277 in_Md_wantSign se_Md_wantSign sa rfl d_Md_feastStep_299 k_Md_wantSign rfl rfl (Nat.le_of_ble_eq_true rfl) (by decide) (by decide) (Sp.mono h ?_)
          rintro rS44 shS44 S44 ⟨qS44, x45, uS44, h⟩
          subst uS44
          rw [qS44]
          obtain ⟨g46, h⟩ := h
          exact r_zreturn (pc := 302) d_Md_feastStep_302 rfl (aw_nb g46) rfl (Nat.le_refl _) ⟨rfl, _, rfl, h⟩
    · replace h := h.2 c10
      refine r_iconst (pc := 212) d_Md_feastStep_212 (v := 0) (by decide) ?_
      exact r_zreturn (pc := 213) d_Md_feastStep_213 (v := 0) rfl (by decide) rfl (Nat.le_refl _) ⟨rfl, _, rfl, h⟩
  · replace h := h.2 c1
    refine r_aload_n (pc := 171) d_Md_feastStep_171 (x := a) rfl ?_
    obtain ⟨r47, er47, h⟩ := h
    refine r_getR (pc := 172) d_Md_feastStep_172 f_Md_7 sa (Or.inr ⟨_, rfl⟩) (r := r47) er47 ?_
    refine r_iload_n (pc := 175) d_Md_feastStep_175 (x := i3) rfl ?_
    refine r_iload (pc := 176) d_Md_feastStep_176 (x := i6) rfl ?_
    refine r_iadd (pc := 178) d_Md_feastStep_178 ?_
    refine r_iconst (pc := 179) d_Md_feastStep_179 (v := 0) (by decide) ?_
    obtain ⟨n49, s48, h⟩ := h
    obtain ⟨g50, h⟩ := h
    refine r_iast (pc := 180) d_Md_feastStep_180 s48 g50 ?_
    refine r_iinc (pc := 181) d_Md_feastStep_181 (hi := by decide) (x := i6) rfl (v := i6 + 1) rfl (ls2 := [.ref a, .int i1, .int i2, .int i3, .int i4, .null, .int (i6 + 1)]) rfl ?_
    refine r_goto (pc := 184) d_Md_feastStep_184 (tgt := 164) (by decide) ?_
    exact h
