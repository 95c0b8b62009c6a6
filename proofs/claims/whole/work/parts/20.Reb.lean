set_option maxRecDepth 4000 in
theorem e_Re_readGreen {l : Launch} {d : Nat} {sh : aw_SH} {S : aw_S} {P : aw_S → Prop} {a : Nat} {p0 : Nat} {p1 : Int32} {p2 : Nat} (sa : sh[a]? = some (0, 5)) (h : ∃ r1, (aw_uR S a 3 (some p2)).2.2 a 3 = some r1 ∧ sh[r1]? = some (0, 2) ∧ Sp l m_Gr_clear d 0 0 [.ref r1] sh (aw_uR S a 3 (some p2)) (gV sh (fun S3 => ∃ r4, (aw_uI (aw_uI (aw_uI S3 a 5 0) a 6 0) a 7 0).2.2 a 2 = some r4 ∧ sh[r4]? = some (0, 6) ∧ Sp l m_To_begin d 0 0 [.ref r4, .ref p0, .int p1] sh (aw_uI (aw_uI (aw_uI S3 a 5 0) a 6 0) a 7 0) (gV sh (fun S6 => AW l m_Re_readGreen (d + 1) 0 0 (gV sh P) 0 0 42 [.ref a, .null, .int p1, .null, .int 1, .int 0] [] sh S6))))) : Sp l m_Re_readGreen (d + 1) 0 0 [.ref a, .ref p0, .int p1, .ref p2] sh S (gV sh P) := by
  refine Sp.of k_Re_readGreen (ls := [.ref a, .ref p0, .int p1, .ref p2, .null, .null]) rfl (Nat.le_of_ble_eq_true rfl) ?_
  refine r_aload_n (pc := 0) d_Re_readGreen_0 (x := a) rfl ?_
  refine r_aload_n (pc := 1) d_Re_readGreen_1 (x := p2) rfl ?_
  refine r_putR (pc := 2) d_Re_readGreen_2 f_Re_22 sa (Or.inl ⟨_, rfl⟩) ?_
  refine r_aload_n (pc := 5) d_Re_readGreen_5 (x := a) rfl ?_
  obtain ⟨r1, er1, h⟩ := h
  refine r_getR (pc := 6) d_Re_readGreen_6 f_Re_22 sa (Or.inl ⟨_, rfl⟩) (r := r1) er1 ?_
  obtain ⟨s2, h⟩ := h
  refine r_callV (pc := 9) (k := r1) (As := []) (rest := []) (mc' := 0) (ms' := 0) lk_Re_26 in_Gr_clear se_Gr_clear s2 rfl d_Re_readGreen_9 k_Gr_clear rfl rfl (Nat.le_of_ble_eq_true rfl) (by decide) (by decide) (Sp.mono h ?_)
  rintro rS3 shS3 S3 ⟨qS3, uS3, h⟩
  subst uS3
  rw [qS3]
  refine r_aload_n (pc := 12) d_Re_readGreen_12 (x := a) rfl ?_
  refine r_iconst (pc := 13) d_Re_readGreen_13 (v := 0) (by decide) ?_
  refine r_putZ (pc := 14) d_Re_readGreen_14 f_Re_31 sa rfl (by decide) ?_
  refine r_aload_n (pc := 17) d_Re_readGreen_17 (x := a) rfl ?_
  refine r_iconst (pc := 18) d_Re_readGreen_18 (v := 0) (by decide) ?_
  refine r_putZ (pc := 19) d_Re_readGreen_19 f_Re_35 sa rfl (by decide) ?_
  refine r_aload_n (pc := 22) d_Re_readGreen_22 (x := a) rfl ?_
  refine r_iconst (pc := 23) d_Re_readGreen_23 (v := 0) (by decide) ?_
  refine r_putZ (pc := 24) d_Re_readGreen_24 f_Re_38 sa rfl (by decide) ?_
  refine r_aload_n (pc := 27) d_Re_readGreen_27 (x := a) rfl ?_
  obtain ⟨r4, er4, h⟩ := h
  refine r_getR (pc := 28) d_Re_readGreen_28 f_Re_12 sa (Or.inl ⟨_, rfl⟩) (r := r4) er4 ?_
  refine r_aload_n (pc := 31) d_Re_readGreen_31 (x := p0) rfl ?_
  refine r_iload_n (pc := 32) d_Re_readGreen_32 (x := p1) rfl ?_
  obtain ⟨s5, h⟩ := h
  refine r_callV (pc := 33) (k := r4) (As := [.ref p0, .int p1]) (rest := []) (mc' := 0) (ms' := 0) lk_Re_41 in_To_begin se_To_begin s5 rfl d_Re_readGreen_33 k_To_begin rfl rfl (Nat.le_of_ble_eq_true rfl) (by decide) (by decide) (Sp.mono h ?_)
  rintro rS6 shS6 S6 ⟨qS6, uS6, h⟩
  subst uS6
  rw [qS6]
  refine r_iconst (pc := 36) d_Re_readGreen_36 (v := 1) (by decide) ?_
  refine r_istore (pc := 37) (hd := d_Re_readGreen_37) (hi := by decide) (ls2 := [.ref a, .ref p0, .int p1, .ref p2, .int 1, .null]) (h2 := rfl) ?_
  refine r_iconst (pc := 39) d_Re_readGreen_39 (v := 0) (by decide) ?_
  refine r_istore (pc := 40) (hd := d_Re_readGreen_40) (hi := by decide) (ls2 := [.ref a, .ref p0, .int p1, .ref p2, .int 1, .int 0]) (h2 := rfl) ?_
  exact r_weak (ls2 := [.ref a, .null, .int p1, .null, .int 1, .int 0]) ⟨Or.inr rfl, Or.inl rfl, Or.inr rfl, Or.inl rfl, Or.inr rfl, Or.inr rfl, trivial⟩ h
set_option maxRecDepth 4000 in
theorem s_Re_readGreen_42 {l : Launch} {d : Nat} {sh : aw_SH} {S : aw_S} {P : aw_S → Prop} {a : Nat} {i2 : Int32} {i4 : Int32} {i5 : Int32} (sa : sh[a]? = some (0, 5)) (h : ((i2 < i5 → ∃ r2, S.2.2 a 3 = some r2 ∧ sh[r2]? = some (0, 2) ∧ Sp l m_Gr_forgetDone d 0 0 [.ref r2] sh S (gV sh (fun S4 => Sp l m_Re_closeReading d 0 0 [.ref a] sh S4 (gV sh (fun S5 => P S5))))) ∧ (¬ i2 < i5 → ((i4 = 0 → ∃ r7, S.2.2 a 3 = some r7 ∧ sh[r7]? = some (0, 2) ∧ Sp l m_Gr_forgetDone d 0 0 [.ref r7] sh S (gV sh (fun S9 => Sp l m_Re_closeReading d 0 0 [.ref a] sh S9 (gV sh (fun S10 => P S10))))) ∧ (¬ i4 = 0 → ∃ r11, S.2.2 a 2 = some r11 ∧ sh[r11]? = some (0, 6) ∧ (((S.1 r11 2) = 0 → ∃ r14, S.2.2 a 3 = some r14 ∧ sh[r14]? = some (0, 2) ∧ Sp l m_Gr_forgetDone d 0 0 [.ref r14] sh S (gV sh (fun S16 => Sp l m_Re_closeReading d 0 0 [.ref a] sh S16 (gV sh (fun S17 => P S17))))) ∧ (¬ (S.1 r11 2) = 0 → Sp l m_Re_takePart d 0 0 [.ref a] sh S (gI sh (fun x19 S18 => AW l m_Re_readGreen (d + 1) 0 0 (gV sh P) 0 0 42 [.ref a, .null, .int i2, .null, .int x19, .int (i5 + 1)] [] sh S18))))))))) : AW l m_Re_readGreen (d + 1) 0 0 (gV sh P) 0 0 42 [.ref a, .null, .int i2, .null, .int i4, .int i5] [] sh S := by
  refine r_iload (pc := 42) d_Re_readGreen_42 (x := i5) rfl ?_
  refine r_iload_n (pc := 44) d_Re_readGreen_44 (x := i2) rfl ?_
  refine r_icmp_gt (pc := 45) d_Re_readGreen_45 (tgt := 75) (by decide) (fun c1 => ?_) (fun c1 => ?_)
  · replace h := h.1 c1
    refine r_aload_n (pc := 75) d_Re_readGreen_75 (x := a) rfl ?_
    obtain ⟨r2, er2, h⟩ := h
    refine r_getR (pc := 76) d_Re_readGreen_76 f_Re_22 sa (Or.inl ⟨_, rfl⟩) (r := r2) er2 ?_
    obtain ⟨s3, h⟩ := h
    refine r_callV (pc := 79) (k := r2) (As := []) (rest := []) (mc' := 0) (ms' := 0) lk_Re_53 in_Gr_forgetDone se_Gr_forgetDone s3 rfl d_Re_readGreen_79 k_Gr_forgetDone rfl rfl (Nat.le_of_ble_eq_true rfl) (by decide) (by decide) (Sp.mono h ?_)
    rintro rS4 shS4 S4 ⟨qS4, uS4, h⟩
    subst uS4
    rw [qS4]
    refine r_aload_n (pc := 82) d_Re_readGreen_82 (x := a) rfl ?_
    refine r_callV (pc := 83) (k := a) (As := []) (rest := []) (mc' := 0) (ms' := 0) lk_Re_56 in_Re_closeReading se_Re_closeReading sa rfl d_Re_readGreen_83 k_Re_closeReading rfl rfl (Nat.le_of_ble_eq_true rfl) (by decide) (by decide) (Sp.mono h ?_)
    rintro rS5 shS5 S5 ⟨qS5, uS5, h⟩
    subst uS5
    rw [qS5]
    exact r_return (pc := 86) d_Re_readGreen_86 rfl rfl (Nat.le_refl _) ⟨rfl, rfl, h⟩
  · replace h := h.2 c1
    refine r_iload (pc := 48) d_Re_readGreen_48 (x := i4) rfl ?_
    refine r_if_eq (pc := 50) d_Re_readGreen_50 (tgt := 75) (by decide) (fun c6 => ?_) (fun c6 => ?_)
    · replace h := h.1 c6
      refine r_aload_n (pc := 75) d_Re_readGreen_75 (x := a) rfl ?_
      obtain ⟨r7, er7, h⟩ := h
      refine r_getR (pc := 76) d_Re_readGreen_76 f_Re_22 sa (Or.inl ⟨_, rfl⟩) (r := r7) er7 ?_
      obtain ⟨s8, h⟩ := h
      refine r_callV (pc := 79) (k := r7) (As := []) (rest := []) (mc' := 0) (ms' := 0) lk_Re_53 in_Gr_forgetDone se_Gr_forgetDone s8 rfl d_Re_readGreen_79 k_Gr_forgetDone rfl rfl (Nat.le_of_ble_eq_true rfl) (by decide) (by decide) (Sp.mono h ?_)
      rintro rS9 shS9 S9 ⟨qS9, uS9, h⟩
      subst uS9
      rw [qS9]
      refine r_aload_n (pc := 82) d_Re_readGreen_82 (x := a) rfl ?_
      refine r_callV (pc := 83) (k := a) (As := []) (rest := []) (mc' := 0) (ms' := 0) lk_Re_56 in_Re_closeReading se_Re_closeReading sa rfl d_Re_readGreen_83 k_Re_closeReading rfl rfl (Nat.le_of_ble_eq_true rfl) (by decide) (by decide) (Sp.mono h ?_)
      rintro rS10 shS10 S10 ⟨qS10, uS10, h⟩
      subst uS10
      rw [qS10]
      exact r_return (pc := 86) d_Re_readGreen_86 rfl rfl (Nat.le_refl _) ⟨rfl, rfl, h⟩
    · replace h := h.2 c6
      refine r_aload_n (pc := 53) d_Re_readGreen_53 (x := a) rfl ?_
      obtain ⟨r11, er11, h⟩ := h
      refine r_getR (pc := 54) d_Re_readGreen_54 f_Re_12 sa (Or.inl ⟨_, rfl⟩) (r := r11) er11 ?_
      obtain ⟨s12, h⟩ := h
      refine r_getI (pc := 57) d_Re_readGreen_57 f_Re_45 s12 rfl ?_
      refine r_if_eq (pc := 60) d_Re_readGreen_60 (tgt := 75) (by decide) (fun c13 => ?_) (fun c13 => ?_)
      · replace h := h.1 c13
        refine r_aload_n (pc := 75) d_Re_readGreen_75 (x := a) rfl ?_
        obtain ⟨r14, er14, h⟩ := h
        refine r_getR (pc := 76) d_Re_readGreen_76 f_Re_22 sa (Or.inl ⟨_, rfl⟩) (r := r14) er14 ?_
        obtain ⟨s15, h⟩ := h
        refine r_callV (pc := 79) (k := r14) (As := []) (rest := []) (mc' := 0) (ms' := 0) lk_Re_53 in_Gr_forgetDone se_Gr_forgetDone s15 rfl d_Re_readGreen_79 k_Gr_forgetDone rfl rfl (Nat.le_of_ble_eq_true rfl) (by decide) (by decide) (Sp.mono h ?_)
        rintro rS16 shS16 S16 ⟨qS16, uS16, h⟩
        subst uS16
        rw [qS16]
        refine r_aload_n (pc := 82) d_Re_readGreen_82 (x := a) rfl ?_
        refine r_callV (pc := 83) (k := a) (As := []) (rest := []) (mc' := 0) (ms' := 0) lk_Re_56 in_Re_closeReading se_Re_closeReading sa rfl d_Re_readGreen_83 k_Re_closeReading rfl rfl (Nat.le_of_ble_eq_true rfl) (by decide) (by decide) (Sp.mono h ?_)
        rintro rS17 shS17 S17 ⟨qS17, uS17, h⟩
        subst uS17
        rw [qS17]
        exact r_return (pc := 86) d_Re_readGreen_86 rfl rfl (Nat.le_refl _) ⟨rfl, rfl, h⟩
      · replace h := h.2 c13
        refine r_aload_n (pc := 63) d_Re_readGreen_63 (x := a) rfl ?_
        refine r_callV (pc := 64) (k := a) (As := []) (rest := []) (mc' := 0) (ms' := 0) lk_Re_49 in_Re_takePart se_Re_takePart sa rfl d_Re_readGreen_64 k_Re_takePart rfl rfl (Nat.le_of_ble_eq_true rfl) (by decide) (by decide) (Sp.mono h ?_)
        rintro rS18 shS18 S18 ⟨qS18, x19, uS18, h⟩
        subst uS18
        rw [qS18]
        refine r_istore (pc := 67) (hd := d_Re_readGreen_67) (hi := by decide) (ls2 := [.ref a, .null, .int i2, .null, .int x19, .int i5]) (h2 := rfl) ?_
        refine r_iinc (pc := 69) d_Re_readGreen_69 (hi := by decide) (x := i5) rfl (v := i5 + 1) rfl (ls2 := [.ref a, .null, .int i2, .null, .int x19, .int (i5 + 1)]) rfl ?_
        refine r_goto (pc := 72) d_Re_readGreen_72 (tgt := 42) (by decide) ?_
        exact h
set_option maxRecDepth 4000 in
theorem e_Re_takePart {l : Launch} {d : Nat} {sh : aw_SH} {S : aw_S} {P : Int32 → aw_S → Prop} {a : Nat} (sa : sh[a]? = some (0, 5)) (h : ∃ r1, S.2.2 a 2 = some r1 ∧ sh[r1]? = some (0, 6) ∧ Sp l m_To_reservedWord d 0 0 [.ref r1] sh S (gI sh (fun x4 S3 => ((((x4 : Int32).toInt < 0 ∨ 4 < (x4 : Int32).toInt) → ∃ r5, S3.2.2 a 2 = some r5 ∧ sh[r5]? = some (0, 6) ∧ Sp l m_To_blame d 0 0 [.ref r5, .int 2] sh S3 (gI sh (fun x8 S7 => ((x8 = 0 ∨ x8 = 1) ∧ P x8 S7)))) ∧ (x4 = 0 → Sp l m_Re_takeOdds d 0 0 [.ref a] sh S3 (gI sh (fun x11 S10 => ((x11 = 0 ∨ x11 = 1) ∧ P x11 S10)))) ∧ (x4 = 1 → Sp l m_Re_takeLong d 0 0 [.ref a] sh S3 (gI sh (fun x14 S13 => ((x14 = 0 ∨ x14 = 1) ∧ P x14 S13)))) ∧ (x4 = 2 → Sp l m_Re_takeDancer d 0 0 [.ref a] sh S3 (gI sh (fun x17 S16 => ((x17 = 0 ∨ x17 = 1) ∧ P x17 S16)))) ∧ (x4 = 3 → ∃ r19, S3.2.2 a 2 = some r19 ∧ sh[r19]? = some (0, 6) ∧ Sp l m_To_blame d 0 0 [.ref r19, .int 2] sh S3 (gI sh (fun x22 S21 => ((x22 = 0 ∨ x22 = 1) ∧ P x22 S21)))) ∧ (x4 = 4 → Sp l m_Re_takeTextPass d 0 0 [.ref a] sh S3 (gI sh (fun x25 S24 => ((x25 = 0 ∨ x25 = 1) ∧ P x25 S24)))))))) : Sp l m_Re_takePart (d + 1) 0 0 [.ref a] sh S (gI sh P) := by
  refine Sp.of k_Re_takePart (ls := [.ref a]) rfl (Nat.le_of_ble_eq_true rfl) ?_
  refine r_aload_n (pc := 0) d_Re_takePart_0 (x := a) rfl ?_
  obtain ⟨r1, er1, h⟩ := h
  refine r_getR (pc := 1) d_Re_takePart_1 f_Re_12 sa (Or.inl ⟨_, rfl⟩) (r := r1) er1 ?_
  obtain ⟨s2, h⟩ := h
  refine r_callV (pc := 4) (k := r1) (As := []) (rest := []) (mc' := 0) (ms' := 0) lk_Re_72 in_To_reservedWord se_To_reservedWord s2 rfl d_Re_takePart_4 k_To_reservedWord rfl rfl (Nat.le_of_ble_eq_true rfl) (by decide) (by decide) (Sp.mono h ?_)
  rintro rS3 shS3 S3 ⟨qS3, x4, uS3, h⟩
  subst uS3
  rw [qS3]
  rcases aw_sw (x4) 0 4 with q27 | ⟨kq27, q27, wq27⟩
  · refine r_tabOut (pc := 7) d_Re_takePart_7 q27 (tgt := 60) (by decide) ?_
    replace h := h.1 q27
    refine r_aload_n (pc := 60) d_Re_takePart_60 (x := a) rfl ?_
    obtain ⟨r5, er5, h⟩ := h
    refine r_getR (pc := 61) d_Re_takePart_61 f_Re_12 sa (Or.inl ⟨_, rfl⟩) (r := r5) er5 ?_
    refine r_iconst (pc := 64) d_Re_takePart_64 (v := 2) (by decide) ?_
    obtain ⟨s6, h⟩ := h
    refine r_callV (pc := 65) (k := r5) (As := [.int 2]) (rest := []) (mc' := 0) (ms' := 0) lk_Re_82 in_To_blame se_To_blame s6 rfl d_Re_takePart_65 k_To_blame rfl rfl (Nat.le_of_ble_eq_true rfl) (by decide) (by decide) (Sp.mono h ?_)
    rintro rS7 shS7 S7 ⟨qS7, x8, uS7, h⟩
    subst uS7
    rw [qS7]
    obtain ⟨g9, h⟩ := h
    exact r_zreturn (pc := 68) d_Re_takePart_68 rfl (aw_nb g9) rfl (Nat.le_refl _) ⟨rfl, _, rfl, h⟩
  · rcases (show kq27 = 0 ∨ kq27 = 1 ∨ kq27 = 2 ∨ kq27 = 3 ∨ kq27 = 4 by omega) with rfl | rfl | rfl | rfl | rfl
    · refine r_tabIn (pc := 7) d_Re_takePart_7 (off := 33) (by omega) (by omega) (by rw [q27]; rfl) (tgt := 40) (by decide) ?_
      replace h := h.2.1 (aw_ix (y := 0) q27 (by decide))
      refine r_aload_n (pc := 40) d_Re_takePart_40 (x := a) rfl ?_
      refine r_callV (pc := 41) (k := a) (As := []) (rest := []) (mc' := 0) (ms' := 0) lk_Re_94 in_Re_takeOdds se_Re_takeOdds sa rfl d_Re_takePart_41 k_Re_takeOdds rfl rfl (Nat.le_of_ble_eq_true rfl) (by decide) (by decide) (Sp.mono h ?_)
      rintro rS10 shS10 S10 ⟨qS10, x11, uS10, h⟩
      subst uS10
      rw [qS10]
      obtain ⟨g12, h⟩ := h
      exact r_zreturn (pc := 44) d_Re_takePart_44 rfl (aw_nb g12) rfl (Nat.le_refl _) ⟨rfl, _, rfl, h⟩
    · refine r_tabIn (pc := 7) d_Re_takePart_7 (off := 38) (by omega) (by omega) (by rw [q27]; rfl) (tgt := 45) (by decide) ?_
      replace h := h.2.2.1 (aw_ix (y := 1) q27 (by decide))
      refine r_aload_n (pc := 45) d_Re_takePart_45 (x := a) rfl ?_
      refine r_callV (pc := 46) (k := a) (As := []) (rest := []) (mc' := 0) (ms' := 0) lk_Re_97 in_Re_takeLong se_Re_takeLong sa rfl d_Re_takePart_46 k_Re_takeLong rfl rfl (Nat.le_of_ble_eq_true rfl) (by decide) (by decide) (Sp.mono h ?_)
      rintro rS13 shS13 S13 ⟨qS13, x14, uS13, h⟩
      subst uS13
      rw [qS13]
      obtain ⟨g15, h⟩ := h
      exact r_zreturn (pc := 49) d_Re_takePart_49 rfl (aw_nb g15) rfl (Nat.le_refl _) ⟨rfl, _, rfl, h⟩
    · refine r_tabIn (pc := 7) d_Re_takePart_7 (off := 43) (by omega) (by omega) (by rw [q27]; rfl) (tgt := 50) (by decide) ?_
      replace h := h.2.2.2.1 (aw_ix (y := 2) q27 (by decide))
      refine r_aload_n (pc := 50) d_Re_takePart_50 (x := a) rfl ?_
      refine r_callV (pc := 51) (k := a) (As := []) (rest := []) (mc' := 0) (ms' := 0) lk_Re_100 in_Re_takeDancer se_Re_takeDancer sa rfl d_Re_takePart_51 k_Re_takeDancer rfl rfl (Nat.le_of_ble_eq_true rfl) (by decide) (by decide) (Sp.mono h ?_)
      rintro rS16 shS16 S16 ⟨qS16, x17, uS16, h⟩
      subst uS16
      rw [qS16]
      obtain ⟨g18, h⟩ := h
      exact r_zreturn (pc := 54) d_Re_takePart_54 rfl (aw_nb g18) rfl (Nat.le_refl _) ⟨rfl, _, rfl, h⟩
    · refine r_tabIn (pc := 7) d_Re_takePart_7 (off := 53) (by omega) (by omega) (by rw [q27]; rfl) (tgt := 60) (by decide) ?_
      replace h := h.2.2.2.2.1 (aw_ix (y := 3) q27 (by decide))
      refine r_aload_n (pc := 60) d_Re_takePart_60 (x := a) rfl ?_
      obtain ⟨r19, er19, h⟩ := h
      refine r_getR (pc := 61) d_Re_takePart_61 f_Re_12 sa (Or.inl ⟨_, rfl⟩) (r := r19) er19 ?_
      refine r_iconst (pc := 64) d_Re_takePart_64 (v := 2) (by decide) ?_
      obtain ⟨s20, h⟩ := h
      refine r_callV (pc := 65) (k := r19) (As := [.int 2]) (rest := []) (mc' := 0) (ms' := 0) lk_Re_82 in_To_blame se_To_blame s20 rfl d_Re_takePart_65 k_To_blame rfl rfl (Nat.le_of_ble_eq_true rfl) (by decide) (by decide) (Sp.mono h ?_)
      rintro rS21 shS21 S21 ⟨qS21, x22, uS21, h⟩
      subst uS21
      rw [qS21]
      obtain ⟨g23, h⟩ := h
      exact r_zreturn (pc := 68) d_Re_takePart_68 rfl (aw_nb g23) rfl (Nat.le_refl _) ⟨rfl, _, rfl, h⟩
    · refine r_tabIn (pc := 7) d_Re_takePart_7 (off := 48) (by omega) (by omega) (by rw [q27]; rfl) (tgt := 55) (by decide) ?_
      replace h := h.2.2.2.2.2 (aw_ix (y := 4) q27 (by decide))
      refine r_aload_n (pc := 55) d_Re_takePart_55 (x := a) rfl ?_
      refine r_callV (pc := 56) (k := a) (As := []) (rest := []) (mc' := 0) (ms' := 0) lk_Re_103 in_Re_takeTextPass se_Re_takeTextPass sa rfl d_Re_takePart_56 k_Re_takeTextPass rfl rfl (Nat.le_of_ble_eq_true rfl) (by decide) (by decide) (Sp.mono h ?_)
      rintro rS24 shS24 S24 ⟨qS24, x25, uS24, h⟩
      subst uS24
      rw [qS24]
      obtain ⟨g26, h⟩ := h
      exact r_zreturn (pc := 59) d_Re_takePart_59 rfl (aw_nb g26) rfl (Nat.le_refl _) ⟨rfl, _, rfl, h⟩
set_option maxRecDepth 4000 in
theorem e_Re_takeOdds {l : Launch} {d : Nat} {sh : aw_SH} {S : aw_S} {P : Int32 → aw_S → Prop} {a : Nat} (sa : sh[a]? = some (0, 5)) (h : (((S.1 a 5) = 0 → ∃ r2, (aw_uI S a 5 1).2.2 a 2 = some r2 ∧ sh[r2]? = some (0, 6) ∧ Sp l m_To_advance d 0 0 [.ref r2] sh (aw_uI S a 5 1) (gV sh (fun S4 => ∃ r5, S4.2.2 a 2 = some r5 ∧ sh[r5]? = some (0, 6) ∧ Sp l m_To_takeNumber d 0 0 [.ref r5, .int 0, .int 16] sh S4 (gI sh (fun x8 S7 => ((¬ x8 = (-1) → ∃ r10, S7.2.2 a 3 = some r10 ∧ sh[r10]? = some (0, 2) ∧ ∃ r12, (aw_uI S7 r10 1 x8).2.2 a 2 = some r12 ∧ sh[r12]? = some (0, 6) ∧ Sp l m_To_takeSemicolon d 0 0 [.ref r12] sh (aw_uI S7 r10 1 x8) (gI sh (fun x15 S14 => ((x15 = 0 ∨ x15 = 1) ∧ P x15 S14)))) ∧ (x8 = (-1) → P 0 S7))))))) ∧ (¬ (S.1 a 5) = 0 → ∃ r17, S.2.2 a 2 = some r17 ∧ sh[r17]? = some (0, 6) ∧ Sp l m_To_blame d 0 0 [.ref r17, .int 5] sh S (gI sh (fun x20 S19 => ((x20 = 0 ∨ x20 = 1) ∧ P x20 S19)))))) : Sp l m_Re_takeOdds (d + 1) 0 0 [.ref a] sh S (gI sh P) := by
  refine Sp.of k_Re_takeOdds (ls := [.ref a, .null]) rfl (Nat.le_of_ble_eq_true rfl) ?_
  refine r_aload_n (pc := 0) d_Re_takeOdds_0 (x := a) rfl ?_
  refine r_getI (pc := 1) d_Re_takeOdds_1 f_Re_31 sa rfl ?_
  refine r_if_eq (pc := 4) d_Re_takeOdds_4 (tgt := 16) (by decide) (fun c1 => ?_) (fun c1 => ?_)
  · replace h := h.1 c1
    refine r_aload_n (pc := 16) d_Re_takeOdds_16 (x := a) rfl ?_
    refine r_iconst (pc := 17) d_Re_takeOdds_17 (v := 1) (by decide) ?_
    refine r_putZ (pc := 18) d_Re_takeOdds_18 f_Re_31 sa rfl (by decide) ?_
    refine r_aload_n (pc := 21) d_Re_takeOdds_21 (x := a) rfl ?_
    obtain ⟨r2, er2, h⟩ := h
    refine r_getR (pc := 22) d_Re_takeOdds_22 f_Re_12 sa (Or.inl ⟨_, rfl⟩) (r := r2) er2 ?_
    obtain ⟨s3, h⟩ := h
    refine r_callV (pc := 25) (k := r2) (As := []) (rest := []) (mc' := 0) (ms' := 0) lk_Re_106 in_To_advance se_To_advance s3 rfl d_Re_takeOdds_25 k_To_advance rfl rfl (Nat.le_of_ble_eq_true rfl) (by decide) (by decide) (Sp.mono h ?_)
    rintro rS4 shS4 S4 ⟨qS4, uS4, h⟩
    subst uS4
    rw [qS4]
    refine r_aload_n (pc := 28) d_Re_takeOdds_28 (x := a) rfl ?_
    obtain ⟨r5, er5, h⟩ := h
    refine r_getR (pc := 29) d_Re_takeOdds_29 f_Re_12 sa (Or.inl ⟨_, rfl⟩) (r := r5) er5 ?_
    refine r_iconst (pc := 32) d_Re_takeOdds_32 (v := 0) (by decide) ?_
    refine r_bipush (pc := 33) d_Re_takeOdds_33 (v := 16) (by decide) ?_
    obtain ⟨s6, h⟩ := h
    refine r_callV (pc := 35) (k := r5) (As := [.int 0, .int 16]) (rest := []) (mc' := 0) (ms' := 0) lk_Re_109 in_To_takeNumber se_To_takeNumber s6 rfl d_Re_takeOdds_35 k_To_takeNumber rfl rfl (Nat.le_of_ble_eq_true rfl) (by decide) (by decide) (Sp.mono h ?_)
    rintro rS7 shS7 S7 ⟨qS7, x8, uS7, h⟩
    subst uS7
    rw [qS7]
    refine r_istore_n (pc := 38) (hk := rfl) (hd := d_Re_takeOdds_38) (hi := by decide) (ls2 := [.ref a, .int x8]) (h2 := rfl) ?_
    refine r_iload_n (pc := 39) d_Re_takeOdds_39 (x := x8) rfl ?_
    refine r_iconst (pc := 40) d_Re_takeOdds_40 (v := (-1)) (by decide) ?_
    refine r_icmp_ne (pc := 41) d_Re_takeOdds_41 (tgt := 46) (by decide) (fun c9 => ?_) (fun c9 => ?_)
    · replace h := h.1 c9
      refine r_aload_n (pc := 46) d_Re_takeOdds_46 (x := a) rfl ?_
      obtain ⟨r10, er10, h⟩ := h
      refine r_getR (pc := 47) d_Re_takeOdds_47 f_Re_22 sa (Or.inl ⟨_, rfl⟩) (r := r10) er10 ?_
      refine r_iload_n (pc := 50) d_Re_takeOdds_50 (x := x8) rfl ?_
      obtain ⟨s11, h⟩ := h
      refine r_putI (pc := 51) d_Re_takeOdds_51 f_Re_113 s11 rfl ?_
      refine r_aload_n (pc := 54) d_Re_takeOdds_54 (x := a) rfl ?_
      obtain ⟨r12, er12, h⟩ := h
      refine r_getR (pc := 55) d_Re_takeOdds_55 f_Re_12 sa (Or.inl ⟨_, rfl⟩) (r := r12) er12 ?_
      obtain ⟨s13, h⟩ := h
      refine r_callV (pc := 58) (k := r12) (As := []) (rest := []) (mc' := 0) (ms' := 0) lk_Re_116 in_To_takeSemicolon se_To_takeSemicolon s13 rfl d_Re_takeOdds_58 k_To_takeSemicolon rfl rfl (Nat.le_of_ble_eq_true rfl) (by decide) (by decide) (Sp.mono h ?_)
      rintro rS14 shS14 S14 ⟨qS14, x15, uS14, h⟩
      subst uS14
      rw [qS14]
      obtain ⟨g16, h⟩ := h
      exact r_zreturn (pc := 61) d_Re_takeOdds_61 rfl (aw_nb g16) rfl (Nat.le_refl _) ⟨rfl, _, rfl, h⟩
    · replace h := h.2 c9
      refine r_iconst (pc := 44) d_Re_takeOdds_44 (v := 0) (by decide) ?_
      exact r_zreturn (pc := 45) d_Re_takeOdds_45 (v := 0) rfl (by decide) rfl (Nat.le_refl _) ⟨rfl, _, rfl, h⟩
  · replace h := h.2 c1
    refine r_aload_n (pc := 7) d_Re_takeOdds_7 (x := a) rfl ?_
    obtain ⟨r17, er17, h⟩ := h
    refine r_getR (pc := 8) d_Re_takeOdds_8 f_Re_12 sa (Or.inl ⟨_, rfl⟩) (r := r17) er17 ?_
    refine r_iconst (pc := 11) d_Re_takeOdds_11 (v := 5) (by decide) ?_
    obtain ⟨s18, h⟩ := h
    refine r_callV (pc := 12) (k := r17) (As := [.int 5]) (rest := []) (mc' := 0) (ms' := 0) lk_Re_82 in_To_blame se_To_blame s18 rfl d_Re_takeOdds_12 k_To_blame rfl rfl (Nat.le_of_ble_eq_true rfl) (by decide) (by decide) (Sp.mono h ?_)
    rintro rS19 shS19 S19 ⟨qS19, x20, uS19, h⟩
    subst uS19
    rw [qS19]
    obtain ⟨g21, h⟩ := h
    exact r_zreturn (pc := 15) d_Re_takeOdds_15 rfl (aw_nb g21) rfl (Nat.le_refl _) ⟨rfl, _, rfl, h⟩
set_option maxRecDepth 4000 in
theorem e_Re_takeLong {l : Launch} {d : Nat} {sh : aw_SH} {S : aw_S} {P : Int32 → aw_S → Prop} {a : Nat} (sa : sh[a]? = some (0, 5)) (h : ((¬ (S.1 a 6) = 0 → ∃ r2, S.2.2 a 2 = some r2 ∧ sh[r2]? = some (0, 6) ∧ Sp l m_To_blame d 0 0 [.ref r2, .int 5] sh S (gI sh (fun x5 S4 => ((x5 = 0 ∨ x5 = 1) ∧ P x5 S4)))) ∧ ((S.1 a 6) = 0 → (((S.1 a 7) = 0 → ∃ r8, (aw_uI S a 6 1).2.2 a 2 = some r8 ∧ sh[r8]? = some (0, 6) ∧ Sp l m_To_advance d 0 0 [.ref r8] sh (aw_uI S a 6 1) (gV sh (fun S10 => ∃ r11, S10.2.2 a 2 = some r11 ∧ sh[r11]? = some (0, 6) ∧ Sp l m_To_takeNumber d 0 0 [.ref r11, .int 1, .int 40] sh S10 (gI sh (fun x14 S13 => ((¬ x14 = (-1) → ∃ r16, S13.2.2 a 3 = some r16 ∧ sh[r16]? = some (0, 2) ∧ ∃ r18, (aw_uI S13 r16 2 x14).2.2 a 2 = some r18 ∧ sh[r18]? = some (0, 6) ∧ Sp l m_To_takeSemicolon d 0 0 [.ref r18] sh (aw_uI S13 r16 2 x14) (gI sh (fun x21 S20 => ((x21 = 0 ∨ x21 = 1) ∧ P x21 S20)))) ∧ (x14 = (-1) → P 0 S13))))))) ∧ (¬ (S.1 a 7) = 0 → ∃ r23, S.2.2 a 2 = some r23 ∧ sh[r23]? = some (0, 6) ∧ Sp l m_To_blame d 0 0 [.ref r23, .int 5] sh S (gI sh (fun x26 S25 => ((x26 = 0 ∨ x26 = 1) ∧ P x26 S25)))))))) : Sp l m_Re_takeLong (d + 1) 0 0 [.ref a] sh S (gI sh P) := by
  refine Sp.of k_Re_takeLong (ls := [.ref a, .null]) rfl (Nat.le_of_ble_eq_true rfl) ?_
  refine r_aload_n (pc := 0) d_Re_takeLong_0 (x := a) rfl ?_
  refine r_getI (pc := 1) d_Re_takeLong_1 f_Re_35 sa rfl ?_
  refine r_if_ne (pc := 4) d_Re_takeLong_4 (tgt := 14) (by decide) (fun c1 => ?_) (fun c1 => ?_)
  · replace h := h.1 c1
    refine r_aload_n (pc := 14) d_Re_takeLong_14 (x := a) rfl ?_
    obtain ⟨r2, er2, h⟩ := h
    refine r_getR (pc := 15) d_Re_takeLong_15 f_Re_12 sa (Or.inl ⟨_, rfl⟩) (r := r2) er2 ?_
    refine r_iconst (pc := 18) d_Re_takeLong_18 (v := 5) (by decide) ?_
    obtain ⟨s3, h⟩ := h
    refine r_callV (pc := 19) (k := r2) (As := [.int 5]) (rest := []) (mc' := 0) (ms' := 0) lk_Re_82 in_To_blame se_To_blame s3 rfl d_Re_takeLong_19 k_To_blame rfl rfl (Nat.le_of_ble_eq_true rfl) (by decide) (by decide) (Sp.mono h ?_)
    rintro rS4 shS4 S4 ⟨qS4, x5, uS4, h⟩
    subst uS4
    rw [qS4]
    obtain ⟨g6, h⟩ := h
    exact r_zreturn (pc := 22) d_Re_takeLong_22 rfl (aw_nb g6) rfl (Nat.le_refl _) ⟨rfl, _, rfl, h⟩
  · replace h := h.2 c1
    refine r_aload_n (pc := 7) d_Re_takeLong_7 (x := a) rfl ?_
    refine r_getI (pc := 8) d_Re_takeLong_8 f_Re_38 sa rfl ?_
    refine r_if_eq (pc := 11) d_Re_takeLong_11 (tgt := 23) (by decide) (fun c7 => ?_) (fun c7 => ?_)
    · replace h := h.1 c7
      refine r_aload_n (pc := 23) d_Re_takeLong_23 (x := a) rfl ?_
      refine r_iconst (pc := 24) d_Re_takeLong_24 (v := 1) (by decide) ?_
      refine r_putZ (pc := 25) d_Re_takeLong_25 f_Re_35 sa rfl (by decide) ?_
      refine r_aload_n (pc := 28) d_Re_takeLong_28 (x := a) rfl ?_
      obtain ⟨r8, er8, h⟩ := h
      refine r_getR (pc := 29) d_Re_takeLong_29 f_Re_12 sa (Or.inl ⟨_, rfl⟩) (r := r8) er8 ?_
      obtain ⟨s9, h⟩ := h
      refine r_callV (pc := 32) (k := r8) (As := []) (rest := []) (mc' := 0) (ms' := 0) lk_Re_106 in_To_advance se_To_advance s9 rfl d_Re_takeLong_32 k_To_advance rfl rfl (Nat.le_of_ble_eq_true rfl) (by decide) (by decide) (Sp.mono h ?_)
      rintro rS10 shS10 S10 ⟨qS10, uS10, h⟩
      subst uS10
      rw [qS10]
      refine r_aload_n (pc := 35) d_Re_takeLong_35 (x := a) rfl ?_
      obtain ⟨r11, er11, h⟩ := h
      refine r_getR (pc := 36) d_Re_takeLong_36 f_Re_12 sa (Or.inl ⟨_, rfl⟩) (r := r11) er11 ?_
      refine r_iconst (pc := 39) d_Re_takeLong_39 (v := 1) (by decide) ?_
      refine r_bipush (pc := 40) d_Re_takeLong_40 (v := 40) (by decide) ?_
      obtain ⟨s12, h⟩ := h
      refine r_callV (pc := 42) (k := r11) (As := [.int 1, .int 40]) (rest := []) (mc' := 0) (ms' := 0) lk_Re_109 in_To_takeNumber se_To_takeNumber s12 rfl d_Re_takeLong_42 k_To_takeNumber rfl rfl (Nat.le_of_ble_eq_true rfl) (by decide) (by decide) (Sp.mono h ?_)
      rintro rS13 shS13 S13 ⟨qS13, x14, uS13, h⟩
      subst uS13
      rw [qS13]
      refine r_istore_n (pc := 45) (hk := rfl) (hd := d_Re_takeLong_45) (hi := by decide) (ls2 := [.ref a, .int x14]) (h2 := rfl) ?_
      refine r_iload_n (pc := 46) d_Re_takeLong_46 (x := x14) rfl ?_
      refine r_iconst (pc := 47) d_Re_takeLong_47 (v := (-1)) (by decide) ?_
      refine r_icmp_ne (pc := 48) d_Re_takeLong_48 (tgt := 53) (by decide) (fun c15 => ?_) (fun c15 => ?_)
      · replace h := h.1 c15
        refine r_aload_n (pc := 53) d_Re_takeLong_53 (x := a) rfl ?_
        obtain ⟨r16, er16, h⟩ := h
        refine r_getR (pc := 54) d_Re_takeLong_54 f_Re_22 sa (Or.inl ⟨_, rfl⟩) (r := r16) er16 ?_
        refine r_iload_n (pc := 57) d_Re_takeLong_57 (x := x14) rfl ?_
        obtain ⟨s17, h⟩ := h
        refine r_putI (pc := 58) d_Re_takeLong_58 f_Re_119 s17 rfl ?_
        refine r_aload_n (pc := 61) d_Re_takeLong_61 (x := a) rfl ?_
        obtain ⟨r18, er18, h⟩ := h
        refine r_getR (pc := 62) d_Re_takeLong_62 f_Re_12 sa (Or.inl ⟨_, rfl⟩) (r := r18) er18 ?_
        obtain ⟨s19, h⟩ := h
        refine r_callV (pc := 65) (k := r18) (As := []) (rest := []) (mc' := 0) (ms' := 0) lk_Re_116 in_To_takeSemicolon se_To_takeSemicolon s19 rfl d_Re_takeLong_65 k_To_takeSemicolon rfl rfl (Nat.le_of_ble_eq_true rfl) (by decide) (by decide) (Sp.mono h ?_)
        rintro rS20 shS20 S20 ⟨qS20, x21, uS20, h⟩
        subst uS20
        rw [qS20]
        obtain ⟨g22, h⟩ := h
        exact r_zreturn (pc := 68) d_Re_takeLong_68 rfl (aw_nb g22) rfl (Nat.le_refl _) ⟨rfl, _, rfl, h⟩
      · replace h := h.2 c15
        refine r_iconst (pc := 51) d_Re_takeLong_51 (v := 0) (by decide) ?_
        exact r_zreturn (pc := 52) d_Re_takeLong_52 (v := 0) rfl (by decide) rfl (Nat.le_refl _) ⟨rfl, _, rfl, h⟩
    · replace h := h.2 c7
      refine r_aload_n (pc := 14) d_Re_takeLong_14 (x := a) rfl ?_
      obtain ⟨r23, er23, h⟩ := h
      refine r_getR (pc := 15) d_Re_takeLong_15 f_Re_12 sa (Or.inl ⟨_, rfl⟩) (r := r23) er23 ?_
      refine r_iconst (pc := 18) d_Re_takeLong_18 (v := 5) (by decide) ?_
      obtain ⟨s24, h⟩ := h
      refine r_callV (pc := 19) (k := r23) (As := [.int 5]) (rest := []) (mc' := 0) (ms' := 0) lk_Re_82 in_To_blame se_To_blame s24 rfl d_Re_takeLong_19 k_To_blame rfl rfl (Nat.le_of_ble_eq_true rfl) (by decide) (by decide) (Sp.mono h ?_)
      rintro rS25 shS25 S25 ⟨qS25, x26, uS25, h⟩
      subst uS25
      rw [qS25]
      obtain ⟨g27, h⟩ := h
      exact r_zreturn (pc := 22) d_Re_takeLong_22 rfl (aw_nb g27) rfl (Nat.le_refl _) ⟨rfl, _, rfl, h⟩
set_option maxRecDepth 4000 in
theorem e_Re_takeDancer {l : Launch} {d : Nat} {sh : aw_SH} {S : aw_S} {P : Int32 → aw_S → Prop} {a : Nat} (sa : sh[a]? = some (0, 5)) (h : (((S.1 a 7) = 0 → ∃ r2, S.2.2 a 3 = some r2 ∧ sh[r2]? = some (0, 2) ∧ (((S.1 r2 0) < 7 → ∃ r5, S.2.2 a 2 = some r5 ∧ sh[r5]? = some (0, 6) ∧ Sp l m_To_advance d 0 0 [.ref r5] sh S (gV sh (fun S7 => ∃ r8, S7.2.2 a 2 = some r8 ∧ sh[r8]? = some (0, 6) ∧ Sp l m_To_isName d 0 0 [.ref r8] sh S7 (gI sh (fun x11 S10 => ((¬ x11 = 0 → ∃ r13, S10.2.2 a 2 = some r13 ∧ sh[r13]? = some (0, 6) ∧ ∃ r15, S10.2.2 a 3 = some r15 ∧ sh[r15]? = some (0, 2) ∧ Sp l m_Gr_named d 0 0 [.ref r15, .long (S10.2.1 r13 3)] sh S10 (gI sh (fun x18 S17 => ((x18 = (-1) → ∃ r20, S17.2.2 a 2 = some r20 ∧ sh[r20]? = some (0, 6) ∧ Sp l m_To_advance d 0 0 [.ref r20] sh S17 (gV sh (fun S22 => ∃ r23, S22.2.2 a 2 = some r23 ∧ sh[r23]? = some (0, 6) ∧ Sp l m_To_takeReserved d 0 0 [.ref r23, .int 3] sh S22 (gI sh (fun x26 S25 => ((¬ x26 = 0 → ∃ r28, S25.2.2 a 2 = some r28 ∧ sh[r28]? = some (0, 6) ∧ Sp l m_To_takeNumber d 0 0 [.ref r28, .int 0, .int 5] sh S25 (gI sh (fun x31 S30 => ((¬ x31 = (-1) → ∃ r33, S30.2.2 a 3 = some r33 ∧ sh[r33]? = some (0, 2) ∧ Sp l m_Gr_join d 0 0 [.ref r33, .long (S10.2.1 r13 3), .int x31] sh S30 (gV sh (fun S35 => ∃ r36, S35.2.2 a 2 = some r36 ∧ sh[r36]? = some (0, 6) ∧ Sp l m_To_takeSemicolon d 0 0 [.ref r36] sh S35 (gI sh (fun x39 S38 => ((x39 = 0 ∨ x39 = 1) ∧ P x39 S38)))))) ∧ (x31 = (-1) → P 0 S30))))) ∧ (x26 = 0 → P 0 S25))))))) ∧ (¬ x18 = (-1) → ∃ r41, S17.2.2 a 2 = some r41 ∧ sh[r41]? = some (0, 6) ∧ Sp l m_To_blame d 0 0 [.ref r41, .int 3] sh S17 (gI sh (fun x44 S43 => ((x44 = 0 ∨ x44 = 1) ∧ P x44 S43)))))))) ∧ (x11 = 0 → ∃ r46, S10.2.2 a 2 = some r46 ∧ sh[r46]? = some (0, 6) ∧ Sp l m_To_blame d 0 0 [.ref r46, .int 2] sh S10 (gI sh (fun x49 S48 => ((x49 = 0 ∨ x49 = 1) ∧ P x49 S48)))))))))) ∧ (¬ (S.1 r2 0) < 7 → ∃ r51, S.2.2 a 2 = some r51 ∧ sh[r51]? = some (0, 6) ∧ Sp l m_To_blame d 0 0 [.ref r51, .int 6] sh S (gI sh (fun x54 S53 => ((x54 = 0 ∨ x54 = 1) ∧ P x54 S53)))))) ∧ (¬ (S.1 a 7) = 0 → ∃ r56, S.2.2 a 2 = some r56 ∧ sh[r56]? = some (0, 6) ∧ Sp l m_To_blame d 0 0 [.ref r56, .int 5] sh S (gI sh (fun x59 S58 => ((x59 = 0 ∨ x59 = 1) ∧ P x59 S58)))))) : Sp l m_Re_takeDancer (d + 1) 0 0 [.ref a] sh S (gI sh P) := by
  refine Sp.of k_Re_takeDancer (ls := [.ref a, .null, .null, .null]) rfl (Nat.le_of_ble_eq_true rfl) ?_
  refine r_aload_n (pc := 0) d_Re_takeDancer_0 (x := a) rfl ?_
  refine r_getI (pc := 1) d_Re_takeDancer_1 f_Re_38 sa rfl ?_
  refine r_if_eq (pc := 4) d_Re_takeDancer_4 (tgt := 16) (by decide) (fun c1 => ?_) (fun c1 => ?_)
  · replace h := h.1 c1
    refine r_aload_n (pc := 16) d_Re_takeDancer_16 (x := a) rfl ?_
    obtain ⟨r2, er2, h⟩ := h
    refine r_getR (pc := 17) d_Re_takeDancer_17 f_Re_22 sa (Or.inl ⟨_, rfl⟩) (r := r2) er2 ?_
    obtain ⟨s3, h⟩ := h
    refine r_getI (pc := 20) d_Re_takeDancer_20 f_Re_122 s3 rfl ?_
    refine r_bipush (pc := 23) d_Re_takeDancer_23 (v := 7) (by decide) ?_
    refine r_icmp_lt (pc := 25) d_Re_takeDancer_25 (tgt := 38) (by decide) (fun c4 => ?_) (fun c4 => ?_)
    · replace h := h.1 c4
      refine r_aload_n (pc := 38) d_Re_takeDancer_38 (x := a) rfl ?_
      obtain ⟨r5, er5, h⟩ := h
      refine r_getR (pc := 39) d_Re_takeDancer_39 f_Re_12 sa (Or.inl ⟨_, rfl⟩) (r := r5) er5 ?_
      obtain ⟨s6, h⟩ := h
      refine r_callV (pc := 42) (k := r5) (As := []) (rest := []) (mc' := 0) (ms' := 0) lk_Re_106 in_To_advance se_To_advance s6 rfl d_Re_takeDancer_42 k_To_advance rfl rfl (Nat.le_of_ble_eq_true rfl) (by decide) (by decide) (Sp.mono h ?_)
      rintro rS7 shS7 S7 ⟨qS7, uS7, h⟩
      subst uS7
      rw [qS7]
      refine r_aload_n (pc := 45) d_Re_takeDancer_45 (x := a) rfl ?_
      obtain ⟨r8, er8, h⟩ := h
      refine r_getR (pc := 46) d_Re_takeDancer_46 f_Re_12 sa (Or.inl ⟨_, rfl⟩) (r := r8) er8 ?_
      obtain ⟨s9, h⟩ := h
      refine r_callV (pc := 49) (k := r8) (As := []) (rest := []) (mc' := 0) (ms' := 0) lk_Re_125 in_To_isName se_To_isName s9 rfl d_Re_takeDancer_49 k_To_isName rfl rfl (Nat.le_of_ble_eq_true rfl) (by decide) (by decide) (Sp.mono h ?_)
      rintro rS10 shS10 S10 ⟨qS10, x11, uS10, h⟩
      subst uS10
      rw [qS10]
      refine r_if_ne (pc := 52) d_Re_takeDancer_52 (tgt := 64) (by decide) (fun c12 => ?_) (fun c12 => ?_)
      · replace h := h.1 c12
        refine r_aload_n (pc := 64) d_Re_takeDancer_64 (x := a) rfl ?_
        obtain ⟨r13, er13, h⟩ := h
        refine r_getR (pc := 65) d_Re_takeDancer_65 f_Re_12 sa (Or.inl ⟨_, rfl⟩) (r := r13) er13 ?_
        obtain ⟨s14, h⟩ := h
        refine r_getL (pc := 68) d_Re_takeDancer_68 f_Re_128 s14 rfl ?_
        refine r_lstore_n (pc := 71) (hk := rfl) (hd := d_Re_takeDancer_71) (hi := by decide) (ls2 := [.ref a, .long (S10.2.1 r13 3), .null, .null]) (h2 := rfl) ?_
        refine r_aload_n (pc := 72) d_Re_takeDancer_72 (x := a) rfl ?_
        obtain ⟨r15, er15, h⟩ := h
        refine r_getR (pc := 73) d_Re_takeDancer_73 f_Re_22 sa (Or.inl ⟨_, rfl⟩) (r := r15) er15 ?_
        refine r_lload_n (pc := 76) d_Re_takeDancer_76 (x := (S10.2.1 r13 3)) rfl ?_
        obtain ⟨s16, h⟩ := h
        refine r_callV (pc := 77) (k := r15) (As := [.long (S10.2.1 r13 3)]) (rest := []) (mc' := 0) (ms' := 0) lk_Re_132 in_Gr_named se_Gr_named s16 rfl d_Re_takeDancer_77 k_Gr_named rfl rfl (Nat.le_of_ble_eq_true rfl) (by decide) (by decide) (Sp.mono h ?_)
        rintro rS17 shS17 S17 ⟨qS17, x18, uS17, h⟩
        subst uS17
        rw [qS17]
        refine r_iconst (pc := 80) d_Re_takeDancer_80 (v := (-1)) (by decide) ?_
        refine r_icmp_eq (pc := 81) d_Re_takeDancer_81 (tgt := 93) (by decide) (fun c19 => ?_) (fun c19 => ?_)
        · replace h := h.1 c19
          refine r_aload_n (pc := 93) d_Re_takeDancer_93 (x := a) rfl ?_
          obtain ⟨r20, er20, h⟩ := h
          refine r_getR (pc := 94) d_Re_takeDancer_94 f_Re_12 sa (Or.inl ⟨_, rfl⟩) (r := r20) er20 ?_
          obtain ⟨s21, h⟩ := h
          refine r_callV (pc := 97) (k := r20) (As := []) (rest := []) (mc' := 0) (ms' := 0) lk_Re_106 in_To_advance se_To_advance s21 rfl d_Re_takeDancer_97 k_To_advance rfl rfl (Nat.le_of_ble_eq_true rfl) (by decide) (by decide) (Sp.mono h ?_)
          rintro rS22 shS22 S22 ⟨qS22, uS22, h⟩
          subst uS22
          rw [qS22]
          refine r_aload_n (pc := 100) d_Re_takeDancer_100 (x := a) rfl ?_
          obtain ⟨r23, er23, h⟩ := h
          refine r_getR (pc := 101) d_Re_takeDancer_101 f_Re_12 sa (Or.inl ⟨_, rfl⟩) (r := r23) er23 ?_
          refine r_iconst (pc := 104) d_Re_takeDancer_104 (v := 3) (by decide) ?_
          obtain ⟨s24, h⟩ := h
          refine r_callV (pc := 105) (k := r23) (As := [.int 3]) (rest := []) (mc' := 0) (ms' := 0) lk_Re_136 in_To_takeReserved se_To_takeReserved s24 rfl d_Re_takeDancer_105 k_To_takeReserved rfl rfl (Nat.le_of_ble_eq_true rfl) (by decide) (by decide) (Sp.mono h ?_)
          rintro rS25 shS25 S25 ⟨qS25, x26, uS25, h⟩
          subst uS25
          rw [qS25]
          refine r_if_ne (pc := 108) d_Re_takeDancer_108 (tgt := 113) (by decide) (fun c27 => ?_) (fun c27 => ?_)
          · replace h := h.1 c27
            refine r_aload_n (pc := 113) d_Re_takeDancer_113 (x := a) rfl ?_
            obtain ⟨r28, er28, h⟩ := h
            refine r_getR (pc := 114) d_Re_takeDancer_114 f_Re_12 sa (Or.inl ⟨_, rfl⟩) (r := r28) er28 ?_
            refine r_iconst (pc := 117) d_Re_takeDancer_117 (v := 0) (by decide) ?_
            refine r_iconst (pc := 118) d_Re_takeDancer_118 (v := 5) (by decide) ?_
            obtain ⟨s29, h⟩ := h
            refine r_callV (pc := 119) (k := r28) (As := [.int 0, .int 5]) (rest := []) (mc' := 0) (ms' := 0) lk_Re_109 in_To_takeNumber se_To_takeNumber s29 rfl d_Re_takeDancer_119 k_To_takeNumber rfl rfl (Nat.le_of_ble_eq_true rfl) (by decide) (by decide) (Sp.mono h ?_)
            rintro rS30 shS30 S30 ⟨qS30, x31, uS30, h⟩
            subst uS30
            rw [qS30]
            refine r_istore_n (pc := 122) (hk := rfl) (hd := d_Re_takeDancer_122) (hi := by decide) (ls2 := [.ref a, .long (S10.2.1 r13 3), .null, .int x31]) (h2 := rfl) ?_
            refine r_iload_n (pc := 123) d_Re_takeDancer_123 (x := x31) rfl ?_
            refine r_iconst (pc := 124) d_Re_takeDancer_124 (v := (-1)) (by decide) ?_
            refine r_icmp_ne (pc := 125) d_Re_takeDancer_125 (tgt := 130) (by decide) (fun c32 => ?_) (fun c32 => ?_)
            · replace h := h.1 c32
              refine r_aload_n (pc := 130) d_Re_takeDancer_130 (x := a) rfl ?_
              obtain ⟨r33, er33, h⟩ := h
              refine r_getR (pc := 131) d_Re_takeDancer_131 f_Re_22 sa (Or.inl ⟨_, rfl⟩) (r := r33) er33 ?_
              refine r_lload_n (pc := 134) d_Re_takeDancer_134 (x := (S10.2.1 r13 3)) rfl ?_
              refine r_iload_n (pc := 135) d_Re_takeDancer_135 (x := x31) rfl ?_
              obtain ⟨s34, h⟩ := h
              refine r_callV (pc := 136) (k := r33) (As := [.long (S10.2.1 r13 3), .int x31]) (rest := []) (mc' := 0) (ms' := 0) lk_Re_139 in_Gr_join se_Gr_join s34 rfl d_Re_takeDancer_136 k_Gr_join rfl rfl (Nat.le_of_ble_eq_true rfl) (by decide) (by decide) (Sp.mono h ?_)
              rintro rS35 shS35 S35 ⟨qS35, uS35, h⟩
              subst uS35
              rw [qS35]
              refine r_aload_n (pc := 139) d_Re_takeDancer_139 (x := a) rfl ?_
              obtain ⟨r36, er36, h⟩ := h
              refine r_getR (pc := 140) d_Re_takeDancer_140 f_Re_12 sa (Or.inl ⟨_, rfl⟩) (r := r36) er36 ?_
              obtain ⟨s37, h⟩ := h
              refine r_callV (pc := 143) (k := r36) (As := []) (rest := []) (mc' := 0) (ms' := 0) lk_Re_116 in_To_takeSemicolon se_To_takeSemicolon s37 rfl d_Re_takeDancer_143 k_To_takeSemicolon rfl rfl (Nat.le_of_ble_eq_true rfl) (by decide) (by decide) (Sp.mono h ?_)
              rintro rS38 shS38 S38 ⟨qS38, x39, uS38, h⟩
              subst uS38
              rw [qS38]
              obtain ⟨g40, h⟩ := h
              exact r_zreturn (pc := 146) d_Re_takeDancer_146 rfl (aw_nb g40) rfl (Nat.le_refl _) ⟨rfl, _, rfl, h⟩
            · replace h := h.2 c32
              refine r_iconst (pc := 128) d_Re_takeDancer_128 (v := 0) (by decide) ?_
              exact r_zreturn (pc := 129) d_Re_takeDancer_129 (v := 0) rfl (by decide) rfl (Nat.le_refl _) ⟨rfl, _, rfl, h⟩
          · replace h := h.2 c27
            refine r_iconst (pc := 111) d_Re_takeDancer_111 (v := 0) (by decide) ?_
            exact r_zreturn (pc := 112) d_Re_takeDancer_112 (v := 0) rfl (by decide) rfl (Nat.le_refl _) ⟨rfl, _, rfl, h⟩
        · replace h := h.2 c19
          refine r_aload_n (pc := 84) d_Re_takeDancer_84 (x := a) rfl ?_
          obtain ⟨r41, er41, h⟩ := h
          refine r_getR (pc := 85) d_Re_takeDancer_85 f_Re_12 sa (Or.inl ⟨_, rfl⟩) (r := r41) er41 ?_
          refine r_iconst (pc := 88) d_Re_takeDancer_88 (v := 3) (by decide) ?_
          obtain ⟨s42, h⟩ := h
          refine r_callV (pc := 89) (k := r41) (As := [.int 3]) (rest := []) (mc' := 0) (ms' := 0) lk_Re_82 in_To_blame se_To_blame s42 rfl d_Re_takeDancer_89 k_To_blame rfl rfl (Nat.le_of_ble_eq_true rfl) (by decide) (by decide) (Sp.mono h ?_)
          rintro rS43 shS43 S43 ⟨qS43, x44, uS43, h⟩
          subst uS43
          rw [qS43]
          obtain ⟨g45, h⟩ := h
          exact r_zreturn (pc := 92) d_Re_takeDancer_92 rfl (aw_nb g45) rfl (Nat.le_refl _) ⟨rfl, _, rfl, h⟩
      · replace h := h.2 c12
        refine r_aload_n (pc := 55) d_Re_takeDancer_55 (x := a) rfl ?_
        obtain ⟨r46, er46, h⟩ := h
        refine r_getR (pc := 56) d_Re_takeDancer_56 f_Re_12 sa (Or.inl ⟨_, rfl⟩) (r := r46) er46 ?_
        refine r_iconst (pc := 59) d_Re_takeDancer_59 (v := 2) (by decide) ?_
        obtain ⟨s47, h⟩ := h
        refine r_callV (pc := 60) (k := r46) (As := [.int 2]) (rest := []) (mc' := 0) (ms' := 0) lk_Re_82 in_To_blame se_To_blame s47 rfl d_Re_takeDancer_60 k_To_blame rfl rfl (Nat.le_of_ble_eq_true rfl) (by decide) (by decide) (Sp.mono h ?_)
        rintro rS48 shS48 S48 ⟨qS48, x49, uS48, h⟩
        subst uS48
        rw [qS48]
        obtain ⟨g50, h⟩ := h
        exact r_zreturn (pc := 63) d_Re_takeDancer_63 rfl (aw_nb g50) rfl (Nat.le_refl _) ⟨rfl, _, rfl, h⟩
    · replace h := h.2 c4
      refine r_aload_n (pc := 28) d_Re_takeDancer_28 (x := a) rfl ?_
      obtain ⟨r51, er51, h⟩ := h
      refine r_getR (pc := 29) d_Re_takeDancer_29 f_Re_12 sa (Or.inl ⟨_, rfl⟩) (r := r51) er51 ?_
      refine r_bipush (pc := 32) d_Re_takeDancer_32 (v := 6) (by decide) ?_
      obtain ⟨s52, h⟩ := h
      refine r_callV (pc := 34) (k := r51) (As := [.int 6]) (rest := []) (mc' := 0) (ms' := 0) lk_Re_82 in_To_blame se_To_blame s52 rfl d_Re_takeDancer_34 k_To_blame rfl rfl (Nat.le_of_ble_eq_true rfl) (by decide) (by decide) (Sp.mono h ?_)
      rintro rS53 shS53 S53 ⟨qS53, x54, uS53, h⟩
      subst uS53
      rw [qS53]
      obtain ⟨g55, h⟩ := h
      exact r_zreturn (pc := 37) d_Re_takeDancer_37 rfl (aw_nb g55) rfl (Nat.le_refl _) ⟨rfl, _, rfl, h⟩
  · replace h := h.2 c1
    refine r_aload_n (pc := 7) d_Re_takeDancer_7 (x := a) rfl ?_
    obtain ⟨r56, er56, h⟩ := h
    refine r_getR (pc := 8) d_Re_takeDancer_8 f_Re_12 sa (Or.inl ⟨_, rfl⟩) (r := r56) er56 ?_
    refine r_iconst (pc := 11) d_Re_takeDancer_11 (v := 5) (by decide) ?_
    obtain ⟨s57, h⟩ := h
    refine r_callV (pc := 12) (k := r56) (As := [.int 5]) (rest := []) (mc' := 0) (ms' := 0) lk_Re_82 in_To_blame se_To_blame s57 rfl d_Re_takeDancer_12 k_To_blame rfl rfl (Nat.le_of_ble_eq_true rfl) (by decide) (by decide) (Sp.mono h ?_)
    rintro rS58 shS58 S58 ⟨qS58, x59, uS58, h⟩
    subst uS58
    rw [qS58]
    obtain ⟨g60, h⟩ := h
    exact r_zreturn (pc := 15) d_Re_takeDancer_15 rfl (aw_nb g60) rfl (Nat.le_refl _) ⟨rfl, _, rfl, h⟩
set_option maxRecDepth 4000 in
theorem e_Re_takeTextPass {l : Launch} {d : Nat} {sh : aw_SH} {S : aw_S} {P : Int32 → aw_S → Prop} {a : Nat} (sa : sh[a]? = some (0, 5)) (h : ∃ r1, (aw_uI S a 7 1).2.2 a 2 = some r1 ∧ sh[r1]? = some (0, 6) ∧ Sp l m_To_advance d 0 0 [.ref r1] sh (aw_uI S a 7 1) (gV sh (fun S3 => ∃ r4, S3.2.2 a 2 = some r4 ∧ ∃ r5, S3.2.2 a 3 = some r5 ∧ sh[r5]? = some (0, 2) ∧ Sp l m_Gr_gaps d 0 0 [.ref r5] sh S3 (gI sh (fun x8 S7 => sh[r4]? = some (0, 6) ∧ Sp l m_To_takeNumber d 0 0 [.ref r4, .int 0, .int (x8 - (1 : Int32))] sh S7 (gI sh (fun x11 S10 => ((¬ x11 = (-1) → Sp l m_Re_howOver d 0 0 [.ref a] sh S10 (gI sh (fun x14 S13 => ((¬ x14 = (-1) → ∃ r16, S13.2.2 a 3 = some r16 ∧ sh[r16]? = some (0, 2) ∧ Sp l m_Gr_makePass d 0 0 [.ref r16, .int (((2 : Int32) * x11) + x14)] sh S13 (gI sh (fun x19 S18 => ((¬ x19 = (-1) → ∃ r21, S18.2.2 a 2 = some r21 ∧ sh[r21]? = some (0, 6) ∧ Sp l m_To_advance d 0 0 [.ref r21] sh S18 (gV sh (fun S23 => ∃ r24, S23.2.2 a 2 = some r24 ∧ sh[r24]? = some (0, 6) ∧ Sp l m_To_takeSemicolon d 0 0 [.ref r24] sh S23 (gI sh (fun x27 S26 => ((x27 = 0 ∨ x27 = 1) ∧ P x27 S26)))))) ∧ (x19 = (-1) → ∃ r29, S18.2.2 a 2 = some r29 ∧ sh[r29]? = some (0, 6) ∧ Sp l m_To_blame d 0 0 [.ref r29, .int 5] sh S18 (gI sh (fun x32 S31 => ((x32 = 0 ∨ x32 = 1) ∧ P x32 S31)))))))) ∧ (x14 = (-1) → ∃ r34, S13.2.2 a 2 = some r34 ∧ sh[r34]? = some (0, 6) ∧ Sp l m_To_blame d 0 0 [.ref r34, .int 2] sh S13 (gI sh (fun x37 S36 => ((x37 = 0 ∨ x37 = 1) ∧ P x37 S36)))))))) ∧ (x11 = (-1) → P 0 S10))))))))) : Sp l m_Re_takeTextPass (d + 1) 0 0 [.ref a] sh S (gI sh P) := by
  refine Sp.of k_Re_takeTextPass (ls := [.ref a, .null, .null]) rfl (Nat.le_of_ble_eq_true rfl) ?_
  refine r_aload_n (pc := 0) d_Re_takeTextPass_0 (x := a) rfl ?_
  refine r_iconst (pc := 1) d_Re_takeTextPass_1 (v := 1) (by decide) ?_
  refine r_putZ (pc := 2) d_Re_takeTextPass_2 f_Re_38 sa rfl (by decide) ?_
  refine r_aload_n (pc := 5) d_Re_takeTextPass_5 (x := a) rfl ?_
  obtain ⟨r1, er1, h⟩ := h
  refine r_getR (pc := 6) d_Re_takeTextPass_6 f_Re_12 sa (Or.inl ⟨_, rfl⟩) (r := r1) er1 ?_
  obtain ⟨s2, h⟩ := h
  refine r_callV (pc := 9) (k := r1) (As := []) (rest := []) (mc' := 0) (ms' := 0) lk_Re_106 in_To_advance se_To_advance s2 rfl d_Re_takeTextPass_9 k_To_advance rfl rfl (Nat.le_of_ble_eq_true rfl) (by decide) (by decide) (Sp.mono h ?_)
  rintro rS3 shS3 S3 ⟨qS3, uS3, h⟩
  subst uS3
  rw [qS3]
  refine r_aload_n (pc := 12) d_Re_takeTextPass_12 (x := a) rfl ?_
  obtain ⟨r4, er4, h⟩ := h
  refine r_getR (pc := 13) d_Re_takeTextPass_13 f_Re_12 sa (Or.inl ⟨_, rfl⟩) (r := r4) er4 ?_
  refine r_iconst (pc := 16) d_Re_takeTextPass_16 (v := 0) (by decide) ?_
  refine r_aload_n (pc := 17) d_Re_takeTextPass_17 (x := a) rfl ?_
  obtain ⟨r5, er5, h⟩ := h
  refine r_getR (pc := 18) d_Re_takeTextPass_18 f_Re_22 sa (Or.inl ⟨_, rfl⟩) (r := r5) er5 ?_
  obtain ⟨s6, h⟩ := h
  refine r_callV (pc := 21) (k := r5) (As := []) (rest := [.int 0, .ref r4]) (mc' := 0) (ms' := 0) lk_Re_143 in_Gr_gaps se_Gr_gaps s6 rfl d_Re_takeTextPass_21 k_Gr_gaps rfl rfl (Nat.le_of_ble_eq_true rfl) (by decide) (by decide) (Sp.mono h ?_)
  rintro rS7 shS7 S7 ⟨qS7, x8, uS7, h⟩
  subst uS7
  rw [qS7]
  refine r_iconst (pc := 24) d_Re_takeTextPass_24 (v := 1) (by decide) ?_
  refine r_isub (pc := 25) d_Re_takeTextPass_25 ?_
  obtain ⟨s9, h⟩ := h
  refine r_callV (pc := 26) (k := r4) (As := [.int 0, .int (x8 - (1 : Int32))]) (rest := []) (mc' := 0) (ms' := 0) lk_Re_109 in_To_takeNumber se_To_takeNumber s9 rfl d_Re_takeTextPass_26 k_To_takeNumber rfl rfl (Nat.le_of_ble_eq_true rfl) (by decide) (by decide) (Sp.mono h ?_)
  rintro rS10 shS10 S10 ⟨qS10, x11, uS10, h⟩
  subst uS10
  rw [qS10]
  refine r_istore_n (pc := 29) (hk := rfl) (hd := d_Re_takeTextPass_29) (hi := by decide) (ls2 := [.ref a, .int x11, .null]) (h2 := rfl) ?_
  refine r_iload_n (pc := 30) d_Re_takeTextPass_30 (x := x11) rfl ?_
  refine r_iconst (pc := 31) d_Re_takeTextPass_31 (v := (-1)) (by decide) ?_
  refine r_icmp_ne (pc := 32) d_Re_takeTextPass_32 (tgt := 37) (by decide) (fun c12 => ?_) (fun c12 => ?_)
  · replace h := h.1 c12
    refine r_aload_n (pc := 37) d_Re_takeTextPass_37 (x := a) rfl ?_
    refine r_callV (pc := 38) (k := a) (As := []) (rest := []) (mc' := 0) (ms' := 0) lk_Re_146 in_Re_howOver se_Re_howOver sa rfl d_Re_takeTextPass_38 k_Re_howOver rfl rfl (Nat.le_of_ble_eq_true rfl) (by decide) (by decide) (Sp.mono h ?_)
    rintro rS13 shS13 S13 ⟨qS13, x14, uS13, h⟩
    subst uS13
    rw [qS13]
    refine r_istore_n (pc := 41) (hk := rfl) (hd := d_Re_takeTextPass_41) (hi := by decide) (ls2 := [.ref a, .int x11, .int x14]) (h2 := rfl) ?_
    refine r_iload_n (pc := 42) d_Re_takeTextPass_42 (x := x14) rfl ?_
    refine r_iconst (pc := 43) d_Re_takeTextPass_43 (v := (-1)) (by decide) ?_
    refine r_icmp_ne (pc := 44) d_Re_takeTextPass_44 (tgt := 56) (by decide) (fun c15 => ?_) (fun c15 => ?_)
    · replace h := h.1 c15
      refine r_aload_n (pc := 56) d_Re_takeTextPass_56 (x := a) rfl ?_
      obtain ⟨r16, er16, h⟩ := h
      refine r_getR (pc := 57) d_Re_takeTextPass_57 f_Re_22 sa (Or.inl ⟨_, rfl⟩) (r := r16) er16 ?_
      refine r_iconst (pc := 60) d_Re_takeTextPass_60 (v := 2) (by decide) ?_
      refine r_iload_n (pc := 61) d_Re_takeTextPass_61 (x := x11) rfl ?_
      refine r_imul (pc := 62) d_Re_takeTextPass_62 ?_
      refine r_iload_n (pc := 63) d_Re_takeTextPass_63 (x := x14) rfl ?_
      refine r_iadd (pc := 64) d_Re_takeTextPass_64 ?_
      obtain ⟨s17, h⟩ := h
      refine r_callV (pc := 65) (k := r16) (As := [.int (((2 : Int32) * x11) + x14)]) (rest := []) (mc' := 0) (ms' := 0) lk_Re_149 in_Gr_makePass se_Gr_makePass s17 rfl d_Re_takeTextPass_65 k_Gr_makePass rfl rfl (Nat.le_of_ble_eq_true rfl) (by decide) (by decide) (Sp.mono h ?_)
      rintro rS18 shS18 S18 ⟨qS18, x19, uS18, h⟩
      subst uS18
      rw [qS18]
      refine r_iconst (pc := 68) d_Re_takeTextPass_68 (v := (-1)) (by decide) ?_
      refine r_icmp_ne (pc := 69) d_Re_takeTextPass_69 (tgt := 81) (by decide) (fun c20 => ?_) (fun c20 => ?_)
      · replace h := h.1 c20
        refine r_aload_n (pc := 81) d_Re_takeTextPass_81 (x := a) rfl ?_
        obtain ⟨r21, er21, h⟩ := h
        refine r_getR (pc := 82) d_Re_takeTextPass_82 f_Re_12 sa (Or.inl ⟨_, rfl⟩) (r := r21) er21 ?_
        obtain ⟨s22, h⟩ := h
        refine r_callV (pc := 85) (k := r21) (As := []) (rest := []) (mc' := 0) (ms' := 0) lk_Re_106 in_To_advance se_To_advance s22 rfl d_Re_takeTextPass_85 k_To_advance rfl rfl (Nat.le_of_ble_eq_true rfl) (by decide) (by decide) (Sp.mono h ?_)
        rintro rS23 shS23 S23 ⟨qS23, uS23, h⟩
        subst uS23
        rw [qS23]
        refine r_aload_n (pc := 88) d_Re_takeTextPass_88 (x := a) rfl ?_
        obtain ⟨r24, er24, h⟩ := h
        refine r_getR (pc := 89) d_Re_takeTextPass_89 f_Re_12 sa (Or.inl ⟨_, rfl⟩) (r := r24) er24 ?_
        obtain ⟨s25, h⟩ := h
        refine r_callV (pc := 92) (k := r24) (As := []) (rest := []) (mc' := 0) (ms' := 0) lk_Re_116 in_To_takeSemicolon se_To_takeSemicolon s25 rfl d_Re_takeTextPass_92 k_To_takeSemicolon rfl rfl (Nat.le_of_ble_eq_true rfl) (by decide) (by decide) (Sp.mono h ?_)
        rintro rS26 shS26 S26 ⟨qS26, x27, uS26, h⟩
        subst uS26
        rw [qS26]
        obtain ⟨g28, h⟩ := h
        exact r_zreturn (pc := 95) d_Re_takeTextPass_95 rfl (aw_nb g28) rfl (Nat.le_refl _) ⟨rfl, _, rfl, h⟩
      · replace h := h.2 c20
        refine r_aload_n (pc := 72) d_Re_takeTextPass_72 (x := a) rfl ?_
        obtain ⟨r29, er29, h⟩ := h
        refine r_getR (pc := 73) d_Re_takeTextPass_73 f_Re_12 sa (Or.inl ⟨_, rfl⟩) (r := r29) er29 ?_
        refine r_iconst (pc := 76) d_Re_takeTextPass_76 (v := 5) (by decide) ?_
        obtain ⟨s30, h⟩ := h
        refine r_callV (pc := 77) (k := r29) (As := [.int 5]) (rest := []) (mc' := 0) (ms' := 0) lk_Re_82 in_To_blame se_To_blame s30 rfl d_Re_takeTextPass_77 k_To_blame rfl rfl (Nat.le_of_ble_eq_true rfl) (by decide) (by decide) (Sp.mono h ?_)
        rintro rS31 shS31 S31 ⟨qS31, x32, uS31, h⟩
        subst uS31
        rw [qS31]
        obtain ⟨g33, h⟩ := h
        exact r_zreturn (pc := 80) d_Re_takeTextPass_80 rfl (aw_nb g33) rfl (Nat.le_refl _) ⟨rfl, _, rfl, h⟩
    · replace h := h.2 c15
      refine r_aload_n (pc := 47) d_Re_takeTextPass_47 (x := a) rfl ?_
      obtain ⟨r34, er34, h⟩ := h
      refine r_getR (pc := 48) d_Re_takeTextPass_48 f_Re_12 sa (Or.inl ⟨_, rfl⟩) (r := r34) er34 ?_
      refine r_iconst (pc := 51) d_Re_takeTextPass_51 (v := 2) (by decide) ?_
      obtain ⟨s35, h⟩ := h
      refine r_callV (pc := 52) (k := r34) (As := [.int 2]) (rest := []) (mc' := 0) (ms' := 0) lk_Re_82 in_To_blame se_To_blame s35 rfl d_Re_takeTextPass_52 k_To_blame rfl rfl (Nat.le_of_ble_eq_true rfl) (by decide) (by decide) (Sp.mono h ?_)
      rintro rS36 shS36 S36 ⟨qS36, x37, uS36, h⟩
      subst uS36
      rw [qS36]
      obtain ⟨g38, h⟩ := h
      exact r_zreturn (pc := 55) d_Re_takeTextPass_55 rfl (aw_nb g38) rfl (Nat.le_refl _) ⟨rfl, _, rfl, h⟩
  · replace h := h.2 c12
    refine r_iconst (pc := 35) d_Re_takeTextPass_35 (v := 0) (by decide) ?_
    exact r_zreturn (pc := 36) d_Re_takeTextPass_36 (v := 0) rfl (by decide) rfl (Nat.le_refl _) ⟨rfl, _, rfl, h⟩
set_option maxRecDepth 4000 in
theorem e_Re_howOver {l : Launch} {d : Nat} {sh : aw_SH} {S : aw_S} {P : Int32 → aw_S → Prop} {a : Nat} (sa : sh[a]? = some (0, 5)) (h : ∃ r1, S.2.2 a 2 = some r1 ∧ sh[r1]? = some (0, 6) ∧ Sp l m_To_reservedWord d 0 0 [.ref r1] sh S (gI sh (fun x4 S3 => ((¬ x4 = 5 → ((¬ x4 = 6 → P (-1) S3) ∧ (x4 = 6 → P 0 S3))) ∧ (x4 = 5 → P 1 S3))))) : Sp l m_Re_howOver (d + 1) 0 0 [.ref a] sh S (gI sh P) := by
  refine Sp.of k_Re_howOver (ls := [.ref a, .null]) rfl (Nat.le_of_ble_eq_true rfl) ?_
  refine r_aload_n (pc := 0) d_Re_howOver_0 (x := a) rfl ?_
  obtain ⟨r1, er1, h⟩ := h
  refine r_getR (pc := 1) d_Re_howOver_1 f_Re_12 sa (Or.inl ⟨_, rfl⟩) (r := r1) er1 ?_
  obtain ⟨s2, h⟩ := h
  refine r_callV (pc := 4) (k := r1) (As := []) (rest := []) (mc' := 0) (ms' := 0) lk_Re_72 in_To_reservedWord se_To_reservedWord s2 rfl d_Re_howOver_4 k_To_reservedWord rfl rfl (Nat.le_of_ble_eq_true rfl) (by decide) (by decide) (Sp.mono h ?_)
  rintro rS3 shS3 S3 ⟨qS3, x4, uS3, h⟩
  subst uS3
  rw [qS3]
  refine r_istore_n (pc := 7) (hk := rfl) (hd := d_Re_howOver_7) (hi := by decide) (ls2 := [.ref a, .int x4]) (h2 := rfl) ?_
  refine r_iload_n (pc := 8) d_Re_howOver_8 (x := x4) rfl ?_
  refine r_iconst (pc := 9) d_Re_howOver_9 (v := 5) (by decide) ?_
  refine r_icmp_ne (pc := 10) d_Re_howOver_10 (tgt := 15) (by decide) (fun c5 => ?_) (fun c5 => ?_)
  · replace h := h.1 c5
    refine r_iload_n (pc := 15) d_Re_howOver_15 (x := x4) rfl ?_
    refine r_bipush (pc := 16) d_Re_howOver_16 (v := 6) (by decide) ?_
    refine r_icmp_ne (pc := 18) d_Re_howOver_18 (tgt := 25) (by decide) (fun c6 => ?_) (fun c6 => ?_)
    · replace h := h.1 c6
      refine r_iconst (pc := 25) d_Re_howOver_25 (v := (-1)) (by decide) ?_
      exact r_ireturn (pc := 26) d_Re_howOver_26 rfl rfl (Nat.le_refl _) ⟨rfl, _, rfl, h⟩
    · replace h := h.2 c6
      refine r_iconst (pc := 21) d_Re_howOver_21 (v := 0) (by decide) ?_
      refine r_goto (pc := 22) d_Re_howOver_22 (tgt := 26) (by decide) ?_
      exact r_ireturn (pc := 26) d_Re_howOver_26 rfl rfl (Nat.le_refl _) ⟨rfl, _, rfl, h⟩
  · replace h := h.2 c5
    refine r_iconst (pc := 13) d_Re_howOver_13 (v := 1) (by decide) ?_
    exact r_ireturn (pc := 14) d_Re_howOver_14 rfl rfl (Nat.le_refl _) ⟨rfl, _, rfl, h⟩
set_option maxRecDepth 4000 in
theorem e_Re_closeReading {l : Launch} {d : Nat} {sh : aw_SH} {S : aw_S} {P : aw_S → Prop} {a : Nat} (sa : sh[a]? = some (0, 5)) (h : ∃ r1, S.2.2 a 2 = some r1 ∧ sh[r1]? = some (0, 6) ∧ P (aw_uI (aw_uI S a 0 (S.1 r1 0)) a 1 ((aw_uI S a 0 (S.1 r1 0)).1 r1 1))) : Sp l m_Re_closeReading (d + 1) 0 0 [.ref a] sh S (gV sh P) := by
  refine Sp.of k_Re_closeReading (ls := [.ref a]) rfl (Nat.le_of_ble_eq_true rfl) ?_
  refine r_aload_n (pc := 0) d_Re_closeReading_0 (x := a) rfl ?_
  refine r_aload_n (pc := 1) d_Re_closeReading_1 (x := a) rfl ?_
  obtain ⟨r1, er1, h⟩ := h
  refine r_getR (pc := 2) d_Re_closeReading_2 f_Re_12 sa (Or.inl ⟨_, rfl⟩) (r := r1) er1 ?_
  obtain ⟨s2, h⟩ := h
  refine r_getI (pc := 5) d_Re_closeReading_5 f_Re_86 s2 rfl ?_
  refine r_putI (pc := 8) d_Re_closeReading_8 f_Re_89 sa rfl ?_
  refine r_aload_n (pc := 11) d_Re_closeReading_11 (x := a) rfl ?_
  refine r_aload_n (pc := 12) d_Re_closeReading_12 (x := a) rfl ?_
  refine r_getR (pc := 13) d_Re_closeReading_13 f_Re_12 sa (Or.inl ⟨_, rfl⟩) (r := r1) er1 ?_
  refine r_getI (pc := 16) d_Re_closeReading_16 f_Re_90 s2 rfl ?_
  refine r_putI (pc := 19) d_Re_closeReading_19 f_Re_93 sa rfl ?_
  exact r_return (pc := 22) d_Re_closeReading_22 rfl rfl (Nat.le_refl _) ⟨rfl, rfl, h⟩
set_option maxRecDepth 4000 in
theorem e_Re_readFeasts {l : Launch} {d : Nat} {sh : aw_SH} {S : aw_S} {P : aw_S → Prop} {a : Nat} {p0 : Nat} {p1 : Int32} {p2 : Nat} {p3 : Nat} (sa : sh[a]? = some (0, 5)) (h : ∃ r1, (aw_uR (aw_uR S a 3 (some p2)) a 4 (some p3)).2.2 a 4 = some r1 ∧ sh[r1]? = some (0, 4) ∧ Sp l m_Fe_clear d 0 0 [.ref r1] sh (aw_uR (aw_uR S a 3 (some p2)) a 4 (some p3)) (gV sh (fun S3 => ∃ r4, S3.2.2 a 4 = some r4 ∧ sh[r4]? = some (0, 4) ∧ ∃ r6, (aw_uI (aw_uI S3 r4 0 1) a 8 0).2.2 a 2 = some r6 ∧ sh[r6]? = some (0, 6) ∧ Sp l m_To_begin d 0 0 [.ref r6, .ref p0, .int p1] sh (aw_uI (aw_uI S3 r4 0 1) a 8 0) (gV sh (fun S8 => AW l m_Re_readFeasts (d + 1) 0 0 (gV sh P) 0 0 46 [.ref a, .null, .int p1, .null, .null, .int 1, .int 0] [] sh S8))))) : Sp l m_Re_readFeasts (d + 1) 0 0 [.ref a, .ref p0, .int p1, .ref p2, .ref p3] sh S (gV sh P) := by
  refine Sp.of k_Re_readFeasts (ls := [.ref a, .ref p0, .int p1, .ref p2, .ref p3, .null, .null]) rfl (Nat.le_of_ble_eq_true rfl) ?_
  refine r_aload_n (pc := 0) d_Re_readFeasts_0 (x := a) rfl ?_
  refine r_aload_n (pc := 1) d_Re_readFeasts_1 (x := p2) rfl ?_
  refine r_putR (pc := 2) d_Re_readFeasts_2 f_Re_22 sa (Or.inl ⟨_, rfl⟩) ?_
  refine r_aload_n (pc := 5) d_Re_readFeasts_5 (x := a) rfl ?_
  refine r_aload (pc := 6) d_Re_readFeasts_6 (x := p3) rfl ?_
  refine r_putR (pc := 8) d_Re_readFeasts_8 f_Re_59 sa (Or.inl ⟨_, rfl⟩) ?_
  refine r_aload_n (pc := 11) d_Re_readFeasts_11 (x := a) rfl ?_
  obtain ⟨r1, er1, h⟩ := h
  refine r_getR (pc := 12) d_Re_readFeasts_12 f_Re_59 sa (Or.inl ⟨_, rfl⟩) (r := r1) er1 ?_
  obtain ⟨s2, h⟩ := h
  refine r_callV (pc := 15) (k := r1) (As := []) (rest := []) (mc' := 0) (ms' := 0) lk_Re_63 in_Fe_clear se_Fe_clear s2 rfl d_Re_readFeasts_15 k_Fe_clear rfl rfl (Nat.le_of_ble_eq_true rfl) (by decide) (by decide) (Sp.mono h ?_)
  rintro rS3 shS3 S3 ⟨qS3, uS3, h⟩
  subst uS3
  rw [qS3]
  refine r_aload_n (pc := 18) d_Re_readFeasts_18 (x := a) rfl ?_
  obtain ⟨r4, er4, h⟩ := h
  refine r_getR (pc := 19) d_Re_readFeasts_19 f_Re_59 sa (Or.inl ⟨_, rfl⟩) (r := r4) er4 ?_
  refine r_iconst (pc := 22) d_Re_readFeasts_22 (v := 1) (by decide) ?_
  obtain ⟨s5, h⟩ := h
  refine r_putZ (pc := 23) d_Re_readFeasts_23 f_Re_66 s5 rfl (by decide) ?_
  refine r_aload_n (pc := 26) d_Re_readFeasts_26 (x := a) rfl ?_
  refine r_iconst (pc := 27) d_Re_readFeasts_27 (v := 0) (by decide) ?_
  refine r_putI (pc := 28) d_Re_readFeasts_28 f_Re_69 sa rfl ?_
  refine r_aload_n (pc := 31) d_Re_readFeasts_31 (x := a) rfl ?_
  obtain ⟨r6, er6, h⟩ := h
  refine r_getR (pc := 32) d_Re_readFeasts_32 f_Re_12 sa (Or.inl ⟨_, rfl⟩) (r := r6) er6 ?_
  refine r_aload_n (pc := 35) d_Re_readFeasts_35 (x := p0) rfl ?_
  refine r_iload_n (pc := 36) d_Re_readFeasts_36 (x := p1) rfl ?_
  obtain ⟨s7, h⟩ := h
  refine r_callV (pc := 37) (k := r6) (As := [.ref p0, .int p1]) (rest := []) (mc' := 0) (ms' := 0) lk_Re_41 in_To_begin se_To_begin s7 rfl d_Re_readFeasts_37 k_To_begin rfl rfl (Nat.le_of_ble_eq_true rfl) (by decide) (by decide) (Sp.mono h ?_)
  rintro rS8 shS8 S8 ⟨qS8, uS8, h⟩
  subst uS8
  rw [qS8]
  refine r_iconst (pc := 40) d_Re_readFeasts_40 (v := 1) (by decide) ?_
  refine r_istore (pc := 41) (hd := d_Re_readFeasts_41) (hi := by decide) (ls2 := [.ref a, .ref p0, .int p1, .ref p2, .ref p3, .int 1, .null]) (h2 := rfl) ?_
  refine r_iconst (pc := 43) d_Re_readFeasts_43 (v := 0) (by decide) ?_
  refine r_istore (pc := 44) (hd := d_Re_readFeasts_44) (hi := by decide) (ls2 := [.ref a, .ref p0, .int p1, .ref p2, .ref p3, .int 1, .int 0]) (h2 := rfl) ?_
  exact r_weak (ls2 := [.ref a, .null, .int p1, .null, .null, .int 1, .int 0]) ⟨Or.inr rfl, Or.inl rfl, Or.inr rfl, Or.inl rfl, Or.inl rfl, Or.inr rfl, Or.inr rfl, trivial⟩ h
set_option maxRecDepth 4000 in
theorem s_Re_readFeasts_46 {l : Launch} {d : Nat} {sh : aw_SH} {S : aw_S} {P : aw_S → Prop} {a : Nat} {i2 : Int32} {i5 : Int32} {i6 : Int32} (sa : sh[a]? = some (0, 5)) (h : ((i2 < i6 → ((i5 = 0 → Sp l m_Re_closeReading d 0 0 [.ref a] sh S (gV sh (fun S3 => P S3))) ∧ (¬ i5 = 0 → (((S.1 a 8) ≤ 0 → Sp l m_Re_closeReading d 0 0 [.ref a] sh S (gV sh (fun S5 => P S5))) ∧ (¬ (S.1 a 8) ≤ 0 → ∃ r6, S.2.2 a 2 = some r6 ∧ sh[r6]? = some (0, 6) ∧ Sp l m_To_blame d 0 0 [.ref r6, .int 2] sh S (gI sh (fun x9 S8 => Sp l m_Re_closeReading d 0 0 [.ref a] sh S8 (gV sh (fun S10 => P S10))))))))) ∧ (¬ i2 < i6 → ((i5 = 0 → ((i5 = 0 → Sp l m_Re_closeReading d 0 0 [.ref a] sh S (gV sh (fun S13 => P S13))) ∧ (¬ i5 = 0 → (((S.1 a 8) ≤ 0 → Sp l m_Re_closeReading d 0 0 [.ref a] sh S (gV sh (fun S15 => P S15))) ∧ (¬ (S.1 a 8) ≤ 0 → ∃ r16, S.2.2 a 2 = some r16 ∧ sh[r16]? = some (0, 6) ∧ Sp l m_To_blame d 0 0 [.ref r16, .int 2] sh S (gI sh (fun x19 S18 => Sp l m_Re_closeReading d 0 0 [.ref a] sh S18 (gV sh (fun S20 => P S20))))))))) ∧ (¬ i5 = 0 → ∃ r21, S.2.2 a 2 = some r21 ∧ sh[r21]? = some (0, 6) ∧ (((S.1 r21 2) = 0 → ((i5 = 0 → Sp l m_Re_closeReading d 0 0 [.ref a] sh S (gV sh (fun S25 => P S25))) ∧ (¬ i5 = 0 → (((S.1 a 8) ≤ 0 → Sp l m_Re_closeReading d 0 0 [.ref a] sh S (gV sh (fun S27 => P S27))) ∧ (¬ (S.1 a 8) ≤ 0 → Sp l m_To_blame d 0 0 [.ref r21, .int 2] sh S (gI sh (fun x29 S28 => Sp l m_Re_closeReading d 0 0 [.ref a] sh S28 (gV sh (fun S30 => P S30))))))))) ∧ (¬ (S.1 r21 2) = 0 → Sp l m_To_reservedWord d 0 0 [.ref r21] sh S (gI sh (fun x32 S31 => ((¬ x32 = 17 → Sp l m_Re_takeStep d 0 0 [.ref a] sh S31 (gI sh (fun x35 S34 => AW l m_Re_readFeasts (d + 1) 0 0 (gV sh P) 0 0 46 [.ref a, .null, .int i2, .null, .null, .int x35, .int (i6 + 1)] [] sh S34))) ∧ (x32 = 17 → Sp l m_Re_takeEnd d 0 0 [.ref a] sh S31 (gI sh (fun x37 S36 => AW l m_Re_readFeasts (d + 1) 0 0 (gV sh P) 0 0 46 [.ref a, .null, .int i2, .null, .null, .int x37, .int (i6 + 1)] [] sh S36))))))))))))) : AW l m_Re_readFeasts (d + 1) 0 0 (gV sh P) 0 0 46 [.ref a, .null, .int i2, .null, .null, .int i5, .int i6] [] sh S := by
  refine r_iload (pc := 46) d_Re_readFeasts_46 (x := i6) rfl ?_
  refine r_iload_n (pc := 48) d_Re_readFeasts_48 (x := i2) rfl ?_
  refine r_icmp_gt (pc := 49) d_Re_readFeasts_49 (tgt := 98) (by decide) (fun c1 => ?_) (fun c1 => ?_)
  · replace h := h.1 c1
    refine r_iload (pc := 98) d_Re_readFeasts_98 (x := i5) rfl ?_
    refine r_if_eq (pc := 100) d_Re_readFeasts_100 (tgt := 119) (by decide) (fun c2 => ?_) (fun c2 => ?_)
    · replace h := h.1 c2
      refine r_aload_n (pc := 119) d_Re_readFeasts_119 (x := a) rfl ?_
      refine r_callV (pc := 120) (k := a) (As := []) (rest := []) (mc' := 0) (ms' := 0) lk_Re_56 in_Re_closeReading se_Re_closeReading sa rfl d_Re_readFeasts_120 k_Re_closeReading rfl rfl (Nat.le_of_ble_eq_true rfl) (by decide) (by decide) (Sp.mono h ?_)
      rintro rS3 shS3 S3 ⟨qS3, uS3, h⟩
      subst uS3
      rw [qS3]
      exact r_return (pc := 123) d_Re_readFeasts_123 rfl rfl (Nat.le_refl _) ⟨rfl, rfl, h⟩
    · replace h := h.2 c2
      refine r_aload_n (pc := 103) d_Re_readFeasts_103 (x := a) rfl ?_
      refine r_getI (pc := 104) d_Re_readFeasts_104 f_Re_69 sa rfl ?_
      refine r_if_le (pc := 107) d_Re_readFeasts_107 (tgt := 119) (by decide) (fun c4 => ?_) (fun c4 => ?_)
      · replace h := h.1 c4
        refine r_aload_n (pc := 119) d_Re_readFeasts_119 (x := a) rfl ?_
        refine r_callV (pc := 120) (k := a) (As := []) (rest := []) (mc' := 0) (ms' := 0) lk_Re_56 in_Re_closeReading se_Re_closeReading sa rfl d_Re_readFeasts_120 k_Re_closeReading rfl rfl (Nat.le_of_ble_eq_true rfl) (by decide) (by decide) (Sp.mono h ?_)
        rintro rS5 shS5 S5 ⟨qS5, uS5, h⟩
        subst uS5
        rw [qS5]
        exact r_return (pc := 123) d_Re_readFeasts_123 rfl rfl (Nat.le_refl _) ⟨rfl, rfl, h⟩
      · replace h := h.2 c4
        refine r_aload_n (pc := 110) d_Re_readFeasts_110 (x := a) rfl ?_
        obtain ⟨r6, er6, h⟩ := h
        refine r_getR (pc := 111) d_Re_readFeasts_111 f_Re_12 sa (Or.inl ⟨_, rfl⟩) (r := r6) er6 ?_
        refine r_iconst (pc := 114) d_Re_readFeasts_114 (v := 2) (by decide) ?_
        obtain ⟨s7, h⟩ := h
        refine r_callV (pc := 115) (k := r6) (As := [.int 2]) (rest := []) (mc' := 0) (ms' := 0) lk_Re_82 in_To_blame se_To_blame s7 rfl d_Re_readFeasts_115 k_To_blame rfl rfl (Nat.le_of_ble_eq_true rfl) (by decide) (by decide) (Sp.mono h ?_)
        rintro rS8 shS8 S8 ⟨qS8, x9, uS8, h⟩
        subst uS8
        rw [qS8]
        refine r_pop (pc := 118) d_Re_readFeasts_118 rfl ?_
        refine r_aload_n (pc := 119) d_Re_readFeasts_119 (x := a) rfl ?_
        refine r_callV (pc := 120) (k := a) (As := []) (rest := []) (mc' := 0) (ms' := 0) lk_Re_56 in_Re_closeReading se_Re_closeReading sa rfl d_Re_readFeasts_120 k_Re_closeReading rfl rfl (Nat.le_of_ble_eq_true rfl) (by decide) (by decide) (Sp.mono h ?_)
        rintro rS10 shS10 S10 ⟨qS10, uS10, h⟩
        subst uS10
        rw [qS10]
        exact r_return (pc := 123) d_Re_readFeasts_123 rfl rfl (Nat.le_refl _) ⟨rfl, rfl, h⟩
  · replace h := h.2 c1
    refine r_iload (pc := 52) d_Re_readFeasts_52 (x := i5) rfl ?_
    refine r_if_eq (pc := 54) d_Re_readFeasts_54 (tgt := 98) (by decide) (fun c11 => ?_) (fun c11 => ?_)
    · replace h := h.1 c11
      refine r_iload (pc := 98) d_Re_readFeasts_98 (x := i5) rfl ?_
      refine r_if_eq (pc := 100) d_Re_readFeasts_100 (tgt := 119) (by decide) (fun c12 => ?_) (fun c12 => ?_)
      · replace h := h.1 c12
        refine r_aload_n (pc := 119) d_Re_readFeasts_119 (x := a) rfl ?_
        refine r_callV (pc := 120) (k := a) (As := []) (rest := []) (mc' := 0) (ms' := 0) lk_Re_56 in_Re_closeReading se_Re_closeReading sa rfl d_Re_readFeasts_120 k_Re_closeReading rfl rfl (Nat.le_of_ble_eq_true rfl) (by decide) (by decide) (Sp.mono h ?_)
        rintro rS13 shS13 S13 ⟨qS13, uS13, h⟩
        subst uS13
        rw [qS13]
        exact r_return (pc := 123) d_Re_readFeasts_123 rfl rfl (Nat.le_refl _) ⟨rfl, rfl, h⟩
      · replace h := h.2 c12
        refine r_aload_n (pc := 103) d_Re_readFeasts_103 (x := a) rfl ?_
        refine r_getI (pc := 104) d_Re_readFeasts_104 f_Re_69 sa rfl ?_
        refine r_if_le (pc := 107) d_Re_readFeasts_107 (tgt := 119) (by decide) (fun c14 => ?_) (fun c14 => ?_)
        · replace h := h.1 c14
          refine r_aload_n (pc := 119) d_Re_readFeasts_119 (x := a) rfl ?_
          refine r_callV (pc := 120) (k := a) (As := []) (rest := []) (mc' := 0) (ms' := 0) lk_Re_56 in_Re_closeReading se_Re_closeReading sa rfl d_Re_readFeasts_120 k_Re_closeReading rfl rfl (Nat.le_of_ble_eq_true rfl) (by decide) (by decide) (Sp.mono h ?_)
          rintro rS15 shS15 S15 ⟨qS15, uS15, h⟩
          subst uS15
          rw [qS15]
          exact r_return (pc := 123) d_Re_readFeasts_123 rfl rfl (Nat.le_refl _) ⟨rfl, rfl, h⟩
        · replace h := h.2 c14
          refine r_aload_n (pc := 110) d_Re_readFeasts_110 (x := a) rfl ?_
          obtain ⟨r16, er16, h⟩ := h
          refine r_getR (pc := 111) d_Re_readFeasts_111 f_Re_12 sa (Or.inl ⟨_, rfl⟩) (r := r16) er16 ?_
          refine r_iconst (pc := 114) d_Re_readFeasts_114 (v := 2) (by decide) ?_
          obtain ⟨s17, h⟩ := h
          refine r_callV (pc := 115) (k := r16) (As := [.int 2]) (rest := []) (mc' := 0) (ms' := 0) lk_Re_82 in_To_blame se_To_blame s17 rfl d_Re_readFeasts_115 k_To_blame rfl rfl (Nat.le_of_ble_eq_true rfl) (by decide) (by decide) (Sp.mono h ?_)
          rintro rS18 shS18 S18 ⟨qS18, x19, uS18, h⟩
          subst uS18
          rw [qS18]
          refine r_pop (pc := 118) d_Re_readFeasts_118 rfl ?_
          refine r_aload_n (pc := 119) d_Re_readFeasts_119 (x := a) rfl ?_
          refine r_callV (pc := 120) (k := a) (As := []) (rest := []) (mc' := 0) (ms' := 0) lk_Re_56 in_Re_closeReading se_Re_closeReading sa rfl d_Re_readFeasts_120 k_Re_closeReading rfl rfl (Nat.le_of_ble_eq_true rfl) (by decide) (by decide) (Sp.mono h ?_)
          rintro rS20 shS20 S20 ⟨qS20, uS20, h⟩
          subst uS20
          rw [qS20]
          exact r_return (pc := 123) d_Re_readFeasts_123 rfl rfl (Nat.le_refl _) ⟨rfl, rfl, h⟩
    · replace h := h.2 c11
      refine r_aload_n (pc := 57) d_Re_readFeasts_57 (x := a) rfl ?_
      obtain ⟨r21, er21, h⟩ := h
      refine r_getR (pc := 58) d_Re_readFeasts_58 f_Re_12 sa (Or.inl ⟨_, rfl⟩) (r := r21) er21 ?_
      obtain ⟨s22, h⟩ := h
      refine r_getI (pc := 61) d_Re_readFeasts_61 f_Re_45 s22 rfl ?_
      refine r_if_eq (pc := 64) d_Re_readFeasts_64 (tgt := 98) (by decide) (fun c23 => ?_) (fun c23 => ?_)
      · replace h := h.1 c23
        refine r_iload (pc := 98) d_Re_readFeasts_98 (x := i5) rfl ?_
        refine r_if_eq (pc := 100) d_Re_readFeasts_100 (tgt := 119) (by decide) (fun c24 => ?_) (fun c24 => ?_)
        · replace h := h.1 c24
          refine r_aload_n (pc := 119) d_Re_readFeasts_119 (x := a) rfl ?_
          refine r_callV (pc := 120) (k := a) (As := []) (rest := []) (mc' := 0) (ms' := 0) lk_Re_56 in_Re_closeReading se_Re_closeReading sa rfl d_Re_readFeasts_120 k_Re_closeReading rfl rfl (Nat.le_of_ble_eq_true rfl) (by decide) (by decide) (Sp.mono h ?_)
          rintro rS25 shS25 S25 ⟨qS25, uS25, h⟩
          subst uS25
          rw [qS25]
          exact r_return (pc := 123) d_Re_readFeasts_123 rfl rfl (Nat.le_refl _) ⟨rfl, rfl, h⟩
        · replace h := h.2 c24
          refine r_aload_n (pc := 103) d_Re_readFeasts_103 (x := a) rfl ?_
          refine r_getI (pc := 104) d_Re_readFeasts_104 f_Re_69 sa rfl ?_
          refine r_if_le (pc := 107) d_Re_readFeasts_107 (tgt := 119) (by decide) (fun c26 => ?_) (fun c26 => ?_)
          · replace h := h.1 c26
            refine r_aload_n (pc := 119) d_Re_readFeasts_119 (x := a) rfl ?_
            refine r_callV (pc := 120) (k := a) (As := []) (rest := []) (mc' := 0) (ms' := 0) lk_Re_56 in_Re_closeReading se_Re_closeReading sa rfl d_Re_readFeasts_120 k_Re_closeReading rfl rfl (Nat.le_of_ble_eq_true rfl) (by decide) (by decide) (Sp.mono h ?_)
            rintro rS27 shS27 S27 ⟨qS27, uS27, h⟩
            subst uS27
            rw [qS27]
            exact r_return (pc := 123) d_Re_readFeasts_123 rfl rfl (Nat.le_refl _) ⟨rfl, rfl, h⟩
          · replace h := h.2 c26
            refine r_aload_n (pc := 110) d_Re_readFeasts_110 (x := a) rfl ?_
            refine r_getR (pc := 111) d_Re_readFeasts_111 f_Re_12 sa (Or.inl ⟨_, rfl⟩) (r := r21) er21 ?_
            refine r_iconst (pc := 114) d_Re_readFeasts_114 (v := 2) (by decide) ?_
            refine r_callV (pc := 115) (k := r21) (As := [.int 2]) (rest := []) (mc' := 0) (ms' := 0) lk_Re_82 in_To_blame se_To_blame s22 rfl d_Re_readFeasts_115 k_To_blame rfl rfl (Nat.le_of_ble_eq_true rfl) (by decide) (by decide) (Sp.mono h ?_)
            rintro rS28 shS28 S28 ⟨qS28, x29, uS28, h⟩
            subst uS28
            rw [qS28]
            refine r_pop (pc := 118) d_Re_readFeasts_118 rfl ?_
            refine r_aload_n (pc := 119) d_Re_readFeasts_119 (x := a) rfl ?_
            refine r_callV (pc := 120) (k := a) (As := []) (rest := []) (mc' := 0) (ms' := 0) lk_Re_56 in_Re_closeReading se_Re_closeReading sa rfl d_Re_readFeasts_120 k_Re_closeReading rfl rfl (Nat.le_of_ble_eq_true rfl) (by decide) (by decide) (Sp.mono h ?_)
            rintro rS30 shS30 S30 ⟨qS30, uS30, h⟩
            subst uS30
            rw [qS30]
            exact r_return (pc := 123) d_Re_readFeasts_123 rfl rfl (Nat.le_refl _) ⟨rfl, rfl, h⟩
      · replace h := h.2 c23
        refine r_aload_n (pc := 67) d_Re_readFeasts_67 (x := a) rfl ?_
        refine r_getR (pc := 68) d_Re_readFeasts_68 f_Re_12 sa (Or.inl ⟨_, rfl⟩) (r := r21) er21 ?_
        refine r_callV (pc := 71) (k := r21) (As := []) (rest := []) (mc' := 0) (ms' := 0) lk_Re_72 in_To_reservedWord se_To_reservedWord s22 rfl d_Re_readFeasts_71 k_To_reservedWord rfl rfl (Nat.le_of_ble_eq_true rfl) (by decide) (by decide) (Sp.mono h ?_)
        rintro rS31 shS31 S31 ⟨qS31, x32, uS31, h⟩
        subst uS31
        rw [qS31]
        refine r_bipush (pc := 74) d_Re_readFeasts_74 (v := 17) (by decide) ?_
        refine r_icmp_ne (pc := 76) d_Re_readFeasts_76 (tgt := 86) (by decide) (fun c33 => ?_) (fun c33 => ?_)
        · replace h := h.1 c33
          refine r_aload_n (pc := 86) d_Re_readFeasts_86 (x := a) rfl ?_
          refine r_callV (pc := 87) (k := a) (As := []) (rest := []) (mc' := 0) (ms' := 0) lk_Re_79 in_Re_takeStep se_Re_takeStep sa rfl d_Re_readFeasts_87 k_Re_takeStep rfl rfl (Nat.le_of_ble_eq_true rfl) (by decide) (by decide) (Sp.mono h ?_)
          rintro rS34 shS34 S34 ⟨qS34, x35, uS34, h⟩
          subst uS34
          rw [qS34]
          refine r_istore (pc := 90) (hd := d_Re_readFeasts_90) (hi := by decide) (ls2 := [.ref a, .null, .int i2, .null, .null, .int x35, .int i6]) (h2 := rfl) ?_
          refine r_iinc (pc := 92) d_Re_readFeasts_92 (hi := by decide) (x := i6) rfl (v := i6 + 1) rfl (ls2 := [.ref a, .null, .int i2, .null, .null, .int x35, .int (i6 + 1)]) rfl ?_
          refine r_goto (pc := 95) d_Re_readFeasts_95 (tgt := 46) (by decide) ?_
          exact h
        · replace h := h.2 c33
          refine r_aload_n (pc := 79) d_Re_readFeasts_79 (x := a) rfl ?_
          refine r_callV (pc := 80) (k := a) (As := []) (rest := []) (mc' := 0) (ms' := 0) lk_Re_76 in_Re_takeEnd se_Re_takeEnd sa rfl d_Re_readFeasts_80 k_Re_takeEnd rfl rfl (Nat.le_of_ble_eq_true rfl) (by decide) (by decide) (Sp.mono h ?_)
          rintro rS36 shS36 S36 ⟨qS36, x37, uS36, h⟩
          subst uS36
          rw [qS36]
          refine r_goto (pc := 83) d_Re_readFeasts_83 (tgt := 90) (by decide) ?_
          refine r_istore (pc := 90) (hd := d_Re_readFeasts_90) (hi := by decide) (ls2 := [.ref a, .null, .int i2, .null, .null, .int x37, .int i6]) (h2 := rfl) ?_
          refine r_iinc (pc := 92) d_Re_readFeasts_92 (hi := by decide) (x := i6) rfl (v := i6 + 1) rfl (ls2 := [.ref a, .null, .int i2, .null, .null, .int x37, .int (i6 + 1)]) rfl ?_
          refine r_goto (pc := 95) d_Re_readFeasts_95 (tgt := 46) (by decide) ?_
          exact h
set_option maxRecDepth 4000 in
theorem e_Re_takeEnd {l : Launch} {d : Nat} {sh : aw_SH} {S : aw_S} {P : Int32 → aw_S → Prop} {a : Nat} (sa : sh[a]? = some (0, 5)) (h : ((¬ (S.1 a 8) = 0 → ∃ r2, (aw_uI S a 8 ((S.1 a 8) - (1 : Int32))).2.2 a 4 = some r2 ∧ sh[r2]? = some (0, 4) ∧ ∃ r4, (aw_uI S a 8 ((S.1 a 8) - (1 : Int32))).2.2 r2 6 = some r4 ∧ ∃ r5, (aw_uI S a 8 ((S.1 a 8) - (1 : Int32))).2.2 a 9 = some r5 ∧ ∃ n7, sh[r5]? = some (3, n7) ∧ vp_in ((aw_uI S a 8 ((S.1 a 8) - (1 : Int32))).1 a 8) n7 ∧ ∃ n10, sh[r4]? = some (3, n10) ∧ vp_in ((aw_uI S a 8 ((S.1 a 8) - (1 : Int32))).1 r5 ((aw_uI S a 8 ((S.1 a 8) - (1 : Int32))).1 a 8 : Int32).toNatClampNeg) n10 ∧ ∃ r12, (aw_uI (aw_uI S a 8 ((S.1 a 8) - (1 : Int32))) r4 (((aw_uI S a 8 ((S.1 a 8) - (1 : Int32))).1 r5 ((aw_uI S a 8 ((S.1 a 8) - (1 : Int32))).1 a 8 : Int32).toNatClampNeg : Int32).toNatClampNeg) ((aw_uI S a 8 ((S.1 a 8) - (1 : Int32))).1 r2 1)).2.2 a 2 = some r12 ∧ sh[r12]? = some (0, 6) ∧ Sp l m_To_advance d 0 0 [.ref r12] sh (aw_uI (aw_uI S a 8 ((S.1 a 8) - (1 : Int32))) r4 (((aw_uI S a 8 ((S.1 a 8) - (1 : Int32))).1 r5 ((aw_uI S a 8 ((S.1 a 8) - (1 : Int32))).1 a 8 : Int32).toNatClampNeg : Int32).toNatClampNeg) ((aw_uI S a 8 ((S.1 a 8) - (1 : Int32))).1 r2 1)) (gV sh (fun S14 => ∃ r15, S14.2.2 a 2 = some r15 ∧ sh[r15]? = some (0, 6) ∧ Sp l m_To_takeSemicolon d 0 0 [.ref r15] sh S14 (gI sh (fun x18 S17 => ((x18 = 0 ∨ x18 = 1) ∧ P x18 S17)))))) ∧ ((S.1 a 8) = 0 → ∃ r20, S.2.2 a 2 = some r20 ∧ sh[r20]? = some (0, 6) ∧ Sp l m_To_blame d 0 0 [.ref r20, .int 2] sh S (gI sh (fun x23 S22 => ((x23 = 0 ∨ x23 = 1) ∧ P x23 S22)))))) : Sp l m_Re_takeEnd (d + 1) 0 0 [.ref a] sh S (gI sh P) := by
  refine Sp.of k_Re_takeEnd (ls := [.ref a]) rfl (Nat.le_of_ble_eq_true rfl) ?_
  refine r_aload_n (pc := 0) d_Re_takeEnd_0 (x := a) rfl ?_
  refine r_getI (pc := 1) d_Re_takeEnd_1 f_Re_69 sa rfl ?_
  refine r_if_ne (pc := 4) d_Re_takeEnd_4 (tgt := 16) (by decide) (fun c1 => ?_) (fun c1 => ?_)
  · replace h := h.1 c1
    refine r_aload_n (pc := 16) d_Re_takeEnd_16 (x := a) rfl ?_
    refine r_dup (pc := 17) d_Re_takeEnd_17 rfl ?_
    refine r_getI (pc := 18) d_Re_takeEnd_18 f_Re_69 sa rfl ?_
    refine r_iconst (pc := 21) d_Re_takeEnd_21 (v := 1) (by decide) ?_
    refine r_isub (pc := 22) d_Re_takeEnd_22 ?_
    refine r_putI (pc := 23) d_Re_takeEnd_23 f_Re_69 sa rfl ?_
    refine r_aload_n (pc := 26) d_Re_takeEnd_26 (x := a) rfl ?_
    obtain ⟨r2, er2, h⟩ := h
    refine r_getR (pc := 27) d_Re_takeEnd_27 f_Re_59 sa (Or.inl ⟨_, rfl⟩) (r := r2) er2 ?_
    obtain ⟨s3, h⟩ := h
    obtain ⟨r4, er4, h⟩ := h
    refine r_getR (pc := 30) d_Re_takeEnd_30 f_Re_153 s3 (Or.inr ⟨_, rfl⟩) (r := r4) er4 ?_
    refine r_aload_n (pc := 33) d_Re_takeEnd_33 (x := a) rfl ?_
    obtain ⟨r5, er5, h⟩ := h
    refine r_getR (pc := 34) d_Re_takeEnd_34 f_Re_18 sa (Or.inr ⟨_, rfl⟩) (r := r5) er5 ?_
    refine r_aload_n (pc := 37) d_Re_takeEnd_37 (x := a) rfl ?_
    refine r_getI (pc := 38) d_Re_takeEnd_38 f_Re_69 sa rfl ?_
    obtain ⟨n7, s6, h⟩ := h
    obtain ⟨g8, h⟩ := h
    refine r_iald (pc := 41) d_Re_takeEnd_41 s6 g8 ?_
    refine r_aload_n (pc := 42) d_Re_takeEnd_42 (x := a) rfl ?_
    refine r_getR (pc := 43) d_Re_takeEnd_43 f_Re_59 sa (Or.inl ⟨_, rfl⟩) (r := r2) er2 ?_
    refine r_getI (pc := 46) d_Re_takeEnd_46 f_Re_156 s3 rfl ?_
    obtain ⟨n10, s9, h⟩ := h
    obtain ⟨g11, h⟩ := h
    refine r_iast (pc := 49) d_Re_takeEnd_49 s9 g11 ?_
    refine r_aload_n (pc := 50) d_Re_takeEnd_50 (x := a) rfl ?_
    obtain ⟨r12, er12, h⟩ := h
    refine r_getR (pc := 51) d_Re_takeEnd_51 f_Re_12 sa (Or.inl ⟨_, rfl⟩) (r := r12) er12 ?_
    obtain ⟨s13, h⟩ := h
    refine r_callV (pc := 54) (k := r12) (As := []) (rest := []) (mc' := 0) (ms' := 0) lk_Re_106 in_To_advance se_To_advance s13 rfl d_Re_takeEnd_54 k_To_advance rfl rfl (Nat.le_of_ble_eq_true rfl) (by decide) (by decide) (Sp.mono h ?_)
    rintro rS14 shS14 S14 ⟨qS14, uS14, h⟩
    subst uS14
    rw [qS14]
    refine r_aload_n (pc := 57) d_Re_takeEnd_57 (x := a) rfl ?_
    obtain ⟨r15, er15, h⟩ := h
    refine r_getR (pc := 58) d_Re_takeEnd_58 f_Re_12 sa (Or.inl ⟨_, rfl⟩) (r := r15) er15 ?_
    obtain ⟨s16, h⟩ := h
    refine r_callV (pc := 61) (k := r15) (As := []) (rest := []) (mc' := 0) (ms' := 0) lk_Re_116 in_To_takeSemicolon se_To_takeSemicolon s16 rfl d_Re_takeEnd_61 k_To_takeSemicolon rfl rfl (Nat.le_of_ble_eq_true rfl) (by decide) (by decide) (Sp.mono h ?_)
    rintro rS17 shS17 S17 ⟨qS17, x18, uS17, h⟩
    subst uS17
    rw [qS17]
    obtain ⟨g19, h⟩ := h
    exact r_zreturn (pc := 64) d_Re_takeEnd_64 rfl (aw_nb g19) rfl (Nat.le_refl _) ⟨rfl, _, rfl, h⟩
  · replace h := h.2 c1
    refine r_aload_n (pc := 7) d_Re_takeEnd_7 (x := a) rfl ?_
    obtain ⟨r20, er20, h⟩ := h
    refine r_getR (pc := 8) d_Re_takeEnd_8 f_Re_12 sa (Or.inl ⟨_, rfl⟩) (r := r20) er20 ?_
    refine r_iconst (pc := 11) d_Re_takeEnd_11 (v := 2) (by decide) ?_
    obtain ⟨s21, h⟩ := h
    refine r_callV (pc := 12) (k := r20) (As := [.int 2]) (rest := []) (mc' := 0) (ms' := 0) lk_Re_82 in_To_blame se_To_blame s21 rfl d_Re_takeEnd_12 k_To_blame rfl rfl (Nat.le_of_ble_eq_true rfl) (by decide) (by decide) (Sp.mono h ?_)
    rintro rS22 shS22 S22 ⟨qS22, x23, uS22, h⟩
    subst uS22
    rw [qS22]
    obtain ⟨g24, h⟩ := h
    exact r_zreturn (pc := 15) d_Re_takeEnd_15 rfl (aw_nb g24) rfl (Nat.le_refl _) ⟨rfl, _, rfl, h⟩
set_option maxRecDepth 4000 in
theorem e_Re_takeStep {l : Launch} {d : Nat} {sh : aw_SH} {S : aw_S} {P : Int32 → aw_S → Prop} {a : Nat} (sa : sh[a]? = some (0, 5)) (h : ∃ r1, S.2.2 a 2 = some r1 ∧ sh[r1]? = some (0, 6) ∧ Sp l m_To_reservedWord d 0 0 [.ref r1] sh S (gI sh (fun x4 S3 => Sp l m_Re_isStep d 0 0 [.int x4] sh S3 (gI sh (fun x6 S5 => ((¬ x6 = 0 → ∃ r8, S5.2.2 a 4 = some r8 ∧ sh[r8]? = some (0, 4) ∧ (((S5.1 r8 1) < 30 → ((x4 = 11 → AW l m_Re_takeStep (d + 1) 0 0 (gI sh P) 0 0 64 [.ref a, .int x4, .int 1, .null, .null] [] sh S5) ∧ (¬ x4 = 11 → ((¬ x4 = 16 → AW l m_Re_takeStep (d + 1) 0 0 (gI sh P) 0 0 64 [.ref a, .int x4, .int 0, .null, .null] [] sh S5) ∧ (x4 = 16 → AW l m_Re_takeStep (d + 1) 0 0 (gI sh P) 0 0 64 [.ref a, .int x4, .int 1, .null, .null] [] sh S5))))) ∧ (¬ (S5.1 r8 1) < 30 → ∃ r13, S5.2.2 a 2 = some r13 ∧ sh[r13]? = some (0, 6) ∧ Sp l m_To_blame d 0 0 [.ref r13, .int 6] sh S5 (gI sh (fun x16 S15 => ((x16 = 0 ∨ x16 = 1) ∧ P x16 S15)))))) ∧ (x6 = 0 → ∃ r18, S5.2.2 a 2 = some r18 ∧ sh[r18]? = some (0, 6) ∧ Sp l m_To_blame d 0 0 [.ref r18, .int 2] sh S5 (gI sh (fun x21 S20 => ((x21 = 0 ∨ x21 = 1) ∧ P x21 S20)))))))))) : Sp l m_Re_takeStep (d + 1) 0 0 [.ref a] sh S (gI sh P) := by
  refine Sp.of k_Re_takeStep (ls := [.ref a, .null, .null, .null, .null]) rfl (Nat.le_of_ble_eq_true rfl) ?_
  refine r_aload_n (pc := 0) d_Re_takeStep_0 (x := a) rfl ?_
  obtain ⟨r1, er1, h⟩ := h
  refine r_getR (pc := 1) d_Re_takeStep_1 f_Re_12 sa (Or.inl ⟨_, rfl⟩) (r := r1) er1 ?_
  obtain ⟨s2, h⟩ := h
  refine r_callV (pc := 4) (k := r1) (As := []) (rest := []) (mc' := 0) (ms' := 0) lk_Re_72 in_To_reservedWord se_To_reservedWord s2 rfl d_Re_takeStep_4 k_To_reservedWord rfl rfl (Nat.le_of_ble_eq_true rfl) (by decide) (by decide) (Sp.mono h ?_)
  rintro rS3 shS3 S3 ⟨qS3, x4, uS3, h⟩
  subst uS3
  rw [qS3]
  refine r_istore_n (pc := 7) (hk := rfl) (hd := d_Re_takeStep_7) (hi := by decide) (ls2 := [.ref a, .int x4, .null, .null, .null]) (h2 := rfl) ?_
  refine r_iload_n (pc := 8) d_Re_takeStep_8 (x := x4) rfl ?_
  refine r_callS (pc := 9) (k := 0) (As := [.int x4]) (rest := []) (mc' := 0) (ms' := 0) lk_Re_159 st_Re_isStep d_Re_takeStep_9 k_Re_isStep rfl rfl (Nat.le_of_ble_eq_true rfl) (by decide) (by decide) (Sp.mono h ?_)
  rintro rS5 shS5 S5 ⟨qS5, x6, uS5, h⟩
  subst uS5
  rw [qS5]
  refine r_if_ne (pc := 12) d_Re_takeStep_12 (tgt := 24) (by decide) (fun c7 => ?_) (fun c7 => ?_)
  · replace h := h.1 c7
    refine r_aload_n (pc := 24) d_Re_takeStep_24 (x := a) rfl ?_
    obtain ⟨r8, er8, h⟩ := h
    refine r_getR (pc := 25) d_Re_takeStep_25 f_Re_59 sa (Or.inl ⟨_, rfl⟩) (r := r8) er8 ?_
    obtain ⟨s9, h⟩ := h
    refine r_getI (pc := 28) d_Re_takeStep_28 f_Re_156 s9 rfl ?_
    refine r_bipush (pc := 31) d_Re_takeStep_31 (v := 30) (by decide) ?_
    refine r_icmp_lt (pc := 33) d_Re_takeStep_33 (tgt := 46) (by decide) (fun c10 => ?_) (fun c10 => ?_)
    · replace h := h.1 c10
      refine r_iload_n (pc := 46) d_Re_takeStep_46 (x := x4) rfl ?_
      refine r_bipush (pc := 47) d_Re_takeStep_47 (v := 11) (by decide) ?_
      refine r_icmp_eq (pc := 49) d_Re_takeStep_49 (tgt := 58) (by decide) (fun c11 => ?_) (fun c11 => ?_)
      · replace h := h.1 c11
        refine r_iconst (pc := 58) d_Re_takeStep_58 (v := 1) (by decide) ?_
        refine r_goto (pc := 59) d_Re_takeStep_59 (tgt := 63) (by decide) ?_
        refine r_istore_n (pc := 63) (hk := rfl) (hd := d_Re_takeStep_63) (hi := by decide) (ls2 := [.ref a, .int x4, .int 1, .null, .null]) (h2 := rfl) ?_
        exact h
      · replace h := h.2 c11
        refine r_iload_n (pc := 52) d_Re_takeStep_52 (x := x4) rfl ?_
        refine r_bipush (pc := 53) d_Re_takeStep_53 (v := 16) (by decide) ?_
        refine r_icmp_ne (pc := 55) d_Re_takeStep_55 (tgt := 62) (by decide) (fun c12 => ?_) (fun c12 => ?_)
        · replace h := h.1 c12
          refine r_iconst (pc := 62) d_Re_takeStep_62 (v := 0) (by decide) ?_
          refine r_istore_n (pc := 63) (hk := rfl) (hd := d_Re_takeStep_63) (hi := by decide) (ls2 := [.ref a, .int x4, .int 0, .null, .null]) (h2 := rfl) ?_
          exact h
        · replace h := h.2 c12
          refine r_iconst (pc := 58) d_Re_takeStep_58 (v := 1) (by decide) ?_
          refine r_goto (pc := 59) d_Re_takeStep_59 (tgt := 63) (by decide) ?_
          refine r_istore_n (pc := 63) (hk := rfl) (hd := d_Re_takeStep_63) (hi := by decide) (ls2 := [.ref a, .int x4, .int 1, .null, .null]) (h2 := rfl) ?_
          exact h
    · replace h := h.2 c10
      refine r_aload_n (pc := 36) d_Re_takeStep_36 (x := a) rfl ?_
      obtain ⟨r13, er13, h⟩ := h
      refine r_getR (pc := 37) d_Re_takeStep_37 f_Re_12 sa (Or.inl ⟨_, rfl⟩) (r := r13) er13 ?_
      refine r_bipush (pc := 40) d_Re_takeStep_40 (v := 6) (by decide) ?_
      obtain ⟨s14, h⟩ := h
      refine r_callV (pc := 42) (k := r13) (As := [.int 6]) (rest := []) (mc' := 0) (ms' := 0) lk_Re_82 in_To_blame se_To_blame s14 rfl d_Re_takeStep_42 k_To_blame rfl rfl (Nat.le_of_ble_eq_true rfl) (by decide) (by decide) (Sp.mono h ?_)
      rintro rS15 shS15 S15 ⟨qS15, x16, uS15, h⟩
      subst uS15
      rw [qS15]
      obtain ⟨g17, h⟩ := h
      exact r_zreturn (pc := 45) d_Re_takeStep_45 rfl (aw_nb g17) rfl (Nat.le_refl _) ⟨rfl, _, rfl, h⟩
  · replace h := h.2 c7
    refine r_aload_n (pc := 15) d_Re_takeStep_15 (x := a) rfl ?_
    obtain ⟨r18, er18, h⟩ := h
    refine r_getR (pc := 16) d_Re_takeStep_16 f_Re_12 sa (Or.inl ⟨_, rfl⟩) (r := r18) er18 ?_
    refine r_iconst (pc := 19) d_Re_takeStep_19 (v := 2) (by decide) ?_
    obtain ⟨s19, h⟩ := h
    refine r_callV (pc := 20) (k := r18) (As := [.int 2]) (rest := []) (mc' := 0) (ms' := 0) lk_Re_82 in_To_blame se_To_blame s19 rfl d_Re_takeStep_20 k_To_blame rfl rfl (Nat.le_of_ble_eq_true rfl) (by decide) (by decide) (Sp.mono h ?_)
    rintro rS20 shS20 S20 ⟨qS20, x21, uS20, h⟩
    subst uS20
    rw [qS20]
    obtain ⟨g22, h⟩ := h
    exact r_zreturn (pc := 23) d_Re_takeStep_23 rfl (aw_nb g22) rfl (Nat.le_refl _) ⟨rfl, _, rfl, h⟩
set_option maxRecDepth 4000 in
theorem s_Re_takeStep_64 {l : Launch} {d : Nat} {sh : aw_SH} {S : aw_S} {P : Int32 → aw_S → Prop} {a : Nat} {i1 : Int32} {i2 : Int32} (sa : sh[a]? = some (0, 5)) (h : ((i2 = 0 → ∃ r2, S.2.2 a 4 = some r2 ∧ sh[r2]? = some (0, 4) ∧ ∃ r4, S.2.2 r2 2 = some r4 ∧ ∃ n6, sh[r4]? = some (3, n6) ∧ vp_in (S.1 r2 1) n6 ∧ ∃ r8, (aw_uI S r4 ((S.1 r2 1 : Int32).toNatClampNeg) i1).2.2 r2 6 = some r8 ∧ ∃ n10, sh[r8]? = some (3, n10) ∧ vp_in (S.1 r2 1) n10 ∧ ((i2 = 0 → ∃ r13, (aw_uI (aw_uI (aw_uI S r4 ((S.1 r2 1 : Int32).toNatClampNeg) i1) r8 ((S.1 r2 1 : Int32).toNatClampNeg) ((S.1 r2 1) + (1 : Int32))) r2 1 (((aw_uI (aw_uI S r4 ((S.1 r2 1 : Int32).toNatClampNeg) i1) r8 ((S.1 r2 1 : Int32).toNatClampNeg) ((S.1 r2 1) + (1 : Int32))).1 r2 1) + (1 : Int32))).2.2 a 2 = some r13 ∧ sh[r13]? = some (0, 6) ∧ Sp l m_To_advance d 0 0 [.ref r13] sh (aw_uI (aw_uI (aw_uI S r4 ((S.1 r2 1 : Int32).toNatClampNeg) i1) r8 ((S.1 r2 1 : Int32).toNatClampNeg) ((S.1 r2 1) + (1 : Int32))) r2 1 (((aw_uI (aw_uI S r4 ((S.1 r2 1 : Int32).toNatClampNeg) i1) r8 ((S.1 r2 1 : Int32).toNatClampNeg) ((S.1 r2 1) + (1 : Int32))).1 r2 1) + (1 : Int32))) (gV sh (fun S15 => ((¬ i1 = 11 → AW l m_Re_takeStep (d + 1) 0 0 (gI sh P) 0 0 177 [.ref a, .null, .null, .int (S.1 r2 1), .int i1] [] sh S15) ∧ (i1 = 11 → Sp l m_Re_testForm d 0 0 [.ref a, .int (S.1 r2 1)] sh S15 (gI sh (fun x18 S17 => AW l m_Re_takeStep (d + 1) 0 0 (gI sh P) 0 0 177 [.ref a, .null, .null, .int (S.1 r2 1), .int x18] [] sh S17))))))) ∧ (¬ i2 = 0 → ∃ r19, (aw_uI (aw_uI (aw_uI S r4 ((S.1 r2 1 : Int32).toNatClampNeg) i1) r8 ((S.1 r2 1 : Int32).toNatClampNeg) ((S.1 r2 1) + (1 : Int32))) r2 1 (((aw_uI (aw_uI S r4 ((S.1 r2 1 : Int32).toNatClampNeg) i1) r8 ((S.1 r2 1 : Int32).toNatClampNeg) ((S.1 r2 1) + (1 : Int32))).1 r2 1) + (1 : Int32))).2.2 a 9 = some r19 ∧ ∃ n21, sh[r19]? = some (3, n21) ∧ vp_in ((aw_uI (aw_uI (aw_uI S r4 ((S.1 r2 1 : Int32).toNatClampNeg) i1) r8 ((S.1 r2 1 : Int32).toNatClampNeg) ((S.1 r2 1) + (1 : Int32))) r2 1 (((aw_uI (aw_uI S r4 ((S.1 r2 1 : Int32).toNatClampNeg) i1) r8 ((S.1 r2 1 : Int32).toNatClampNeg) ((S.1 r2 1) + (1 : Int32))).1 r2 1) + (1 : Int32))).1 a 8) n21 ∧ ∃ r23, (aw_uI (aw_uI (aw_uI (aw_uI (aw_uI S r4 ((S.1 r2 1 : Int32).toNatClampNeg) i1) r8 ((S.1 r2 1 : Int32).toNatClampNeg) ((S.1 r2 1) + (1 : Int32))) r2 1 (((aw_uI (aw_uI S r4 ((S.1 r2 1 : Int32).toNatClampNeg) i1) r8 ((S.1 r2 1 : Int32).toNatClampNeg) ((S.1 r2 1) + (1 : Int32))).1 r2 1) + (1 : Int32))) r19 (((aw_uI (aw_uI (aw_uI S r4 ((S.1 r2 1 : Int32).toNatClampNeg) i1) r8 ((S.1 r2 1 : Int32).toNatClampNeg) ((S.1 r2 1) + (1 : Int32))) r2 1 (((aw_uI (aw_uI S r4 ((S.1 r2 1 : Int32).toNatClampNeg) i1) r8 ((S.1 r2 1 : Int32).toNatClampNeg) ((S.1 r2 1) + (1 : Int32))).1 r2 1) + (1 : Int32))).1 a 8 : Int32).toNatClampNeg) (S.1 r2 1)) a 8 (((aw_uI (aw_uI (aw_uI (aw_uI S r4 ((S.1 r2 1 : Int32).toNatClampNeg) i1) r8 ((S.1 r2 1 : Int32).toNatClampNeg) ((S.1 r2 1) + (1 : Int32))) r2 1 (((aw_uI (aw_uI S r4 ((S.1 r2 1 : Int32).toNatClampNeg) i1) r8 ((S.1 r2 1 : Int32).toNatClampNeg) ((S.1 r2 1) + (1 : Int32))).1 r2 1) + (1 : Int32))) r19 (((aw_uI (aw_uI (aw_uI S r4 ((S.1 r2 1 : Int32).toNatClampNeg) i1) r8 ((S.1 r2 1 : Int32).toNatClampNeg) ((S.1 r2 1) + (1 : Int32))) r2 1 (((aw_uI (aw_uI S r4 ((S.1 r2 1 : Int32).toNatClampNeg) i1) r8 ((S.1 r2 1 : Int32).toNatClampNeg) ((S.1 r2 1) + (1 : Int32))).1 r2 1) + (1 : Int32))).1 a 8 : Int32).toNatClampNeg) (S.1 r2 1)).1 a 8) + (1 : Int32))).2.2 a 2 = some r23 ∧ sh[r23]? = some (0, 6) ∧ Sp l m_To_advance d 0 0 [.ref r23] sh (aw_uI (aw_uI (aw_uI (aw_uI (aw_uI S r4 ((S.1 r2 1 : Int32).toNatClampNeg) i1) r8 ((S.1 r2 1 : Int32).toNatClampNeg) ((S.1 r2 1) + (1 : Int32))) r2 1 (((aw_uI (aw_uI S r4 ((S.1 r2 1 : Int32).toNatClampNeg) i1) r8 ((S.1 r2 1 : Int32).toNatClampNeg) ((S.1 r2 1) + (1 : Int32))).1 r2 1) + (1 : Int32))) r19 (((aw_uI (aw_uI (aw_uI S r4 ((S.1 r2 1 : Int32).toNatClampNeg) i1) r8 ((S.1 r2 1 : Int32).toNatClampNeg) ((S.1 r2 1) + (1 : Int32))) r2 1 (((aw_uI (aw_uI S r4 ((S.1 r2 1 : Int32).toNatClampNeg) i1) r8 ((S.1 r2 1 : Int32).toNatClampNeg) ((S.1 r2 1) + (1 : Int32))).1 r2 1) + (1 : Int32))).1 a 8 : Int32).toNatClampNeg) (S.1 r2 1)) a 8 (((aw_uI (aw_uI (aw_uI (aw_uI S r4 ((S.1 r2 1 : Int32).toNatClampNeg) i1) r8 ((S.1 r2 1 : Int32).toNatClampNeg) ((S.1 r2 1) + (1 : Int32))) r2 1 (((aw_uI (aw_uI S r4 ((S.1 r2 1 : Int32).toNatClampNeg) i1) r8 ((S.1 r2 1 : Int32).toNatClampNeg) ((S.1 r2 1) + (1 : Int32))).1 r2 1) + (1 : Int32))) r19 (((aw_uI (aw_uI (aw_uI S r4 ((S.1 r2 1 : Int32).toNatClampNeg) i1) r8 ((S.1 r2 1 : Int32).toNatClampNeg) ((S.1 r2 1) + (1 : Int32))) r2 1 (((aw_uI (aw_uI S r4 ((S.1 r2 1 : Int32).toNatClampNeg) i1) r8 ((S.1 r2 1 : Int32).toNatClampNeg) ((S.1 r2 1) + (1 : Int32))).1 r2 1) + (1 : Int32))).1 a 8 : Int32).toNatClampNeg) (S.1 r2 1)).1 a 8) + (1 : Int32))) (gV sh (fun S25 => ((¬ i1 = 11 → AW l m_Re_takeStep (d + 1) 0 0 (gI sh P) 0 0 177 [.ref a, .null, .null, .int (S.1 r2 1), .int i1] [] sh S25) ∧ (i1 = 11 → Sp l m_Re_testForm d 0 0 [.ref a, .int (S.1 r2 1)] sh S25 (gI sh (fun x28 S27 => AW l m_Re_takeStep (d + 1) 0 0 (gI sh P) 0 0 177 [.ref a, .null, .null, .int (S.1 r2 1), .int x28] [] sh S27))))))))) ∧ (¬ i2 = 0 → (((S.1 a 8) < 3 → ∃ r30, S.2.2 a 4 = some r30 ∧ sh[r30]? = some (0, 4) ∧ ∃ r32, S.2.2 r30 2 = some r32 ∧ ∃ n34, sh[r32]? = some (3, n34) ∧ vp_in (S.1 r30 1) n34 ∧ ∃ r36, (aw_uI S r32 ((S.1 r30 1 : Int32).toNatClampNeg) i1).2.2 r30 6 = some r36 ∧ ∃ n38, sh[r36]? = some (3, n38) ∧ vp_in (S.1 r30 1) n38 ∧ ((i2 = 0 → ∃ r41, (aw_uI (aw_uI (aw_uI S r32 ((S.1 r30 1 : Int32).toNatClampNeg) i1) r36 ((S.1 r30 1 : Int32).toNatClampNeg) ((S.1 r30 1) + (1 : Int32))) r30 1 (((aw_uI (aw_uI S r32 ((S.1 r30 1 : Int32).toNatClampNeg) i1) r36 ((S.1 r30 1 : Int32).toNatClampNeg) ((S.1 r30 1) + (1 : Int32))).1 r30 1) + (1 : Int32))).2.2 a 2 = some r41 ∧ sh[r41]? = some (0, 6) ∧ Sp l m_To_advance d 0 0 [.ref r41] sh (aw_uI (aw_uI (aw_uI S r32 ((S.1 r30 1 : Int32).toNatClampNeg) i1) r36 ((S.1 r30 1 : Int32).toNatClampNeg) ((S.1 r30 1) + (1 : Int32))) r30 1 (((aw_uI (aw_uI S r32 ((S.1 r30 1 : Int32).toNatClampNeg) i1) r36 ((S.1 r30 1 : Int32).toNatClampNeg) ((S.1 r30 1) + (1 : Int32))).1 r30 1) + (1 : Int32))) (gV sh (fun S43 => ((¬ i1 = 11 → AW l m_Re_takeStep (d + 1) 0 0 (gI sh P) 0 0 177 [.ref a, .null, .null, .int (S.1 r30 1), .int i1] [] sh S43) ∧ (i1 = 11 → Sp l m_Re_testForm d 0 0 [.ref a, .int (S.1 r30 1)] sh S43 (gI sh (fun x46 S45 => AW l m_Re_takeStep (d + 1) 0 0 (gI sh P) 0 0 177 [.ref a, .null, .null, .int (S.1 r30 1), .int x46] [] sh S45))))))) ∧ (¬ i2 = 0 → ∃ r47, (aw_uI (aw_uI (aw_uI S r32 ((S.1 r30 1 : Int32).toNatClampNeg) i1) r36 ((S.1 r30 1 : Int32).toNatClampNeg) ((S.1 r30 1) + (1 : Int32))) r30 1 (((aw_uI (aw_uI S r32 ((S.1 r30 1 : Int32).toNatClampNeg) i1) r36 ((S.1 r30 1 : Int32).toNatClampNeg) ((S.1 r30 1) + (1 : Int32))).1 r30 1) + (1 : Int32))).2.2 a 9 = some r47 ∧ ∃ n49, sh[r47]? = some (3, n49) ∧ vp_in ((aw_uI (aw_uI (aw_uI S r32 ((S.1 r30 1 : Int32).toNatClampNeg) i1) r36 ((S.1 r30 1 : Int32).toNatClampNeg) ((S.1 r30 1) + (1 : Int32))) r30 1 (((aw_uI (aw_uI S r32 ((S.1 r30 1 : Int32).toNatClampNeg) i1) r36 ((S.1 r30 1 : Int32).toNatClampNeg) ((S.1 r30 1) + (1 : Int32))).1 r30 1) + (1 : Int32))).1 a 8) n49 ∧ ∃ r51, (aw_uI (aw_uI (aw_uI (aw_uI (aw_uI S r32 ((S.1 r30 1 : Int32).toNatClampNeg) i1) r36 ((S.1 r30 1 : Int32).toNatClampNeg) ((S.1 r30 1) + (1 : Int32))) r30 1 (((aw_uI (aw_uI S r32 ((S.1 r30 1 : Int32).toNatClampNeg) i1) r36 ((S.1 r30 1 : Int32).toNatClampNeg) ((S.1 r30 1) + (1 : Int32))).1 r30 1) + (1 : Int32))) r47 (((aw_uI (aw_uI (aw_uI S r32 ((S.1 r30 1 : Int32).toNatClampNeg) i1) r36 ((S.1 r30 1 : Int32).toNatClampNeg) ((S.1 r30 1) + (1 : Int32))) r30 1 (((aw_uI (aw_uI S r32 ((S.1 r30 1 : Int32).toNatClampNeg) i1) r36 ((S.1 r30 1 : Int32).toNatClampNeg) ((S.1 r30 1) + (1 : Int32))).1 r30 1) + (1 : Int32))).1 a 8 : Int32).toNatClampNeg) (S.1 r30 1)) a 8 (((aw_uI (aw_uI (aw_uI (aw_uI S r32 ((S.1 r30 1 : Int32).toNatClampNeg) i1) r36 ((S.1 r30 1 : Int32).toNatClampNeg) ((S.1 r30 1) + (1 : Int32))) r30 1 (((aw_uI (aw_uI S r32 ((S.1 r30 1 : Int32).toNatClampNeg) i1) r36 ((S.1 r30 1 : Int32).toNatClampNeg) ((S.1 r30 1) + (1 : Int32))).1 r30 1) + (1 : Int32))) r47 (((aw_uI (aw_uI (aw_uI S r32 ((S.1 r30 1 : Int32).toNatClampNeg) i1) r36 ((S.1 r30 1 : Int32).toNatClampNeg) ((S.1 r30 1) + (1 : Int32))) r30 1 (((aw_uI (aw_uI S r32 ((S.1 r30 1 : Int32).toNatClampNeg) i1) r36 ((S.1 r30 1 : Int32).toNatClampNeg) ((S.1 r30 1) + (1 : Int32))).1 r30 1) + (1 : Int32))).1 a 8 : Int32).toNatClampNeg) (S.1 r30 1)).1 a 8) + (1 : Int32))).2.2 a 2 = some r51 ∧ sh[r51]? = some (0, 6) ∧ Sp l m_To_advance d 0 0 [.ref r51] sh (aw_uI (aw_uI (aw_uI (aw_uI (aw_uI S r32 ((S.1 r30 1 : Int32).toNatClampNeg) i1) r36 ((S.1 r30 1 : Int32).toNatClampNeg) ((S.1 r30 1) + (1 : Int32))) r30 1 (((aw_uI (aw_uI S r32 ((S.1 r30 1 : Int32).toNatClampNeg) i1) r36 ((S.1 r30 1 : Int32).toNatClampNeg) ((S.1 r30 1) + (1 : Int32))).1 r30 1) + (1 : Int32))) r47 (((aw_uI (aw_uI (aw_uI S r32 ((S.1 r30 1 : Int32).toNatClampNeg) i1) r36 ((S.1 r30 1 : Int32).toNatClampNeg) ((S.1 r30 1) + (1 : Int32))) r30 1 (((aw_uI (aw_uI S r32 ((S.1 r30 1 : Int32).toNatClampNeg) i1) r36 ((S.1 r30 1 : Int32).toNatClampNeg) ((S.1 r30 1) + (1 : Int32))).1 r30 1) + (1 : Int32))).1 a 8 : Int32).toNatClampNeg) (S.1 r30 1)) a 8 (((aw_uI (aw_uI (aw_uI (aw_uI S r32 ((S.1 r30 1 : Int32).toNatClampNeg) i1) r36 ((S.1 r30 1 : Int32).toNatClampNeg) ((S.1 r30 1) + (1 : Int32))) r30 1 (((aw_uI (aw_uI S r32 ((S.1 r30 1 : Int32).toNatClampNeg) i1) r36 ((S.1 r30 1 : Int32).toNatClampNeg) ((S.1 r30 1) + (1 : Int32))).1 r30 1) + (1 : Int32))) r47 (((aw_uI (aw_uI (aw_uI S r32 ((S.1 r30 1 : Int32).toNatClampNeg) i1) r36 ((S.1 r30 1 : Int32).toNatClampNeg) ((S.1 r30 1) + (1 : Int32))) r30 1 (((aw_uI (aw_uI S r32 ((S.1 r30 1 : Int32).toNatClampNeg) i1) r36 ((S.1 r30 1 : Int32).toNatClampNeg) ((S.1 r30 1) + (1 : Int32))).1 r30 1) + (1 : Int32))).1 a 8 : Int32).toNatClampNeg) (S.1 r30 1)).1 a 8) + (1 : Int32))) (gV sh (fun S53 => ((¬ i1 = 11 → AW l m_Re_takeStep (d + 1) 0 0 (gI sh P) 0 0 177 [.ref a, .null, .null, .int (S.1 r30 1), .int i1] [] sh S53) ∧ (i1 = 11 → Sp l m_Re_testForm d 0 0 [.ref a, .int (S.1 r30 1)] sh S53 (gI sh (fun x56 S55 => AW l m_Re_takeStep (d + 1) 0 0 (gI sh P) 0 0 177 [.ref a, .null, .null, .int (S.1 r30 1), .int x56] [] sh S55))))))))) ∧ (¬ (S.1 a 8) < 3 → ∃ r57, S.2.2 a 2 = some r57 ∧ sh[r57]? = some (0, 6) ∧ Sp l m_To_blame d 0 0 [.ref r57, .int 7] sh S (gI sh (fun x60 S59 => ((x60 = 0 ∨ x60 = 1) ∧ P x60 S59)))))))) : AW l m_Re_takeStep (d + 1) 0 0 (gI sh P) 0 0 64 [.ref a, .int i1, .int i2, .null, .null] [] sh S := by
  refine r_iload_n (pc := 64) d_Re_takeStep_64 (x := i2) rfl ?_
  refine r_if_eq (pc := 65) d_Re_takeStep_65 (tgt := 86) (by decide) (fun c1 => ?_) (fun c1 => ?_)
  · replace h := h.1 c1
    refine r_aload_n (pc := 86) d_Re_takeStep_86 (x := a) rfl ?_
    obtain ⟨r2, er2, h⟩ := h
    refine r_getR (pc := 87) d_Re_takeStep_87 f_Re_59 sa (Or.inl ⟨_, rfl⟩) (r := r2) er2 ?_
    obtain ⟨s3, h⟩ := h
    refine r_getI (pc := 90) d_Re_takeStep_90 f_Re_156 s3 rfl ?_
    refine r_istore_n (pc := 93) (hk := rfl) (hd := d_Re_takeStep_93) (hi := by decide) (ls2 := [.ref a, .int i1, .int i2, .int (S.1 r2 1), .null]) (h2 := rfl) ?_
    refine r_aload_n (pc := 94) d_Re_takeStep_94 (x := a) rfl ?_
    refine r_getR (pc := 95) d_Re_takeStep_95 f_Re_59 sa (Or.inl ⟨_, rfl⟩) (r := r2) er2 ?_
    obtain ⟨r4, er4, h⟩ := h
    refine r_getR (pc := 98) d_Re_takeStep_98 f_Re_162 s3 (Or.inr ⟨_, rfl⟩) (r := r4) er4 ?_
    refine r_iload_n (pc := 101) d_Re_takeStep_101 (x := (S.1 r2 1)) rfl ?_
    refine r_iload_n (pc := 102) d_Re_takeStep_102 (x := i1) rfl ?_
    obtain ⟨n6, s5, h⟩ := h
    obtain ⟨g7, h⟩ := h
    refine r_iast (pc := 103) d_Re_takeStep_103 s5 g7 ?_
    refine r_aload_n (pc := 104) d_Re_takeStep_104 (x := a) rfl ?_
    refine r_getR (pc := 105) d_Re_takeStep_105 f_Re_59 sa (Or.inl ⟨_, rfl⟩) (r := r2) er2 ?_
    obtain ⟨r8, er8, h⟩ := h
    refine r_getR (pc := 108) d_Re_takeStep_108 f_Re_153 s3 (Or.inr ⟨_, rfl⟩) (r := r8) er8 ?_
    refine r_iload_n (pc := 111) d_Re_takeStep_111 (x := (S.1 r2 1)) rfl ?_
    refine r_iload_n (pc := 112) d_Re_takeStep_112 (x := (S.1 r2 1)) rfl ?_
    refine r_iconst (pc := 113) d_Re_takeStep_113 (v := 1) (by decide) ?_
    refine r_iadd (pc := 114) d_Re_takeStep_114 ?_
    obtain ⟨n10, s9, h⟩ := h
    obtain ⟨g11, h⟩ := h
    refine r_iast (pc := 115) d_Re_takeStep_115 s9 g11 ?_
    refine r_aload_n (pc := 116) d_Re_takeStep_116 (x := a) rfl ?_
    refine r_getR (pc := 117) d_Re_takeStep_117 f_Re_59 sa (Or.inl ⟨_, rfl⟩) (r := r2) er2 ?_
    refine r_dup (pc := 120) d_Re_takeStep_120 rfl ?_
    refine r_getI (pc := 121) d_Re_takeStep_121 f_Re_156 s3 rfl ?_
    refine r_iconst (pc := 124) d_Re_takeStep_124 (v := 1) (by decide) ?_
    refine r_iadd (pc := 125) d_Re_takeStep_125 ?_
    refine r_putI (pc := 126) d_Re_takeStep_126 f_Re_156 s3 rfl ?_
    refine r_iload_n (pc := 129) d_Re_takeStep_129 (x := i2) rfl ?_
    refine r_if_eq (pc := 130) d_Re_takeStep_130 (tgt := 153) (by decide) (fun c12 => ?_) (fun c12 => ?_)
    · replace h := h.1 c12
      refine r_aload_n (pc := 153) d_Re_takeStep_153 (x := a) rfl ?_
      obtain ⟨r13, er13, h⟩ := h
      refine r_getR (pc := 154) d_Re_takeStep_154 f_Re_12 sa (Or.inl ⟨_, rfl⟩) (r := r13) er13 ?_
      obtain ⟨s14, h⟩ := h
      refine r_callV (pc := 157) (k := r13) (As := []) (rest := []) (mc' := 0) (ms' := 0) lk_Re_106 in_To_advance se_To_advance s14 rfl d_Re_takeStep_157 k_To_advance rfl rfl (Nat.le_of_ble_eq_true rfl) (by decide) (by decide) (Sp.mono h ?_)
      rintro rS15 shS15 S15 ⟨qS15, uS15, h⟩
      subst uS15
      rw [qS15]
      refine r_iload_n (pc := 160) d_Re_takeStep_160 (x := i1) rfl ?_
      refine r_bipush (pc := 161) d_Re_takeStep_161 (v := 11) (by decide) ?_
      refine r_icmp_ne (pc := 163) d_Re_takeStep_163 (tgt := 174) (by decide) (fun c16 => ?_) (fun c16 => ?_)
      · replace h := h.1 c16
        refine r_iload_n (pc := 174) d_Re_takeStep_174 (x := i1) rfl ?_
        refine r_istore (pc := 175) (hd := d_Re_takeStep_175) (hi := by decide) (ls2 := [.ref a, .int i1, .int i2, .int (S.1 r2 1), .int i1]) (h2 := rfl) ?_
        exact r_weak (ls2 := [.ref a, .null, .null, .int (S.1 r2 1), .int i1]) ⟨Or.inr rfl, Or.inl rfl, Or.inl rfl, Or.inr rfl, Or.inr rfl, trivial⟩ h
      · replace h := h.2 c16
        refine r_aload_n (pc := 166) d_Re_takeStep_166 (x := a) rfl ?_
        refine r_iload_n (pc := 167) d_Re_takeStep_167 (x := (S.1 r2 1)) rfl ?_
        refine r_callV (pc := 168) (k := a) (As := [.int (S.1 r2 1)]) (rest := []) (mc' := 0) (ms' := 0) lk_Re_165 in_Re_testForm se_Re_testForm sa rfl d_Re_takeStep_168 k_Re_testForm rfl rfl (Nat.le_of_ble_eq_true rfl) (by decide) (by decide) (Sp.mono h ?_)
        rintro rS17 shS17 S17 ⟨qS17, x18, uS17, h⟩
        subst uS17
        rw [qS17]
        refine r_goto (pc := 171) d_Re_takeStep_171 (tgt := 175) (by decide) ?_
        refine r_istore (pc := 175) (hd := d_Re_takeStep_175) (hi := by decide) (ls2 := [.ref a, .int i1, .int i2, .int (S.1 r2 1), .int x18]) (h2 := rfl) ?_
        exact r_weak (ls2 := [.ref a, .null, .null, .int (S.1 r2 1), .int x18]) ⟨Or.inr rfl, Or.inl rfl, Or.inl rfl, Or.inr rfl, Or.inr rfl, trivial⟩ h
    · replace h := h.2 c12
      refine r_aload_n (pc := 133) d_Re_takeStep_133 (x := a) rfl ?_
      obtain ⟨r19, er19, h⟩ := h
      refine r_getR (pc := 134) d_Re_takeStep_134 f_Re_18 sa (Or.inr ⟨_, rfl⟩) (r := r19) er19 ?_
      refine r_aload_n (pc := 137) d_Re_takeStep_137 (x := a) rfl ?_
      refine r_getI (pc := 138) d_Re_takeStep_138 f_Re_69 sa rfl ?_
      refine r_iload_n (pc := 141) d_Re_takeStep_141 (x := (S.1 r2 1)) rfl ?_
      obtain ⟨n21, s20, h⟩ := h
      obtain ⟨g22, h⟩ := h
      refine r_iast (pc := 142) d_Re_takeStep_142 s20 g22 ?_
      refine r_aload_n (pc := 143) d_Re_takeStep_143 (x := a) rfl ?_
      refine r_dup (pc := 144) d_Re_takeStep_144 rfl ?_
      refine r_getI (pc := 145) d_Re_takeStep_145 f_Re_69 sa rfl ?_
      refine r_iconst (pc := 148) d_Re_takeStep_148 (v := 1) (by decide) ?_
      refine r_iadd (pc := 149) d_Re_takeStep_149 ?_
      refine r_putI (pc := 150) d_Re_takeStep_150 f_Re_69 sa rfl ?_
      refine r_aload_n (pc := 153) d_Re_takeStep_153 (x := a) rfl ?_
      obtain ⟨r23, er23, h⟩ := h
      refine r_getR (pc := 154) d_Re_takeStep_154 f_Re_12 sa (Or.inl ⟨_, rfl⟩) (r := r23) er23 ?_
      obtain ⟨s24, h⟩ := h
      refine r_callV (pc := 157) (k := r23) (As := []) (rest := []) (mc' := 0) (ms' := 0) lk_Re_106 in_To_advance se_To_advance s24 rfl d_Re_takeStep_157 k_To_advance rfl rfl (Nat.le_of_ble_eq_true rfl) (by decide) (by decide) (Sp.mono h ?_)
      rintro rS25 shS25 S25 ⟨qS25, uS25, h⟩
      subst uS25
      rw [qS25]
      refine r_iload_n (pc := 160) d_Re_takeStep_160 (x := i1) rfl ?_
      refine r_bipush (pc := 161) d_Re_takeStep_161 (v := 11) (by decide) ?_
      refine r_icmp_ne (pc := 163) d_Re_takeStep_163 (tgt := 174) (by decide) (fun c26 => ?_) (fun c26 => ?_)
      · replace h := h.1 c26
        refine r_iload_n (pc := 174) d_Re_takeStep_174 (x := i1) rfl ?_
        refine r_istore (pc := 175) (hd := d_Re_takeStep_175) (hi := by decide) (ls2 := [.ref a, .int i1, .int i2, .int (S.1 r2 1), .int i1]) (h2 := rfl) ?_
        exact r_weak (ls2 := [.ref a, .null, .null, .int (S.1 r2 1), .int i1]) ⟨Or.inr rfl, Or.inl rfl, Or.inl rfl, Or.inr rfl, Or.inr rfl, trivial⟩ h
      · replace h := h.2 c26
        refine r_aload_n (pc := 166) d_Re_takeStep_166 (x := a) rfl ?_
        refine r_iload_n (pc := 167) d_Re_takeStep_167 (x := (S.1 r2 1)) rfl ?_
        refine r_callV (pc := 168) (k := a) (As := [.int (S.1 r2 1)]) (rest := []) (mc' := 0) (ms' := 0) lk_Re_165 in_Re_testForm se_Re_testForm sa rfl d_Re_takeStep_168 k_Re_testForm rfl rfl (Nat.le_of_ble_eq_true rfl) (by decide) (by decide) (Sp.mono h ?_)
        rintro rS27 shS27 S27 ⟨qS27, x28, uS27, h⟩
        subst uS27
        rw [qS27]
        refine r_goto (pc := 171) d_Re_takeStep_171 (tgt := 175) (by decide) ?_
        refine r_istore (pc := 175) (hd := d_Re_takeStep_175) (hi := by decide) (ls2 := [.ref a, .int i1, .int i2, .int (S.1 r2 1), .int x28]) (h2 := rfl) ?_
        exact r_weak (ls2 := [.ref a, .null, .null, .int (S.1 r2 1), .int x28]) ⟨Or.inr rfl, Or.inl rfl, Or.inl rfl, Or.inr rfl, Or.inr rfl, trivial⟩ h
  · replace h := h.2 c1
    refine r_aload_n (pc := 68) d_Re_takeStep_68 (x := a) rfl ?_
    refine r_getI (pc := 69) d_Re_takeStep_69 f_Re_69 sa rfl ?_
    refine r_iconst (pc := 72) d_Re_takeStep_72 (v := 3) (by decide) ?_
    refine r_icmp_lt (pc := 73) d_Re_takeStep_73 (tgt := 86) (by decide) (fun c29 => ?_) (fun c29 => ?_)
    · replace h := h.1 c29
      refine r_aload_n (pc := 86) d_Re_takeStep_86 (x := a) rfl ?_
      obtain ⟨r30, er30, h⟩ := h
      refine r_getR (pc := 87) d_Re_takeStep_87 f_Re_59 sa (Or.inl ⟨_, rfl⟩) (r := r30) er30 ?_
      obtain ⟨s31, h⟩ := h
      refine r_getI (pc := 90) d_Re_takeStep_90 f_Re_156 s31 rfl ?_
      refine r_istore_n (pc := 93) (hk := rfl) (hd := d_Re_takeStep_93) (hi := by decide) (ls2 := [.ref a, .int i1, .int i2, .int (S.1 r30 1), .null]) (h2 := rfl) ?_
      refine r_aload_n (pc := 94) d_Re_takeStep_94 (x := a) rfl ?_
      refine r_getR (pc := 95) d_Re_takeStep_95 f_Re_59 sa (Or.inl ⟨_, rfl⟩) (r := r30) er30 ?_
      obtain ⟨r32, er32, h⟩ := h
      refine r_getR (pc := 98) d_Re_takeStep_98 f_Re_162 s31 (Or.inr ⟨_, rfl⟩) (r := r32) er32 ?_
      refine r_iload_n (pc := 101) d_Re_takeStep_101 (x := (S.1 r30 1)) rfl ?_
      refine r_iload_n (pc := 102) d_Re_takeStep_102 (x := i1) rfl ?_
      obtain ⟨n34, s33, h⟩ := h
      obtain ⟨g35, h⟩ := h
      refine r_iast (pc := 103) d_Re_takeStep_103 s33 g35 ?_
      refine r_aload_n (pc := 104) d_Re_takeStep_104 (x := a) rfl ?_
      refine r_getR (pc := 105) d_Re_takeStep_105 f_Re_59 sa (Or.inl ⟨_, rfl⟩) (r := r30) er30 ?_
      obtain ⟨r36, er36, h⟩ := h
      refine r_getR (pc := 108) d_Re_takeStep_108 f_Re_153 s31 (Or.inr ⟨_, rfl⟩) (r := r36) er36 ?_
      refine r_iload_n (pc := 111) d_Re_takeStep_111 (x := (S.1 r30 1)) rfl ?_
      refine r_iload_n (pc := 112) d_Re_takeStep_112 (x := (S.1 r30 1)) rfl ?_
      refine r_iconst (pc := 113) d_Re_takeStep_113 (v := 1) (by decide) ?_
      refine r_iadd (pc := 114) d_Re_takeStep_114 ?_
      obtain ⟨n38, s37, h⟩ := h
      obtain ⟨g39, h⟩ := h
      refine r_iast (pc := 115) d_Re_takeStep_115 s37 g39 ?_
      refine r_aload_n (pc := 116) d_Re_takeStep_116 (x := a) rfl ?_
      refine r_getR (pc := 117) d_Re_takeStep_117 f_Re_59 sa (Or.inl ⟨_, rfl⟩) (r := r30) er30 ?_
      refine r_dup (pc := 120) d_Re_takeStep_120 rfl ?_
      refine r_getI (pc := 121) d_Re_takeStep_121 f_Re_156 s31 rfl ?_
      refine r_iconst (pc := 124) d_Re_takeStep_124 (v := 1) (by decide) ?_
      refine r_iadd (pc := 125) d_Re_takeStep_125 ?_
      refine r_putI (pc := 126) d_Re_takeStep_126 f_Re_156 s31 rfl ?_
      refine r_iload_n (pc := 129) d_Re_takeStep_129 (x := i2) rfl ?_
      refine r_if_eq (pc := 130) d_Re_takeStep_130 (tgt := 153) (by decide) (fun c40 => ?_) (fun c40 => ?_)
      · replace h := h.1 c40
        refine r_aload_n (pc := 153) d_Re_takeStep_153 (x := a) rfl ?_
        obtain ⟨r41, er41, h⟩ := h
        refine r_getR (pc := 154) d_Re_takeStep_154 f_Re_12 sa (Or.inl ⟨_, rfl⟩) (r := r41) er41 ?_
        obtain ⟨s42, h⟩ := h
        refine r_callV (pc := 157) (k := r41) (As := []) (rest := []) (mc' := 0) (ms' := 0) lk_Re_106 in_To_advance se_To_advance s42 rfl d_Re_takeStep_157 k_To_advance rfl rfl (Nat.le_of_ble_eq_true rfl) (by decide) (by decide) (Sp.mono h ?_)
        rintro rS43 shS43 S43 ⟨qS43, uS43, h⟩
        subst uS43
        rw [qS43]
        refine r_iload_n (pc := 160) d_Re_takeStep_160 (x := i1) rfl ?_
        refine r_bipush (pc := 161) d_Re_takeStep_161 (v := 11) (by decide) ?_
        refine r_icmp_ne (pc := 163) d_Re_takeStep_163 (tgt := 174) (by decide) (fun c44 => ?_) (fun c44 => ?_)
        · replace h := h.1 c44
          refine r_iload_n (pc := 174) d_Re_takeStep_174 (x := i1) rfl ?_
          refine r_istore (pc := 175) (hd := d_Re_takeStep_175) (hi := by decide) (ls2 := [.ref a, .int i1, .int i2, .int (S.1 r30 1), .int i1]) (h2 := rfl) ?_
          exact r_weak (ls2 := [.ref a, .null, .null, .int (S.1 r30 1), .int i1]) ⟨Or.inr rfl, Or.inl rfl, Or.inl rfl, Or.inr rfl, Or.inr rfl, trivial⟩ h
        · replace h := h.2 c44
          refine r_aload_n (pc := 166) d_Re_takeStep_166 (x := a) rfl ?_
          refine r_iload_n (pc := 167) d_Re_takeStep_167 (x := (S.1 r30 1)) rfl ?_
          refine r_callV (pc := 168) (k := a) (As := [.int (S.1 r30 1)]) (rest := []) (mc' := 0) (ms' := 0) lk_Re_165 in_Re_testForm se_Re_testForm sa rfl d_Re_takeStep_168 k_Re_testForm rfl rfl (Nat.le_of_ble_eq_true rfl) (by decide) (by decide) (Sp.mono h ?_)
          rintro rS45 shS45 S45 ⟨qS45, x46, uS45, h⟩
          subst uS45
          rw [qS45]
          refine r_goto (pc := 171) d_Re_takeStep_171 (tgt := 175) (by decide) ?_
          refine r_istore (pc := 175) (hd := d_Re_takeStep_175) (hi := by decide) (ls2 := [.ref a, .int i1, .int i2, .int (S.1 r30 1), .int x46]) (h2 := rfl) ?_
          exact r_weak (ls2 := [.ref a, .null, .null, .int (S.1 r30 1), .int x46]) ⟨Or.inr rfl, Or.inl rfl, Or.inl rfl, Or.inr rfl, Or.inr rfl, trivial⟩ h
      · replace h := h.2 c40
        refine r_aload_n (pc := 133) d_Re_takeStep_133 (x := a) rfl ?_
        obtain ⟨r47, er47, h⟩ := h
        refine r_getR (pc := 134) d_Re_takeStep_134 f_Re_18 sa (Or.inr ⟨_, rfl⟩) (r := r47) er47 ?_
        refine r_aload_n (pc := 137) d_Re_takeStep_137 (x := a) rfl ?_
        refine r_getI (pc := 138) d_Re_takeStep_138 f_Re_69 sa rfl ?_
        refine r_iload_n (pc := 141) d_Re_takeStep_141 (x := (S.1 r30 1)) rfl ?_
        obtain ⟨n49, s48, h⟩ := h
        obtain ⟨g50, h⟩ := h
        refine r_iast (pc := 142) d_Re_takeStep_142 s48 g50 ?_
        refine r_aload_n (pc := 143) d_Re_takeStep_143 (x := a) rfl ?_
        refine r_dup (pc := 144) d_Re_takeStep_144 rfl ?_
        refine r_getI (pc := 145) d_Re_takeStep_145 f_Re_69 sa rfl ?_
        refine r_iconst (pc := 148) d_Re_takeStep_148 (v := 1) (by decide) ?_
        refine r_iadd (pc := 149) d_Re_takeStep_149 ?_
        refine r_putI (pc := 150) d_Re_takeStep_150 f_Re_69 sa rfl ?_
        refine r_aload_n (pc := 153) d_Re_takeStep_153 (x := a) rfl ?_
        obtain ⟨r51, er51, h⟩ := h
        refine r_getR (pc := 154) d_Re_takeStep_154 f_Re_12 sa (Or.inl ⟨_, rfl⟩) (r := r51) er51 ?_
        obtain ⟨s52, h⟩ := h
        refine r_callV (pc := 157) (k := r51) (As := []) (rest := []) (mc' := 0) (ms' := 0) lk_Re_106 in_To_advance se_To_advance s52 rfl d_Re_takeStep_157 k_To_advance rfl rfl (Nat.le_of_ble_eq_true rfl) (by decide) (by decide) (Sp.mono h ?_)
        rintro rS53 shS53 S53 ⟨qS53, uS53, h⟩
        subst uS53
        rw [qS53]
        refine r_iload_n (pc := 160) d_Re_takeStep_160 (x := i1) rfl ?_
        refine r_bipush (pc := 161) d_Re_takeStep_161 (v := 11) (by decide) ?_
        refine r_icmp_ne (pc := 163) d_Re_takeStep_163 (tgt := 174) (by decide) (fun c54 => ?_) (fun c54 => ?_)
        · replace h := h.1 c54
          refine r_iload_n (pc := 174) d_Re_takeStep_174 (x := i1) rfl ?_
          refine r_istore (pc := 175) (hd := d_Re_takeStep_175) (hi := by decide) (ls2 := [.ref a, .int i1, .int i2, .int (S.1 r30 1), .int i1]) (h2 := rfl) ?_
          exact r_weak (ls2 := [.ref a, .null, .null, .int (S.1 r30 1), .int i1]) ⟨Or.inr rfl, Or.inl rfl, Or.inl rfl, Or.inr rfl, Or.inr rfl, trivial⟩ h
        · replace h := h.2 c54
          refine r_aload_n (pc := 166) d_Re_takeStep_166 (x := a) rfl ?_
          refine r_iload_n (pc := 167) d_Re_takeStep_167 (x := (S.1 r30 1)) rfl ?_
          refine r_callV (pc := 168) (k := a) (As := [.int (S.1 r30 1)]) (rest := []) (mc' := 0) (ms' := 0) lk_Re_165 in_Re_testForm se_Re_testForm sa rfl d_Re_takeStep_168 k_Re_testForm rfl rfl (Nat.le_of_ble_eq_true rfl) (by decide) (by decide) (Sp.mono h ?_)
          rintro rS55 shS55 S55 ⟨qS55, x56, uS55, h⟩
          subst uS55
          rw [qS55]
          refine r_goto (pc := 171) d_Re_takeStep_171 (tgt := 175) (by decide) ?_
          refine r_istore (pc := 175) (hd := d_Re_takeStep_175) (hi := by decide) (ls2 := [.ref a, .int i1, .int i2, .int (S.1 r30 1), .int x56]) (h2 := rfl) ?_
          exact r_weak (ls2 := [.ref a, .null, .null, .int (S.1 r30 1), .int x56]) ⟨Or.inr rfl, Or.inl rfl, Or.inl rfl, Or.inr rfl, Or.inr rfl, trivial⟩ h
    · replace h := h.2 c29
      refine r_aload_n (pc := 76) d_Re_takeStep_76 (x := a) rfl ?_
      obtain ⟨r57, er57, h⟩ := h
      refine r_getR (pc := 77) d_Re_takeStep_77 f_Re_12 sa (Or.inl ⟨_, rfl⟩) (r := r57) er57 ?_
      refine r_bipush (pc := 80) d_Re_takeStep_80 (v := 7) (by decide) ?_
      obtain ⟨s58, h⟩ := h
      refine r_callV (pc := 82) (k := r57) (As := [.int 7]) (rest := []) (mc' := 0) (ms' := 0) lk_Re_82 in_To_blame se_To_blame s58 rfl d_Re_takeStep_82 k_To_blame rfl rfl (Nat.le_of_ble_eq_true rfl) (by decide) (by decide) (Sp.mono h ?_)
      rintro rS59 shS59 S59 ⟨qS59, x60, uS59, h⟩
      subst uS59
      rw [qS59]
      obtain ⟨g61, h⟩ := h
      exact r_zreturn (pc := 85) d_Re_takeStep_85 rfl (aw_nb g61) rfl (Nat.le_refl _) ⟨rfl, _, rfl, h⟩
set_option maxRecDepth 4000 in
theorem s_Re_takeStep_177 {l : Launch} {d : Nat} {sh : aw_SH} {S : aw_S} {P : Int32 → aw_S → Prop} {a : Nat} {i3 : Int32} {i4 : Int32} (sa : sh[a]? = some (0, 5)) (h : Sp l m_Re_takeRest d 0 0 [.ref a, .int i3, .int i4] sh S (gI sh (fun x2 S1 => ((x2 = 0 → P 0 S1) ∧ (¬ x2 = 0 → ∃ r4, S1.2.2 a 2 = some r4 ∧ sh[r4]? = some (0, 6) ∧ Sp l m_To_takeSemicolon d 0 0 [.ref r4] sh S1 (gI sh (fun x7 S6 => ((x7 = 0 → P 0 S6) ∧ (¬ x7 = 0 → P 1 S6))))))))) : AW l m_Re_takeStep (d + 1) 0 0 (gI sh P) 0 0 177 [.ref a, .null, .null, .int i3, .int i4] [] sh S := by
  refine r_aload_n (pc := 177) d_Re_takeStep_177 (x := a) rfl ?_
  refine r_iload_n (pc := 178) d_Re_takeStep_178 (x := i3) rfl ?_
  refine r_iload (pc := 179) d_Re_takeStep_179 (x := i4) rfl ?_
  refine r_callV (pc := 181) (k := a) (As := [.int i3, .int i4]) (rest := []) (mc' := 0) (ms' := 0) lk_Re_168 in_Re_takeRest se_Re_takeRest sa rfl d_Re_takeStep_181 k_Re_takeRest rfl rfl (Nat.le_of_ble_eq_true rfl) (by decide) (by decide) (Sp.mono h ?_)
  rintro rS1 shS1 S1 ⟨qS1, x2, uS1, h⟩
  subst uS1
  rw [qS1]
  refine r_if_eq (pc := 184) d_Re_takeStep_184 (tgt := 201) (by decide) (fun c3 => ?_) (fun c3 => ?_)
  · replace h := h.1 c3
    refine r_iconst (pc := 201) d_Re_takeStep_201 (v := 0) (by decide) ?_
    exact r_zreturn (pc := 202) d_Re_takeStep_202 (v := 0) rfl (by decide) rfl (Nat.le_refl _) ⟨rfl, _, rfl, h⟩
  · replace h := h.2 c3
    refine r_aload_n (pc := 187) d_Re_takeStep_187 (x := a) rfl ?_
    obtain ⟨r4, er4, h⟩ := h
    refine r_getR (pc := 188) d_Re_takeStep_188 f_Re_12 sa (Or.inl ⟨_, rfl⟩) (r := r4) er4 ?_
    obtain ⟨s5, h⟩ := h
    refine r_callV (pc := 191) (k := r4) (As := []) (rest := []) (mc' := 0) (ms' := 0) lk_Re_116 in_To_takeSemicolon se_To_takeSemicolon s5 rfl d_Re_takeStep_191 k_To_takeSemicolon rfl rfl (Nat.le_of_ble_eq_true rfl) (by decide) (by decide) (Sp.mono h ?_)
    rintro rS6 shS6 S6 ⟨qS6, x7, uS6, h⟩
    subst uS6
    rw [qS6]
    refine r_if_eq (pc := 194) d_Re_takeStep_194 (tgt := 201) (by decide) (fun c8 => ?_) (fun c8 => ?_)
    · replace h := h.1 c8
      refine r_iconst (pc := 201) d_Re_takeStep_201 (v := 0) (by decide) ?_
      exact r_zreturn (pc := 202) d_Re_takeStep_202 (v := 0) rfl (by decide) rfl (Nat.le_refl _) ⟨rfl, _, rfl, h⟩
    · replace h := h.2 c8
      refine r_iconst (pc := 197) d_Re_takeStep_197 (v := 1) (by decide) ?_
      refine r_goto (pc := 198) d_Re_takeStep_198 (tgt := 202) (by decide) ?_
      exact r_zreturn (pc := 202) d_Re_takeStep_202 (v := 1) rfl (by decide) rfl (Nat.le_refl _) ⟨rfl, _, rfl, h⟩
set_option maxRecDepth 4000 in
theorem e_Re_isStep {l : Launch} {d : Nat} {sh : aw_SH} {S : aw_S} {P : Int32 → aw_S → Prop} {p0 : Int32} (h : ((p0 = 4 → P 1 S) ∧ (¬ p0 = 4 → ((p0 = 7 → P 1 S) ∧ (¬ p0 = 7 → ((p0 = 8 → P 1 S) ∧ (¬ p0 = 8 → ((p0 = 9 → P 1 S) ∧ (¬ p0 = 9 → ((p0 = 10 → P 1 S) ∧ (¬ p0 = 10 → ((p0 = 11 → P 1 S) ∧ (¬ p0 = 11 → ((p0 = 16 → P 1 S) ∧ (¬ p0 = 16 → ((¬ p0 = 18 → P 0 S) ∧ (p0 = 18 → P 1 S))))))))))))))))) : Sp l m_Re_isStep (d + 1) 0 0 [.int p0] sh S (gI sh P) := by
  refine Sp.of k_Re_isStep (ls := [.int p0]) rfl (Nat.le_of_ble_eq_true rfl) ?_
  refine r_iload_n (pc := 0) d_Re_isStep_0 (x := p0) rfl ?_
  refine r_iconst (pc := 1) d_Re_isStep_1 (v := 4) (by decide) ?_
  refine r_icmp_eq (pc := 2) d_Re_isStep_2 (tgt := 47) (by decide) (fun c1 => ?_) (fun c1 => ?_)
  · replace h := h.1 c1
    refine r_iconst (pc := 47) d_Re_isStep_47 (v := 1) (by decide) ?_
    refine r_goto (pc := 48) d_Re_isStep_48 (tgt := 52) (by decide) ?_
    exact r_zreturn (pc := 52) d_Re_isStep_52 (v := 1) rfl (by decide) rfl (Nat.le_refl _) ⟨rfl, _, rfl, h⟩
  · replace h := h.2 c1
    refine r_iload_n (pc := 5) d_Re_isStep_5 (x := p0) rfl ?_
    refine r_bipush (pc := 6) d_Re_isStep_6 (v := 7) (by decide) ?_
    refine r_icmp_eq (pc := 8) d_Re_isStep_8 (tgt := 47) (by decide) (fun c2 => ?_) (fun c2 => ?_)
    · replace h := h.1 c2
      refine r_iconst (pc := 47) d_Re_isStep_47 (v := 1) (by decide) ?_
      refine r_goto (pc := 48) d_Re_isStep_48 (tgt := 52) (by decide) ?_
      exact r_zreturn (pc := 52) d_Re_isStep_52 (v := 1) rfl (by decide) rfl (Nat.le_refl _) ⟨rfl, _, rfl, h⟩
    · replace h := h.2 c2
      refine r_iload_n (pc := 11) d_Re_isStep_11 (x := p0) rfl ?_
      refine r_bipush (pc := 12) d_Re_isStep_12 (v := 8) (by decide) ?_
      refine r_icmp_eq (pc := 14) d_Re_isStep_14 (tgt := 47) (by decide) (fun c3 => ?_) (fun c3 => ?_)
      · replace h := h.1 c3
        refine r_iconst (pc := 47) d_Re_isStep_47 (v := 1) (by decide) ?_
        refine r_goto (pc := 48) d_Re_isStep_48 (tgt := 52) (by decide) ?_
        exact r_zreturn (pc := 52) d_Re_isStep_52 (v := 1) rfl (by decide) rfl (Nat.le_refl _) ⟨rfl, _, rfl, h⟩
      · replace h := h.2 c3
        refine r_iload_n (pc := 17) d_Re_isStep_17 (x := p0) rfl ?_
        refine r_bipush (pc := 18) d_Re_isStep_18 (v := 9) (by decide) ?_
        refine r_icmp_eq (pc := 20) d_Re_isStep_20 (tgt := 47) (by decide) (fun c4 => ?_) (fun c4 => ?_)
        · replace h := h.1 c4
          refine r_iconst (pc := 47) d_Re_isStep_47 (v := 1) (by decide) ?_
          refine r_goto (pc := 48) d_Re_isStep_48 (tgt := 52) (by decide) ?_
          exact r_zreturn (pc := 52) d_Re_isStep_52 (v := 1) rfl (by decide) rfl (Nat.le_refl _) ⟨rfl, _, rfl, h⟩
        · replace h := h.2 c4
          refine r_iload_n (pc := 23) d_Re_isStep_23 (x := p0) rfl ?_
          refine r_bipush (pc := 24) d_Re_isStep_24 (v := 10) (by decide) ?_
          refine r_icmp_eq (pc := 26) d_Re_isStep_26 (tgt := 47) (by decide) (fun c5 => ?_) (fun c5 => ?_)
          · replace h := h.1 c5
            refine r_iconst (pc := 47) d_Re_isStep_47 (v := 1) (by decide) ?_
            refine r_goto (pc := 48) d_Re_isStep_48 (tgt := 52) (by decide) ?_
            exact r_zreturn (pc := 52) d_Re_isStep_52 (v := 1) rfl (by decide) rfl (Nat.le_refl _) ⟨rfl, _, rfl, h⟩
          · replace h := h.2 c5
            refine r_iload_n (pc := 29) d_Re_isStep_29 (x := p0) rfl ?_
            refine r_bipush (pc := 30) d_Re_isStep_30 (v := 11) (by decide) ?_
            refine r_icmp_eq (pc := 32) d_Re_isStep_32 (tgt := 47) (by decide) (fun c6 => ?_) (fun c6 => ?_)
            · replace h := h.1 c6
              refine r_iconst (pc := 47) d_Re_isStep_47 (v := 1) (by decide) ?_
              refine r_goto (pc := 48) d_Re_isStep_48 (tgt := 52) (by decide) ?_
              exact r_zreturn (pc := 52) d_Re_isStep_52 (v := 1) rfl (by decide) rfl (Nat.le_refl _) ⟨rfl, _, rfl, h⟩
            · replace h := h.2 c6
              refine r_iload_n (pc := 35) d_Re_isStep_35 (x := p0) rfl ?_
              refine r_bipush (pc := 36) d_Re_isStep_36 (v := 16) (by decide) ?_
              refine r_icmp_eq (pc := 38) d_Re_isStep_38 (tgt := 47) (by decide) (fun c7 => ?_) (fun c7 => ?_)
              · replace h := h.1 c7
                refine r_iconst (pc := 47) d_Re_isStep_47 (v := 1) (by decide) ?_
                refine r_goto (pc := 48) d_Re_isStep_48 (tgt := 52) (by decide) ?_
                exact r_zreturn (pc := 52) d_Re_isStep_52 (v := 1) rfl (by decide) rfl (Nat.le_refl _) ⟨rfl, _, rfl, h⟩
              · replace h := h.2 c7
                refine r_iload_n (pc := 41) d_Re_isStep_41 (x := p0) rfl ?_
                refine r_bipush (pc := 42) d_Re_isStep_42 (v := 18) (by decide) ?_
                refine r_icmp_ne (pc := 44) d_Re_isStep_44 (tgt := 51) (by decide) (fun c8 => ?_) (fun c8 => ?_)
                · replace h := h.1 c8
                  refine r_iconst (pc := 51) d_Re_isStep_51 (v := 0) (by decide) ?_
                  exact r_zreturn (pc := 52) d_Re_isStep_52 (v := 0) rfl (by decide) rfl (Nat.le_refl _) ⟨rfl, _, rfl, h⟩
                · replace h := h.2 c8
                  refine r_iconst (pc := 47) d_Re_isStep_47 (v := 1) (by decide) ?_
                  refine r_goto (pc := 48) d_Re_isStep_48 (tgt := 52) (by decide) ?_
                  exact r_zreturn (pc := 52) d_Re_isStep_52 (v := 1) rfl (by decide) rfl (Nat.le_refl _) ⟨rfl, _, rfl, h⟩
set_option maxRecDepth 4000 in
theorem e_Re_testForm {l : Launch} {d : Nat} {sh : aw_SH} {S : aw_S} {P : Int32 → aw_S → Prop} {a : Nat} {p0 : Int32} (sa : sh[a]? = some (0, 5)) (h : ∃ r1, S.2.2 a 2 = some r1 ∧ sh[r1]? = some (0, 6) ∧ Sp l m_To_reservedWord d 0 0 [.ref r1] sh S (gI sh (fun x4 S3 => ((x4 = 12 → ∃ r6, S3.2.2 a 4 = some r6 ∧ sh[r6]? = some (0, 4) ∧ ∃ r8, S3.2.2 r6 3 = some r8 ∧ ∃ n10, sh[r8]? = some (3, n10) ∧ vp_in p0 n10 ∧ ∃ r12, (aw_uI S3 r8 p0.toNatClampNeg x4).2.2 a 2 = some r12 ∧ sh[r12]? = some (0, 6) ∧ Sp l m_To_advance d 0 0 [.ref r12] sh (aw_uI S3 r8 p0.toNatClampNeg x4) (gV sh (fun S14 => P x4 S14))) ∧ (¬ x4 = 12 → ((x4 = 13 → ∃ r16, S3.2.2 a 4 = some r16 ∧ sh[r16]? = some (0, 4) ∧ ∃ r18, S3.2.2 r16 3 = some r18 ∧ ∃ n20, sh[r18]? = some (3, n20) ∧ vp_in p0 n20 ∧ ∃ r22, (aw_uI S3 r18 p0.toNatClampNeg x4).2.2 a 2 = some r22 ∧ sh[r22]? = some (0, 6) ∧ Sp l m_To_advance d 0 0 [.ref r22] sh (aw_uI S3 r18 p0.toNatClampNeg x4) (gV sh (fun S24 => P x4 S24))) ∧ (¬ x4 = 13 → ((x4 = 14 → ∃ r26, S3.2.2 a 4 = some r26 ∧ sh[r26]? = some (0, 4) ∧ ∃ r28, S3.2.2 r26 3 = some r28 ∧ ∃ n30, sh[r28]? = some (3, n30) ∧ vp_in p0 n30 ∧ ∃ r32, (aw_uI S3 r28 p0.toNatClampNeg x4).2.2 a 2 = some r32 ∧ sh[r32]? = some (0, 6) ∧ Sp l m_To_advance d 0 0 [.ref r32] sh (aw_uI S3 r28 p0.toNatClampNeg x4) (gV sh (fun S34 => P x4 S34))) ∧ (¬ x4 = 14 → ((x4 = 15 → ∃ r36, S3.2.2 a 4 = some r36 ∧ sh[r36]? = some (0, 4) ∧ ∃ r38, S3.2.2 r36 3 = some r38 ∧ ∃ n40, sh[r38]? = some (3, n40) ∧ vp_in p0 n40 ∧ ∃ r42, (aw_uI S3 r38 p0.toNatClampNeg x4).2.2 a 2 = some r42 ∧ sh[r42]? = some (0, 6) ∧ Sp l m_To_advance d 0 0 [.ref r42] sh (aw_uI S3 r38 p0.toNatClampNeg x4) (gV sh (fun S44 => P x4 S44))) ∧ (¬ x4 = 15 → P 11 S3))))))))))) : Sp l m_Re_testForm (d + 1) 0 0 [.ref a, .int p0] sh S (gI sh P) := by
  refine Sp.of k_Re_testForm (ls := [.ref a, .int p0, .null]) rfl (Nat.le_of_ble_eq_true rfl) ?_
  refine r_aload_n (pc := 0) d_Re_testForm_0 (x := a) rfl ?_
  obtain ⟨r1, er1, h⟩ := h
  refine r_getR (pc := 1) d_Re_testForm_1 f_Re_12 sa (Or.inl ⟨_, rfl⟩) (r := r1) er1 ?_
  obtain ⟨s2, h⟩ := h
  refine r_callV (pc := 4) (k := r1) (As := []) (rest := []) (mc' := 0) (ms' := 0) lk_Re_72 in_To_reservedWord se_To_reservedWord s2 rfl d_Re_testForm_4 k_To_reservedWord rfl rfl (Nat.le_of_ble_eq_true rfl) (by decide) (by decide) (Sp.mono h ?_)
  rintro rS3 shS3 S3 ⟨qS3, x4, uS3, h⟩
  subst uS3
  rw [qS3]
  refine r_istore_n (pc := 7) (hk := rfl) (hd := d_Re_testForm_7) (hi := by decide) (ls2 := [.ref a, .int p0, .int x4]) (h2 := rfl) ?_
  refine r_iload_n (pc := 8) d_Re_testForm_8 (x := x4) rfl ?_
  refine r_bipush (pc := 9) d_Re_testForm_9 (v := 12) (by decide) ?_
  refine r_icmp_eq (pc := 11) d_Re_testForm_11 (tgt := 35) (by decide) (fun c5 => ?_) (fun c5 => ?_)
  · replace h := h.1 c5
    refine r_aload_n (pc := 35) d_Re_testForm_35 (x := a) rfl ?_
    obtain ⟨r6, er6, h⟩ := h
    refine r_getR (pc := 36) d_Re_testForm_36 f_Re_59 sa (Or.inl ⟨_, rfl⟩) (r := r6) er6 ?_
    obtain ⟨s7, h⟩ := h
    obtain ⟨r8, er8, h⟩ := h
    refine r_getR (pc := 39) d_Re_testForm_39 f_Re_172 s7 (Or.inr ⟨_, rfl⟩) (r := r8) er8 ?_
    refine r_iload_n (pc := 42) d_Re_testForm_42 (x := p0) rfl ?_
    refine r_iload_n (pc := 43) d_Re_testForm_43 (x := x4) rfl ?_
    obtain ⟨n10, s9, h⟩ := h
    obtain ⟨g11, h⟩ := h
    refine r_iast (pc := 44) d_Re_testForm_44 s9 g11 ?_
    refine r_aload_n (pc := 45) d_Re_testForm_45 (x := a) rfl ?_
    obtain ⟨r12, er12, h⟩ := h
    refine r_getR (pc := 46) d_Re_testForm_46 f_Re_12 sa (Or.inl ⟨_, rfl⟩) (r := r12) er12 ?_
    obtain ⟨s13, h⟩ := h
    refine r_callV (pc := 49) (k := r12) (As := []) (rest := []) (mc' := 0) (ms' := 0) lk_Re_106 in_To_advance se_To_advance s13 rfl d_Re_testForm_49 k_To_advance rfl rfl (Nat.le_of_ble_eq_true rfl) (by decide) (by decide) (Sp.mono h ?_)
    rintro rS14 shS14 S14 ⟨qS14, uS14, h⟩
    subst uS14
    rw [qS14]
    refine r_iload_n (pc := 52) d_Re_testForm_52 (x := x4) rfl ?_
    exact r_ireturn (pc := 53) d_Re_testForm_53 rfl rfl (Nat.le_refl _) ⟨rfl, _, rfl, h⟩
  · replace h := h.2 c5
    refine r_iload_n (pc := 14) d_Re_testForm_14 (x := x4) rfl ?_
    refine r_bipush (pc := 15) d_Re_testForm_15 (v := 13) (by decide) ?_
    refine r_icmp_eq (pc := 17) d_Re_testForm_17 (tgt := 35) (by decide) (fun c15 => ?_) (fun c15 => ?_)
    · replace h := h.1 c15
      refine r_aload_n (pc := 35) d_Re_testForm_35 (x := a) rfl ?_
      obtain ⟨r16, er16, h⟩ := h
      refine r_getR (pc := 36) d_Re_testForm_36 f_Re_59 sa (Or.inl ⟨_, rfl⟩) (r := r16) er16 ?_
      obtain ⟨s17, h⟩ := h
      obtain ⟨r18, er18, h⟩ := h
      refine r_getR (pc := 39) d_Re_testForm_39 f_Re_172 s17 (Or.inr ⟨_, rfl⟩) (r := r18) er18 ?_
      refine r_iload_n (pc := 42) d_Re_testForm_42 (x := p0) rfl ?_
      refine r_iload_n (pc := 43) d_Re_testForm_43 (x := x4) rfl ?_
      obtain ⟨n20, s19, h⟩ := h
      obtain ⟨g21, h⟩ := h
      refine r_iast (pc := 44) d_Re_testForm_44 s19 g21 ?_
      refine r_aload_n (pc := 45) d_Re_testForm_45 (x := a) rfl ?_
      obtain ⟨r22, er22, h⟩ := h
      refine r_getR (pc := 46) d_Re_testForm_46 f_Re_12 sa (Or.inl ⟨_, rfl⟩) (r := r22) er22 ?_
      obtain ⟨s23, h⟩ := h
      refine r_callV (pc := 49) (k := r22) (As := []) (rest := []) (mc' := 0) (ms' := 0) lk_Re_106 in_To_advance se_To_advance s23 rfl d_Re_testForm_49 k_To_advance rfl rfl (Nat.le_of_ble_eq_true rfl) (by decide) (by decide) (Sp.mono h ?_)
      rintro rS24 shS24 S24 ⟨qS24, uS24, h⟩
      subst uS24
      rw [qS24]
      refine r_iload_n (pc := 52) d_Re_testForm_52 (x := x4) rfl ?_
      exact r_ireturn (pc := 53) d_Re_testForm_53 rfl rfl (Nat.le_refl _) ⟨rfl, _, rfl, h⟩
    · replace h := h.2 c15
      refine r_iload_n (pc := 20) d_Re_testForm_20 (x := x4) rfl ?_
      refine r_bipush (pc := 21) d_Re_testForm_21 (v := 14) (by decide) ?_
      refine r_icmp_eq (pc := 23) d_Re_testForm_23 (tgt := 35) (by decide) (fun c25 => ?_) (fun c25 => ?_)
      · replace h := h.1 c25
        refine r_aload_n (pc := 35) d_Re_testForm_35 (x := a) rfl ?_
        obtain ⟨r26, er26, h⟩ := h
        refine r_getR (pc := 36) d_Re_testForm_36 f_Re_59 sa (Or.inl ⟨_, rfl⟩) (r := r26) er26 ?_
        obtain ⟨s27, h⟩ := h
        obtain ⟨r28, er28, h⟩ := h
        refine r_getR (pc := 39) d_Re_testForm_39 f_Re_172 s27 (Or.inr ⟨_, rfl⟩) (r := r28) er28 ?_
        refine r_iload_n (pc := 42) d_Re_testForm_42 (x := p0) rfl ?_
        refine r_iload_n (pc := 43) d_Re_testForm_43 (x := x4) rfl ?_
        obtain ⟨n30, s29, h⟩ := h
        obtain ⟨g31, h⟩ := h
        refine r_iast (pc := 44) d_Re_testForm_44 s29 g31 ?_
        refine r_aload_n (pc := 45) d_Re_testForm_45 (x := a) rfl ?_
        obtain ⟨r32, er32, h⟩ := h
        refine r_getR (pc := 46) d_Re_testForm_46 f_Re_12 sa (Or.inl ⟨_, rfl⟩) (r := r32) er32 ?_
        obtain ⟨s33, h⟩ := h
        refine r_callV (pc := 49) (k := r32) (As := []) (rest := []) (mc' := 0) (ms' := 0) lk_Re_106 in_To_advance se_To_advance s33 rfl d_Re_testForm_49 k_To_advance rfl rfl (Nat.le_of_ble_eq_true rfl) (by decide) (by decide) (Sp.mono h ?_)
        rintro rS34 shS34 S34 ⟨qS34, uS34, h⟩
        subst uS34
        rw [qS34]
        refine r_iload_n (pc := 52) d_Re_testForm_52 (x := x4) rfl ?_
        exact r_ireturn (pc := 53) d_Re_testForm_53 rfl rfl (Nat.le_refl _) ⟨rfl, _, rfl, h⟩
      · replace h := h.2 c25
        refine r_iload_n (pc := 26) d_Re_testForm_26 (x := x4) rfl ?_
        refine r_bipush (pc := 27) d_Re_testForm_27 (v := 15) (by decide) ?_
        refine r_icmp_eq (pc := 29) d_Re_testForm_29 (tgt := 35) (by decide) (fun c35 => ?_) (fun c35 => ?_)
        · replace h := h.1 c35
          refine r_aload_n (pc := 35) d_Re_testForm_35 (x := a) rfl ?_
          obtain ⟨r36, er36, h⟩ := h
          refine r_getR (pc := 36) d_Re_testForm_36 f_Re_59 sa (Or.inl ⟨_, rfl⟩) (r := r36) er36 ?_
          obtain ⟨s37, h⟩ := h
          obtain ⟨r38, er38, h⟩ := h
          refine r_getR (pc := 39) d_Re_testForm_39 f_Re_172 s37 (Or.inr ⟨_, rfl⟩) (r := r38) er38 ?_
          refine r_iload_n (pc := 42) d_Re_testForm_42 (x := p0) rfl ?_
          refine r_iload_n (pc := 43) d_Re_testForm_43 (x := x4) rfl ?_
          obtain ⟨n40, s39, h⟩ := h
          obtain ⟨g41, h⟩ := h
          refine r_iast (pc := 44) d_Re_testForm_44 s39 g41 ?_
          refine r_aload_n (pc := 45) d_Re_testForm_45 (x := a) rfl ?_
          obtain ⟨r42, er42, h⟩ := h
          refine r_getR (pc := 46) d_Re_testForm_46 f_Re_12 sa (Or.inl ⟨_, rfl⟩) (r := r42) er42 ?_
          obtain ⟨s43, h⟩ := h
          refine r_callV (pc := 49) (k := r42) (As := []) (rest := []) (mc' := 0) (ms' := 0) lk_Re_106 in_To_advance se_To_advance s43 rfl d_Re_testForm_49 k_To_advance rfl rfl (Nat.le_of_ble_eq_true rfl) (by decide) (by decide) (Sp.mono h ?_)
          rintro rS44 shS44 S44 ⟨qS44, uS44, h⟩
          subst uS44
          rw [qS44]
          refine r_iload_n (pc := 52) d_Re_testForm_52 (x := x4) rfl ?_
          exact r_ireturn (pc := 53) d_Re_testForm_53 rfl rfl (Nat.le_refl _) ⟨rfl, _, rfl, h⟩
        · replace h := h.2 c35
          refine r_bipush (pc := 32) d_Re_testForm_32 (v := 11) (by decide) ?_
          exact r_ireturn (pc := 34) d_Re_testForm_34 rfl rfl (Nat.le_refl _) ⟨rfl, _, rfl, h⟩
set_option maxRecDepth 4000 in
theorem e_Re_takeRest {l : Launch} {d : Nat} {sh : aw_SH} {S : aw_S} {P : Int32 → aw_S → Prop} {a : Nat} {p0 : Int32} {p1 : Int32} (sa : sh[a]? = some (0, 5)) (h : ((((p1 : Int32).toInt < 4 ∨ 16 < (p1 : Int32).toInt) → P 1 S) ∧ (p1 = 4 → ∃ r1, S.2.2 a 3 = some r1 ∧ sh[r1]? = some (0, 2) ∧ Sp l m_Gr_gaps d 0 0 [.ref r1] sh S (gI sh (fun x4 S3 => Sp l m_Re_takeFirst d 0 0 [.ref a, .int p0, .int 0, .int (x4 - (1 : Int32))] sh S3 (gI sh (fun x6 S5 => ((x6 = 0 → P 0 S5) ∧ (¬ x6 = 0 → Sp l m_Re_takeHow d 0 0 [.ref a, .int p0] sh S5 (gI sh (fun x9 S8 => ((x9 = 0 → P 0 S8) ∧ (¬ x9 = 0 → P 1 S8))))))))))) ∧ (p1 = 5 → P 1 S) ∧ (p1 = 6 → P 1 S) ∧ (p1 = 7 → P 1 S) ∧ (p1 = 8 → Sp l m_Re_takeFirst d 0 0 [.ref a, .int p0, .int 1, .int 9] sh S (gI sh (fun x12 S11 => ((x12 = 0 ∨ x12 = 1) ∧ P x12 S11)))) ∧ (p1 = 9 → Sp l m_Re_takeKnown d 0 0 [.ref a, .int p0] sh S (gI sh (fun x15 S14 => ((x15 = 0 → P 0 S14) ∧ (¬ x15 = 0 → Sp l m_Re_takeSecond d 0 0 [.ref a, .int p0, .int 0, .int 5] sh S14 (gI sh (fun x18 S17 => ((x18 = 0 → P 0 S17) ∧ (¬ x18 = 0 → P 1 S17))))))))) ∧ (p1 = 10 → P 1 S) ∧ (p1 = 11 → ∃ r20, S.2.2 a 2 = some r20 ∧ sh[r20]? = some (0, 6) ∧ Sp l m_To_blame d 0 0 [.ref r20, .int 2] sh S (gI sh (fun x23 S22 => ((x23 = 0 ∨ x23 = 1) ∧ P x23 S22)))) ∧ (p1 = 12 → Sp l m_Re_takeKnown d 0 0 [.ref a, .int p0] sh S (gI sh (fun x26 S25 => ((x26 = 0 ∨ x26 = 1) ∧ P x26 S25)))) ∧ (p1 = 13 → Sp l m_Re_takeKnown d 0 0 [.ref a, .int p0] sh S (gI sh (fun x29 S28 => ((x29 = 0 → P 0 S28) ∧ (¬ x29 = 0 → ∃ r31, S28.2.2 a 3 = some r31 ∧ sh[r31]? = some (0, 2) ∧ Sp l m_Re_takeSecond d 0 0 [.ref a, .int p0, .int 0, .int ((S28.1 r31 0) - (1 : Int32))] sh S28 (gI sh (fun x34 S33 => ((x34 = 0 → P 0 S33) ∧ (¬ x34 = 0 → P 1 S33))))))))) ∧ (p1 = 14 → ∃ r36, S.2.2 a 3 = some r36 ∧ sh[r36]? = some (0, 2) ∧ Sp l m_Gr_gaps d 0 0 [.ref r36] sh S (gI sh (fun x39 S38 => Sp l m_Re_takeFirst d 0 0 [.ref a, .int p0, .int 0, .int (x39 - (1 : Int32))] sh S38 (gI sh (fun x41 S40 => ((x41 = 0 → P 0 S40) ∧ (¬ x41 = 0 → Sp l m_Re_takeSecond d 0 0 [.ref a, .int p0, .int 0, .int 6] sh S40 (gI sh (fun x44 S43 => ((x44 = 0 → P 0 S43) ∧ (¬ x44 = 0 → P 1 S43))))))))))) ∧ (p1 = 15 → Sp l m_Re_takeCompares d 0 0 [.ref a, .int p0] sh S (gI sh (fun x47 S46 => ((x47 = 0 → P 0 S46) ∧ (¬ x47 = 0 → Sp l m_Re_takeSecond d 0 0 [.ref a, .int p0, .int 0, .int 40] sh S46 (gI sh (fun x50 S49 => ((x50 = 0 → P 0 S49) ∧ (¬ x50 = 0 → P 1 S49))))))))) ∧ (p1 = 16 → Sp l m_Re_takeFirst d 0 0 [.ref a, .int p0, .int 1, .int 99] sh S (gI sh (fun x53 S52 => ((x53 = 0 ∨ x53 = 1) ∧ P x53 S52)))))) : Sp l m_Re_takeRest (d + 1) 0 0 [.ref a, .int p0, .int p1] sh S (gI sh P) := by
  refine Sp.of k_Re_takeRest (ls := [.ref a, .int p0, .int p1]) rfl (Nat.le_of_ble_eq_true rfl) ?_
  refine r_iload_n (pc := 0) d_Re_takeRest_0 (x := p1) rfl ?_
  rcases aw_sw (p1) 4 16 with q55 | ⟨kq55, q55, wq55⟩
  · refine r_tabOut (pc := 1) d_Re_takeRest_1 q55 (tgt := 249) (by decide) ?_
    replace h := h.1 q55
    refine r_iconst (pc := 249) d_Re_takeRest_249 (v := 1) (by decide) ?_
    exact r_zreturn (pc := 250) d_Re_takeRest_250 (v := 1) rfl (by decide) rfl (Nat.le_refl _) ⟨rfl, _, rfl, h⟩
  · rcases (show kq55 = 0 ∨ kq55 = 1 ∨ kq55 = 2 ∨ kq55 = 3 ∨ kq55 = 4 ∨ kq55 = 5 ∨ kq55 = 6 ∨ kq55 = 7 ∨ kq55 = 8 ∨ kq55 = 9 ∨ kq55 = 10 ∨ kq55 = 11 ∨ kq55 = 12 by omega) with rfl | rfl | rfl | rfl | rfl | rfl | rfl | rfl | rfl | rfl | rfl | rfl | rfl
    · refine r_tabIn (pc := 1) d_Re_takeRest_1 (off := 67) (by omega) (by omega) (by rw [q55]; rfl) (tgt := 68) (by decide) ?_
      replace h := h.2.1 (aw_ix (y := 4) q55 (by decide))
      refine r_aload_n (pc := 68) d_Re_takeRest_68 (x := a) rfl ?_
      refine r_iload_n (pc := 69) d_Re_takeRest_69 (x := p0) rfl ?_
      refine r_iconst (pc := 70) d_Re_takeRest_70 (v := 0) (by decide) ?_
      refine r_aload_n (pc := 71) d_Re_takeRest_71 (x := a) rfl ?_
      obtain ⟨r1, er1, h⟩ := h
      refine r_getR (pc := 72) d_Re_takeRest_72 f_Re_22 sa (Or.inl ⟨_, rfl⟩) (r := r1) er1 ?_
      obtain ⟨s2, h⟩ := h
      refine r_callV (pc := 75) (k := r1) (As := []) (rest := [.int 0, .int p0, .ref a]) (mc' := 0) (ms' := 0) lk_Re_143 in_Gr_gaps se_Gr_gaps s2 rfl d_Re_takeRest_75 k_Gr_gaps rfl rfl (Nat.le_of_ble_eq_true rfl) (by decide) (by decide) (Sp.mono h ?_)
      rintro rS3 shS3 S3 ⟨qS3, x4, uS3, h⟩
      subst uS3
      rw [qS3]
      refine r_iconst (pc := 78) d_Re_takeRest_78 (v := 1) (by decide) ?_
      refine r_isub (pc := 79) d_Re_takeRest_79 ?_
      refine r_callV (pc := 80) (k := a) (As := [.int p0, .int 0, .int (x4 - (1 : Int32))]) (rest := []) (mc' := 0) (ms' := 0) lk_Re_175 in_Re_takeFirst se_Re_takeFirst sa rfl d_Re_takeRest_80 k_Re_takeFirst rfl rfl (Nat.le_of_ble_eq_true rfl) (by decide) (by decide) (Sp.mono h ?_)
      rintro rS5 shS5 S5 ⟨qS5, x6, uS5, h⟩
      subst uS5
      rw [qS5]
      refine r_if_eq (pc := 83) d_Re_takeRest_83 (tgt := 98) (by decide) (fun c7 => ?_) (fun c7 => ?_)
      · replace h := h.1 c7
        refine r_iconst (pc := 98) d_Re_takeRest_98 (v := 0) (by decide) ?_
        exact r_zreturn (pc := 99) d_Re_takeRest_99 (v := 0) rfl (by decide) rfl (Nat.le_refl _) ⟨rfl, _, rfl, h⟩
      · replace h := h.2 c7
        refine r_aload_n (pc := 86) d_Re_takeRest_86 (x := a) rfl ?_
        refine r_iload_n (pc := 87) d_Re_takeRest_87 (x := p0) rfl ?_
        refine r_callV (pc := 88) (k := a) (As := [.int p0]) (rest := []) (mc' := 0) (ms' := 0) lk_Re_179 in_Re_takeHow se_Re_takeHow sa rfl d_Re_takeRest_88 k_Re_takeHow rfl rfl (Nat.le_of_ble_eq_true rfl) (by decide) (by decide) (Sp.mono h ?_)
        rintro rS8 shS8 S8 ⟨qS8, x9, uS8, h⟩
        subst uS8
        rw [qS8]
        refine r_if_eq (pc := 91) d_Re_takeRest_91 (tgt := 98) (by decide) (fun c10 => ?_) (fun c10 => ?_)
        · replace h := h.1 c10
          refine r_iconst (pc := 98) d_Re_takeRest_98 (v := 0) (by decide) ?_
          exact r_zreturn (pc := 99) d_Re_takeRest_99 (v := 0) rfl (by decide) rfl (Nat.le_refl _) ⟨rfl, _, rfl, h⟩
        · replace h := h.2 c10
          refine r_iconst (pc := 94) d_Re_takeRest_94 (v := 1) (by decide) ?_
          refine r_goto (pc := 95) d_Re_takeRest_95 (tgt := 99) (by decide) ?_
          exact r_zreturn (pc := 99) d_Re_takeRest_99 (v := 1) rfl (by decide) rfl (Nat.le_refl _) ⟨rfl, _, rfl, h⟩
    · refine r_tabIn (pc := 1) d_Re_takeRest_1 (off := 248) (by omega) (by omega) (by rw [q55]; rfl) (tgt := 249) (by decide) ?_
      replace h := h.2.2.1 (aw_ix (y := 5) q55 (by decide))
      refine r_iconst (pc := 249) d_Re_takeRest_249 (v := 1) (by decide) ?_
      exact r_zreturn (pc := 250) d_Re_takeRest_250 (v := 1) rfl (by decide) rfl (Nat.le_refl _) ⟨rfl, _, rfl, h⟩
    · refine r_tabIn (pc := 1) d_Re_takeRest_1 (off := 248) (by omega) (by omega) (by rw [q55]; rfl) (tgt := 249) (by decide) ?_
      replace h := h.2.2.2.1 (aw_ix (y := 6) q55 (by decide))
      refine r_iconst (pc := 249) d_Re_takeRest_249 (v := 1) (by decide) ?_
      exact r_zreturn (pc := 250) d_Re_takeRest_250 (v := 1) rfl (by decide) rfl (Nat.le_refl _) ⟨rfl, _, rfl, h⟩
    · refine r_tabIn (pc := 1) d_Re_takeRest_1 (off := 248) (by omega) (by omega) (by rw [q55]; rfl) (tgt := 249) (by decide) ?_
      replace h := h.2.2.2.2.1 (aw_ix (y := 7) q55 (by decide))
      refine r_iconst (pc := 249) d_Re_takeRest_249 (v := 1) (by decide) ?_
      exact r_zreturn (pc := 250) d_Re_takeRest_250 (v := 1) rfl (by decide) rfl (Nat.le_refl _) ⟨rfl, _, rfl, h⟩
    · refine r_tabIn (pc := 1) d_Re_takeRest_1 (off := 99) (by omega) (by omega) (by rw [q55]; rfl) (tgt := 100) (by decide) ?_
      replace h := h.2.2.2.2.2.1 (aw_ix (y := 8) q55 (by decide))
      refine r_aload_n (pc := 100) d_Re_takeRest_100 (x := a) rfl ?_
      refine r_iload_n (pc := 101) d_Re_takeRest_101 (x := p0) rfl ?_
      refine r_iconst (pc := 102) d_Re_takeRest_102 (v := 1) (by decide) ?_
      refine r_bipush (pc := 103) d_Re_takeRest_103 (v := 9) (by decide) ?_
      refine r_callV (pc := 105) (k := a) (As := [.int p0, .int 1, .int 9]) (rest := []) (mc' := 0) (ms' := 0) lk_Re_175 in_Re_takeFirst se_Re_takeFirst sa rfl d_Re_takeRest_105 k_Re_takeFirst rfl rfl (Nat.le_of_ble_eq_true rfl) (by decide) (by decide) (Sp.mono h ?_)
      rintro rS11 shS11 S11 ⟨qS11, x12, uS11, h⟩
      subst uS11
      rw [qS11]
      obtain ⟨g13, h⟩ := h
      exact r_zreturn (pc := 108) d_Re_takeRest_108 rfl (aw_nb g13) rfl (Nat.le_refl _) ⟨rfl, _, rfl, h⟩
    · refine r_tabIn (pc := 1) d_Re_takeRest_1 (off := 108) (by omega) (by omega) (by rw [q55]; rfl) (tgt := 109) (by decide) ?_
      replace h := h.2.2.2.2.2.2.1 (aw_ix (y := 9) q55 (by decide))
      refine r_aload_n (pc := 109) d_Re_takeRest_109 (x := a) rfl ?_
      refine r_iload_n (pc := 110) d_Re_takeRest_110 (x := p0) rfl ?_
      refine r_callV (pc := 111) (k := a) (As := [.int p0]) (rest := []) (mc' := 0) (ms' := 0) lk_Re_182 in_Re_takeKnown se_Re_takeKnown sa rfl d_Re_takeRest_111 k_Re_takeKnown rfl rfl (Nat.le_of_ble_eq_true rfl) (by decide) (by decide) (Sp.mono h ?_)
      rintro rS14 shS14 S14 ⟨qS14, x15, uS14, h⟩
      subst uS14
      rw [qS14]
      refine r_if_eq (pc := 114) d_Re_takeRest_114 (tgt := 131) (by decide) (fun c16 => ?_) (fun c16 => ?_)
      · replace h := h.1 c16
        refine r_iconst (pc := 131) d_Re_takeRest_131 (v := 0) (by decide) ?_
        exact r_zreturn (pc := 132) d_Re_takeRest_132 (v := 0) rfl (by decide) rfl (Nat.le_refl _) ⟨rfl, _, rfl, h⟩
      · replace h := h.2 c16
        refine r_aload_n (pc := 117) d_Re_takeRest_117 (x := a) rfl ?_
        refine r_iload_n (pc := 118) d_Re_takeRest_118 (x := p0) rfl ?_
        refine r_iconst (pc := 119) d_Re_takeRest_119 (v := 0) (by decide) ?_
        refine r_iconst (pc := 120) d_Re_takeRest_120 (v := 5) (by decide) ?_
        refine r_callV (pc := 121) (k := a) (As := [.int p0, .int 0, .int 5]) (rest := []) (mc' := 0) (ms' := 0) lk_Re_185 in_Re_takeSecond se_Re_takeSecond sa rfl d_Re_takeRest_121 k_Re_takeSecond rfl rfl (Nat.le_of_ble_eq_true rfl) (by decide) (by decide) (Sp.mono h ?_)
        rintro rS17 shS17 S17 ⟨qS17, x18, uS17, h⟩
        subst uS17
        rw [qS17]
        refine r_if_eq (pc := 124) d_Re_takeRest_124 (tgt := 131) (by decide) (fun c19 => ?_) (fun c19 => ?_)
        · replace h := h.1 c19
          refine r_iconst (pc := 131) d_Re_takeRest_131 (v := 0) (by decide) ?_
          exact r_zreturn (pc := 132) d_Re_takeRest_132 (v := 0) rfl (by decide) rfl (Nat.le_refl _) ⟨rfl, _, rfl, h⟩
        · replace h := h.2 c19
          refine r_iconst (pc := 127) d_Re_takeRest_127 (v := 1) (by decide) ?_
          refine r_goto (pc := 128) d_Re_takeRest_128 (tgt := 132) (by decide) ?_
          exact r_zreturn (pc := 132) d_Re_takeRest_132 (v := 1) rfl (by decide) rfl (Nat.le_refl _) ⟨rfl, _, rfl, h⟩
    · refine r_tabIn (pc := 1) d_Re_takeRest_1 (off := 248) (by omega) (by omega) (by rw [q55]; rfl) (tgt := 249) (by decide) ?_
      replace h := h.2.2.2.2.2.2.2.1 (aw_ix (y := 10) q55 (by decide))
      refine r_iconst (pc := 249) d_Re_takeRest_249 (v := 1) (by decide) ?_
      exact r_zreturn (pc := 250) d_Re_takeRest_250 (v := 1) rfl (by decide) rfl (Nat.le_refl _) ⟨rfl, _, rfl, h⟩
    · refine r_tabIn (pc := 1) d_Re_takeRest_1 (off := 239) (by omega) (by omega) (by rw [q55]; rfl) (tgt := 240) (by decide) ?_
      replace h := h.2.2.2.2.2.2.2.2.1 (aw_ix (y := 11) q55 (by decide))
      refine r_aload_n (pc := 240) d_Re_takeRest_240 (x := a) rfl ?_
      obtain ⟨r20, er20, h⟩ := h
      refine r_getR (pc := 241) d_Re_takeRest_241 f_Re_12 sa (Or.inl ⟨_, rfl⟩) (r := r20) er20 ?_
      refine r_iconst (pc := 244) d_Re_takeRest_244 (v := 2) (by decide) ?_
      obtain ⟨s21, h⟩ := h
      refine r_callV (pc := 245) (k := r20) (As := [.int 2]) (rest := []) (mc' := 0) (ms' := 0) lk_Re_82 in_To_blame se_To_blame s21 rfl d_Re_takeRest_245 k_To_blame rfl rfl (Nat.le_of_ble_eq_true rfl) (by decide) (by decide) (Sp.mono h ?_)
      rintro rS22 shS22 S22 ⟨qS22, x23, uS22, h⟩
      subst uS22
      rw [qS22]
      obtain ⟨g24, h⟩ := h
      exact r_zreturn (pc := 248) d_Re_takeRest_248 rfl (aw_nb g24) rfl (Nat.le_refl _) ⟨rfl, _, rfl, h⟩
    · refine r_tabIn (pc := 1) d_Re_takeRest_1 (off := 141) (by omega) (by omega) (by rw [q55]; rfl) (tgt := 142) (by decide) ?_
      replace h := h.2.2.2.2.2.2.2.2.2.1 (aw_ix (y := 12) q55 (by decide))
      refine r_aload_n (pc := 142) d_Re_takeRest_142 (x := a) rfl ?_
      refine r_iload_n (pc := 143) d_Re_takeRest_143 (x := p0) rfl ?_
      refine r_callV (pc := 144) (k := a) (As := [.int p0]) (rest := []) (mc' := 0) (ms' := 0) lk_Re_182 in_Re_takeKnown se_Re_takeKnown sa rfl d_Re_takeRest_144 k_Re_takeKnown rfl rfl (Nat.le_of_ble_eq_true rfl) (by decide) (by decide) (Sp.mono h ?_)
      rintro rS25 shS25 S25 ⟨qS25, x26, uS25, h⟩
      subst uS25
      rw [qS25]
      obtain ⟨g27, h⟩ := h
      exact r_zreturn (pc := 147) d_Re_takeRest_147 rfl (aw_nb g27) rfl (Nat.le_refl _) ⟨rfl, _, rfl, h⟩
    · refine r_tabIn (pc := 1) d_Re_takeRest_1 (off := 147) (by omega) (by omega) (by rw [q55]; rfl) (tgt := 148) (by decide) ?_
      replace h := h.2.2.2.2.2.2.2.2.2.2.1 (aw_ix (y := 13) q55 (by decide))
      refine r_aload_n (pc := 148) d_Re_takeRest_148 (x := a) rfl ?_
      refine r_iload_n (pc := 149) d_Re_takeRest_149 (x := p0) rfl ?_
      refine r_callV (pc := 150) (k := a) (As := [.int p0]) (rest := []) (mc' := 0) (ms' := 0) lk_Re_182 in_Re_takeKnown se_Re_takeKnown sa rfl d_Re_takeRest_150 k_Re_takeKnown rfl rfl (Nat.le_of_ble_eq_true rfl) (by decide) (by decide) (Sp.mono h ?_)
      rintro rS28 shS28 S28 ⟨qS28, x29, uS28, h⟩
      subst uS28
      rw [qS28]
      refine r_if_eq (pc := 153) d_Re_takeRest_153 (tgt := 178) (by decide) (fun c30 => ?_) (fun c30 => ?_)
      · replace h := h.1 c30
        refine r_iconst (pc := 178) d_Re_takeRest_178 (v := 0) (by decide) ?_
        exact r_zreturn (pc := 179) d_Re_takeRest_179 (v := 0) rfl (by decide) rfl (Nat.le_refl _) ⟨rfl, _, rfl, h⟩
      · replace h := h.2 c30
        refine r_aload_n (pc := 156) d_Re_takeRest_156 (x := a) rfl ?_
        refine r_iload_n (pc := 157) d_Re_takeRest_157 (x := p0) rfl ?_
        refine r_iconst (pc := 158) d_Re_takeRest_158 (v := 0) (by decide) ?_
        refine r_aload_n (pc := 159) d_Re_takeRest_159 (x := a) rfl ?_
        obtain ⟨r31, er31, h⟩ := h
        refine r_getR (pc := 160) d_Re_takeRest_160 f_Re_22 sa (Or.inl ⟨_, rfl⟩) (r := r31) er31 ?_
        obtain ⟨s32, h⟩ := h
        refine r_getI (pc := 163) d_Re_takeRest_163 f_Re_122 s32 rfl ?_
        refine r_iconst (pc := 166) d_Re_takeRest_166 (v := 1) (by decide) ?_
        refine r_isub (pc := 167) d_Re_takeRest_167 ?_
        refine r_callV (pc := 168) (k := a) (As := [.int p0, .int 0, .int ((S28.1 r31 0) - (1 : Int32))]) (rest := []) (mc' := 0) (ms' := 0) lk_Re_185 in_Re_takeSecond se_Re_takeSecond sa rfl d_Re_takeRest_168 k_Re_takeSecond rfl rfl (Nat.le_of_ble_eq_true rfl) (by decide) (by decide) (Sp.mono h ?_)
        rintro rS33 shS33 S33 ⟨qS33, x34, uS33, h⟩
        subst uS33
        rw [qS33]
        refine r_if_eq (pc := 171) d_Re_takeRest_171 (tgt := 178) (by decide) (fun c35 => ?_) (fun c35 => ?_)
        · replace h := h.1 c35
          refine r_iconst (pc := 178) d_Re_takeRest_178 (v := 0) (by decide) ?_
          exact r_zreturn (pc := 179) d_Re_takeRest_179 (v := 0) rfl (by decide) rfl (Nat.le_refl _) ⟨rfl, _, rfl, h⟩
        · replace h := h.2 c35
          refine r_iconst (pc := 174) d_Re_takeRest_174 (v := 1) (by decide) ?_
          refine r_goto (pc := 175) d_Re_takeRest_175 (tgt := 179) (by decide) ?_
          exact r_zreturn (pc := 179) d_Re_takeRest_179 (v := 1) rfl (by decide) rfl (Nat.le_refl _) ⟨rfl, _, rfl, h⟩
    · refine r_tabIn (pc := 1) d_Re_takeRest_1 (off := 179) (by omega) (by omega) (by rw [q55]; rfl) (tgt := 180) (by decide) ?_
      replace h := h.2.2.2.2.2.2.2.2.2.2.2.1 (aw_ix (y := 14) q55 (by decide))
      refine r_aload_n (pc := 180) d_Re_takeRest_180 (x := a) rfl ?_
      refine r_iload_n (pc := 181) d_Re_takeRest_181 (x := p0) rfl ?_
      refine r_iconst (pc := 182) d_Re_takeRest_182 (v := 0) (by decide) ?_
      refine r_aload_n (pc := 183) d_Re_takeRest_183 (x := a) rfl ?_
      obtain ⟨r36, er36, h⟩ := h
      refine r_getR (pc := 184) d_Re_takeRest_184 f_Re_22 sa (Or.inl ⟨_, rfl⟩) (r := r36) er36 ?_
      obtain ⟨s37, h⟩ := h
      refine r_callV (pc := 187) (k := r36) (As := []) (rest := [.int 0, .int p0, .ref a]) (mc' := 0) (ms' := 0) lk_Re_143 in_Gr_gaps se_Gr_gaps s37 rfl d_Re_takeRest_187 k_Gr_gaps rfl rfl (Nat.le_of_ble_eq_true rfl) (by decide) (by decide) (Sp.mono h ?_)
      rintro rS38 shS38 S38 ⟨qS38, x39, uS38, h⟩
      subst uS38
      rw [qS38]
      refine r_iconst (pc := 190) d_Re_takeRest_190 (v := 1) (by decide) ?_
      refine r_isub (pc := 191) d_Re_takeRest_191 ?_
      refine r_callV (pc := 192) (k := a) (As := [.int p0, .int 0, .int (x39 - (1 : Int32))]) (rest := []) (mc' := 0) (ms' := 0) lk_Re_175 in_Re_takeFirst se_Re_takeFirst sa rfl d_Re_takeRest_192 k_Re_takeFirst rfl rfl (Nat.le_of_ble_eq_true rfl) (by decide) (by decide) (Sp.mono h ?_)
      rintro rS40 shS40 S40 ⟨qS40, x41, uS40, h⟩
      subst uS40
      rw [qS40]
      refine r_if_eq (pc := 195) d_Re_takeRest_195 (tgt := 213) (by decide) (fun c42 => ?_) (fun c42 => ?_)
      · replace h := h.1 c42
        refine r_iconst (pc := 213) d_Re_takeRest_213 (v := 0) (by decide) ?_
        exact r_zreturn (pc := 214) d_Re_takeRest_214 (v := 0) rfl (by decide) rfl (Nat.le_refl _) ⟨rfl, _, rfl, h⟩
      · replace h := h.2 c42
        refine r_aload_n (pc := 198) d_Re_takeRest_198 (x := a) rfl ?_
        refine r_iload_n (pc := 199) d_Re_takeRest_199 (x := p0) rfl ?_
        refine r_iconst (pc := 200) d_Re_takeRest_200 (v := 0) (by decide) ?_
        refine r_bipush (pc := 201) d_Re_takeRest_201 (v := 6) (by decide) ?_
        refine r_callV (pc := 203) (k := a) (As := [.int p0, .int 0, .int 6]) (rest := []) (mc' := 0) (ms' := 0) lk_Re_185 in_Re_takeSecond se_Re_takeSecond sa rfl d_Re_takeRest_203 k_Re_takeSecond rfl rfl (Nat.le_of_ble_eq_true rfl) (by decide) (by decide) (Sp.mono h ?_)
        rintro rS43 shS43 S43 ⟨qS43, x44, uS43, h⟩
        subst uS43
        rw [qS43]
        refine r_if_eq (pc := 206) d_Re_takeRest_206 (tgt := 213) (by decide) (fun c45 => ?_) (fun c45 => ?_)
        · replace h := h.1 c45
          refine r_iconst (pc := 213) d_Re_takeRest_213 (v := 0) (by decide) ?_
          exact r_zreturn (pc := 214) d_Re_takeRest_214 (v := 0) rfl (by decide) rfl (Nat.le_refl _) ⟨rfl, _, rfl, h⟩
        · replace h := h.2 c45
          refine r_iconst (pc := 209) d_Re_takeRest_209 (v := 1) (by decide) ?_
          refine r_goto (pc := 210) d_Re_takeRest_210 (tgt := 214) (by decide) ?_
          exact r_zreturn (pc := 214) d_Re_takeRest_214 (v := 1) rfl (by decide) rfl (Nat.le_refl _) ⟨rfl, _, rfl, h⟩
    · refine r_tabIn (pc := 1) d_Re_takeRest_1 (off := 214) (by omega) (by omega) (by rw [q55]; rfl) (tgt := 215) (by decide) ?_
      replace h := h.2.2.2.2.2.2.2.2.2.2.2.2.1 (aw_ix (y := 15) q55 (by decide))
      refine r_aload_n (pc := 215) d_Re_takeRest_215 (x := a) rfl ?_
      refine r_iload_n (pc := 216) d_Re_takeRest_216 (x := p0) rfl ?_
      refine r_callV (pc := 217) (k := a) (As := [.int p0]) (rest := []) (mc' := 0) (ms' := 0) lk_Re_188 in_Re_takeCompares se_Re_takeCompares sa rfl d_Re_takeRest_217 k_Re_takeCompares rfl rfl (Nat.le_of_ble_eq_true rfl) (by decide) (by decide) (Sp.mono h ?_)
      rintro rS46 shS46 S46 ⟨qS46, x47, uS46, h⟩
      subst uS46
      rw [qS46]
      refine r_if_eq (pc := 220) d_Re_takeRest_220 (tgt := 238) (by decide) (fun c48 => ?_) (fun c48 => ?_)
      · replace h := h.1 c48
        refine r_iconst (pc := 238) d_Re_takeRest_238 (v := 0) (by decide) ?_
        exact r_zreturn (pc := 239) d_Re_takeRest_239 (v := 0) rfl (by decide) rfl (Nat.le_refl _) ⟨rfl, _, rfl, h⟩
      · replace h := h.2 c48
        refine r_aload_n (pc := 223) d_Re_takeRest_223 (x := a) rfl ?_
        refine r_iload_n (pc := 224) d_Re_takeRest_224 (x := p0) rfl ?_
        refine r_iconst (pc := 225) d_Re_takeRest_225 (v := 0) (by decide) ?_
        refine r_bipush (pc := 226) d_Re_takeRest_226 (v := 40) (by decide) ?_
        refine r_callV (pc := 228) (k := a) (As := [.int p0, .int 0, .int 40]) (rest := []) (mc' := 0) (ms' := 0) lk_Re_185 in_Re_takeSecond se_Re_takeSecond sa rfl d_Re_takeRest_228 k_Re_takeSecond rfl rfl (Nat.le_of_ble_eq_true rfl) (by decide) (by decide) (Sp.mono h ?_)
        rintro rS49 shS49 S49 ⟨qS49, x50, uS49, h⟩
        subst uS49
        rw [qS49]
        refine r_if_eq (pc := 231) d_Re_takeRest_231 (tgt := 238) (by decide) (fun c51 => ?_) (fun c51 => ?_)
        · replace h := h.1 c51
          refine r_iconst (pc := 238) d_Re_takeRest_238 (v := 0) (by decide) ?_
          exact r_zreturn (pc := 239) d_Re_takeRest_239 (v := 0) rfl (by decide) rfl (Nat.le_refl _) ⟨rfl, _, rfl, h⟩
        · replace h := h.2 c51
          refine r_iconst (pc := 234) d_Re_takeRest_234 (v := 1) (by decide) ?_
          refine r_goto (pc := 235) d_Re_takeRest_235 (tgt := 239) (by decide) ?_
          exact r_zreturn (pc := 239) d_Re_takeRest_239 (v := 1) rfl (by decide) rfl (Nat.le_refl _) ⟨rfl, _, rfl, h⟩
    · refine r_tabIn (pc := 1) d_Re_takeRest_1 (off := 132) (by omega) (by omega) (by rw [q55]; rfl) (tgt := 133) (by decide) ?_
      replace h := h.2.2.2.2.2.2.2.2.2.2.2.2.2 (aw_ix (y := 16) q55 (by decide))
      refine r_aload_n (pc := 133) d_Re_takeRest_133 (x := a) rfl ?_
      refine r_iload_n (pc := 134) d_Re_takeRest_134 (x := p0) rfl ?_
      refine r_iconst (pc := 135) d_Re_takeRest_135 (v := 1) (by decide) ?_
      refine r_bipush (pc := 136) d_Re_takeRest_136 (v := 99) (by decide) ?_
      refine r_callV (pc := 138) (k := a) (As := [.int p0, .int 1, .int 99]) (rest := []) (mc' := 0) (ms' := 0) lk_Re_175 in_Re_takeFirst se_Re_takeFirst sa rfl d_Re_takeRest_138 k_Re_takeFirst rfl rfl (Nat.le_of_ble_eq_true rfl) (by decide) (by decide) (Sp.mono h ?_)
      rintro rS52 shS52 S52 ⟨qS52, x53, uS52, h⟩
      subst uS52
      rw [qS52]
      obtain ⟨g54, h⟩ := h
      exact r_zreturn (pc := 141) d_Re_takeRest_141 rfl (aw_nb g54) rfl (Nat.le_refl _) ⟨rfl, _, rfl, h⟩
set_option maxRecDepth 4000 in
theorem e_Re_takeFirst {l : Launch} {d : Nat} {sh : aw_SH} {S : aw_S} {P : Int32 → aw_S → Prop} {a : Nat} {p0 : Int32} {p1 : Int32} {p2 : Int32} (sa : sh[a]? = some (0, 5)) (h : ∃ r1, S.2.2 a 2 = some r1 ∧ sh[r1]? = some (0, 6) ∧ Sp l m_To_takeNumber d 0 0 [.ref r1, .int p1, .int p2] sh S (gI sh (fun x4 S3 => ∃ r5, S3.2.2 a 4 = some r5 ∧ sh[r5]? = some (0, 4) ∧ ∃ r7, S3.2.2 r5 4 = some r7 ∧ ∃ n9, sh[r7]? = some (3, n9) ∧ vp_in p0 n9 ∧ ((x4 = (-1) → P 0 (aw_uI S3 r7 p0.toNatClampNeg x4)) ∧ (¬ x4 = (-1) → P 1 (aw_uI S3 r7 p0.toNatClampNeg x4)))))) : Sp l m_Re_takeFirst (d + 1) 0 0 [.ref a, .int p0, .int p1, .int p2] sh S (gI sh P) := by
  refine Sp.of k_Re_takeFirst (ls := [.ref a, .int p0, .int p1, .int p2, .null]) rfl (Nat.le_of_ble_eq_true rfl) ?_
  refine r_aload_n (pc := 0) d_Re_takeFirst_0 (x := a) rfl ?_
  obtain ⟨r1, er1, h⟩ := h
  refine r_getR (pc := 1) d_Re_takeFirst_1 f_Re_12 sa (Or.inl ⟨_, rfl⟩) (r := r1) er1 ?_
  refine r_iload_n (pc := 4) d_Re_takeFirst_4 (x := p1) rfl ?_
  refine r_iload_n (pc := 5) d_Re_takeFirst_5 (x := p2) rfl ?_
  obtain ⟨s2, h⟩ := h
  refine r_callV (pc := 6) (k := r1) (As := [.int p1, .int p2]) (rest := []) (mc' := 0) (ms' := 0) lk_Re_109 in_To_takeNumber se_To_takeNumber s2 rfl d_Re_takeFirst_6 k_To_takeNumber rfl rfl (Nat.le_of_ble_eq_true rfl) (by decide) (by decide) (Sp.mono h ?_)
  rintro rS3 shS3 S3 ⟨qS3, x4, uS3, h⟩
  subst uS3
  rw [qS3]
  refine r_istore (pc := 9) (hd := d_Re_takeFirst_9) (hi := by decide) (ls2 := [.ref a, .int p0, .int p1, .int p2, .int x4]) (h2 := rfl) ?_
  refine r_aload_n (pc := 11) d_Re_takeFirst_11 (x := a) rfl ?_
  obtain ⟨r5, er5, h⟩ := h
  refine r_getR (pc := 12) d_Re_takeFirst_12 f_Re_59 sa (Or.inl ⟨_, rfl⟩) (r := r5) er5 ?_
  obtain ⟨s6, h⟩ := h
  obtain ⟨r7, er7, h⟩ := h
  refine r_getR (pc := 15) d_Re_takeFirst_15 f_Re_191 s6 (Or.inr ⟨_, rfl⟩) (r := r7) er7 ?_
  refine r_iload_n (pc := 18) d_Re_takeFirst_18 (x := p0) rfl ?_
  refine r_iload (pc := 19) d_Re_takeFirst_19 (x := x4) rfl ?_
  obtain ⟨n9, s8, h⟩ := h
  obtain ⟨g10, h⟩ := h
  refine r_iast (pc := 21) d_Re_takeFirst_21 s8 g10 ?_
  refine r_iload (pc := 22) d_Re_takeFirst_22 (x := x4) rfl ?_
  refine r_iconst (pc := 24) d_Re_takeFirst_24 (v := (-1)) (by decide) ?_
  refine r_icmp_eq (pc := 25) d_Re_takeFirst_25 (tgt := 32) (by decide) (fun c11 => ?_) (fun c11 => ?_)
  · replace h := h.1 c11
    refine r_iconst (pc := 32) d_Re_takeFirst_32 (v := 0) (by decide) ?_
    exact r_zreturn (pc := 33) d_Re_takeFirst_33 (v := 0) rfl (by decide) rfl (Nat.le_refl _) ⟨rfl, _, rfl, h⟩
  · replace h := h.2 c11
    refine r_iconst (pc := 28) d_Re_takeFirst_28 (v := 1) (by decide) ?_
    refine r_goto (pc := 29) d_Re_takeFirst_29 (tgt := 33) (by decide) ?_
    exact r_zreturn (pc := 33) d_Re_takeFirst_33 (v := 1) rfl (by decide) rfl (Nat.le_refl _) ⟨rfl, _, rfl, h⟩
set_option maxRecDepth 4000 in
theorem e_Re_takeHow {l : Launch} {d : Nat} {sh : aw_SH} {S : aw_S} {P : Int32 → aw_S → Prop} {a : Nat} {p0 : Int32} (sa : sh[a]? = some (0, 5)) (h : Sp l m_Re_howOver d 0 0 [.ref a] sh S (gI sh (fun x2 S1 => ((¬ x2 = (-1) → ∃ r4, S1.2.2 a 4 = some r4 ∧ sh[r4]? = some (0, 4) ∧ ∃ r6, S1.2.2 r4 5 = some r6 ∧ ∃ n8, sh[r6]? = some (3, n8) ∧ vp_in p0 n8 ∧ ∃ r10, (aw_uI S1 r6 p0.toNatClampNeg x2).2.2 a 2 = some r10 ∧ sh[r10]? = some (0, 6) ∧ Sp l m_To_advance d 0 0 [.ref r10] sh (aw_uI S1 r6 p0.toNatClampNeg x2) (gV sh (fun S12 => P 1 S12))) ∧ (x2 = (-1) → ∃ r13, S1.2.2 a 2 = some r13 ∧ sh[r13]? = some (0, 6) ∧ Sp l m_To_blame d 0 0 [.ref r13, .int 2] sh S1 (gI sh (fun x16 S15 => ((x16 = 0 ∨ x16 = 1) ∧ P x16 S15)))))))) : Sp l m_Re_takeHow (d + 1) 0 0 [.ref a, .int p0] sh S (gI sh P) := by
  refine Sp.of k_Re_takeHow (ls := [.ref a, .int p0, .null]) rfl (Nat.le_of_ble_eq_true rfl) ?_
  refine r_aload_n (pc := 0) d_Re_takeHow_0 (x := a) rfl ?_
  refine r_callV (pc := 1) (k := a) (As := []) (rest := []) (mc' := 0) (ms' := 0) lk_Re_146 in_Re_howOver se_Re_howOver sa rfl d_Re_takeHow_1 k_Re_howOver rfl rfl (Nat.le_of_ble_eq_true rfl) (by decide) (by decide) (Sp.mono h ?_)
  rintro rS1 shS1 S1 ⟨qS1, x2, uS1, h⟩
  subst uS1
  rw [qS1]
  refine r_istore_n (pc := 4) (hk := rfl) (hd := d_Re_takeHow_4) (hi := by decide) (ls2 := [.ref a, .int p0, .int x2]) (h2 := rfl) ?_
  refine r_iload_n (pc := 5) d_Re_takeHow_5 (x := x2) rfl ?_
  refine r_iconst (pc := 6) d_Re_takeHow_6 (v := (-1)) (by decide) ?_
  refine r_icmp_ne (pc := 7) d_Re_takeHow_7 (tgt := 19) (by decide) (fun c3 => ?_) (fun c3 => ?_)
  · replace h := h.1 c3
    refine r_aload_n (pc := 19) d_Re_takeHow_19 (x := a) rfl ?_
    obtain ⟨r4, er4, h⟩ := h
    refine r_getR (pc := 20) d_Re_takeHow_20 f_Re_59 sa (Or.inl ⟨_, rfl⟩) (r := r4) er4 ?_
    obtain ⟨s5, h⟩ := h
    obtain ⟨r6, er6, h⟩ := h
    refine r_getR (pc := 23) d_Re_takeHow_23 f_Re_194 s5 (Or.inr ⟨_, rfl⟩) (r := r6) er6 ?_
    refine r_iload_n (pc := 26) d_Re_takeHow_26 (x := p0) rfl ?_
    refine r_iload_n (pc := 27) d_Re_takeHow_27 (x := x2) rfl ?_
    obtain ⟨n8, s7, h⟩ := h
    obtain ⟨g9, h⟩ := h
    refine r_iast (pc := 28) d_Re_takeHow_28 s7 g9 ?_
    refine r_aload_n (pc := 29) d_Re_takeHow_29 (x := a) rfl ?_
    obtain ⟨r10, er10, h⟩ := h
    refine r_getR (pc := 30) d_Re_takeHow_30 f_Re_12 sa (Or.inl ⟨_, rfl⟩) (r := r10) er10 ?_
    obtain ⟨s11, h⟩ := h
    refine r_callV (pc := 33) (k := r10) (As := []) (rest := []) (mc' := 0) (ms' := 0) lk_Re_106 in_To_advance se_To_advance s11 rfl d_Re_takeHow_33 k_To_advance rfl rfl (Nat.le_of_ble_eq_true rfl) (by decide) (by decide) (Sp.mono h ?_)
    rintro rS12 shS12 S12 ⟨qS12, uS12, h⟩
    subst uS12
    rw [qS12]
    refine r_iconst (pc := 36) d_Re_takeHow_36 (v := 1) (by decide) ?_
    exact r_zreturn (pc := 37) d_Re_takeHow_37 (v := 1) rfl (by decide) rfl (Nat.le_refl _) ⟨rfl, _, rfl, h⟩
  · replace h := h.2 c3
    refine r_aload_n (pc := 10) d_Re_takeHow_10 (x := a) rfl ?_
    obtain ⟨r13, er13, h⟩ := h
    refine r_getR (pc := 11) d_Re_takeHow_11 f_Re_12 sa (Or.inl ⟨_, rfl⟩) (r := r13) er13 ?_
    refine r_iconst (pc := 14) d_Re_takeHow_14 (v := 2) (by decide) ?_
    obtain ⟨s14, h⟩ := h
    refine r_callV (pc := 15) (k := r13) (As := [.int 2]) (rest := []) (mc' := 0) (ms' := 0) lk_Re_82 in_To_blame se_To_blame s14 rfl d_Re_takeHow_15 k_To_blame rfl rfl (Nat.le_of_ble_eq_true rfl) (by decide) (by decide) (Sp.mono h ?_)
    rintro rS15 shS15 S15 ⟨qS15, x16, uS15, h⟩
    subst uS15
    rw [qS15]
    obtain ⟨g17, h⟩ := h
    exact r_zreturn (pc := 18) d_Re_takeHow_18 rfl (aw_nb g17) rfl (Nat.le_refl _) ⟨rfl, _, rfl, h⟩
set_option maxRecDepth 4000 in
theorem e_Re_takeKnown {l : Launch} {d : Nat} {sh : aw_SH} {S : aw_S} {P : Int32 → aw_S → Prop} {a : Nat} {p0 : Int32} (sa : sh[a]? = some (0, 5)) (h : ∃ r1, S.2.2 a 2 = some r1 ∧ sh[r1]? = some (0, 6) ∧ Sp l m_To_isName d 0 0 [.ref r1] sh S (gI sh (fun x4 S3 => ((¬ x4 = 0 → ∃ r6, S3.2.2 a 3 = some r6 ∧ ∃ r7, S3.2.2 a 2 = some r7 ∧ sh[r7]? = some (0, 6) ∧ sh[r6]? = some (0, 2) ∧ Sp l m_Gr_named d 0 0 [.ref r6, .long (S3.2.1 r7 3)] sh S3 (gI sh (fun x11 S10 => ((¬ x11 = (-1) → ∃ r13, S10.2.2 a 4 = some r13 ∧ sh[r13]? = some (0, 4) ∧ ∃ r15, S10.2.2 r13 4 = some r15 ∧ ∃ n17, sh[r15]? = some (3, n17) ∧ vp_in p0 n17 ∧ ∃ r19, (aw_uI S10 r15 p0.toNatClampNeg x11).2.2 a 2 = some r19 ∧ sh[r19]? = some (0, 6) ∧ Sp l m_To_advance d 0 0 [.ref r19] sh (aw_uI S10 r15 p0.toNatClampNeg x11) (gV sh (fun S21 => P 1 S21))) ∧ (x11 = (-1) → ∃ r22, S10.2.2 a 2 = some r22 ∧ sh[r22]? = some (0, 6) ∧ Sp l m_To_blame d 0 0 [.ref r22, .int 3] sh S10 (gI sh (fun x25 S24 => ((x25 = 0 ∨ x25 = 1) ∧ P x25 S24)))))))) ∧ (x4 = 0 → ∃ r27, S3.2.2 a 2 = some r27 ∧ sh[r27]? = some (0, 6) ∧ Sp l m_To_blame d 0 0 [.ref r27, .int 2] sh S3 (gI sh (fun x30 S29 => ((x30 = 0 ∨ x30 = 1) ∧ P x30 S29)))))))) : Sp l m_Re_takeKnown (d + 1) 0 0 [.ref a, .int p0] sh S (gI sh P) := by
  refine Sp.of k_Re_takeKnown (ls := [.ref a, .int p0, .null]) rfl (Nat.le_of_ble_eq_true rfl) ?_
  refine r_aload_n (pc := 0) d_Re_takeKnown_0 (x := a) rfl ?_
  obtain ⟨r1, er1, h⟩ := h
  refine r_getR (pc := 1) d_Re_takeKnown_1 f_Re_12 sa (Or.inl ⟨_, rfl⟩) (r := r1) er1 ?_
  obtain ⟨s2, h⟩ := h
  refine r_callV (pc := 4) (k := r1) (As := []) (rest := []) (mc' := 0) (ms' := 0) lk_Re_125 in_To_isName se_To_isName s2 rfl d_Re_takeKnown_4 k_To_isName rfl rfl (Nat.le_of_ble_eq_true rfl) (by decide) (by decide) (Sp.mono h ?_)
  rintro rS3 shS3 S3 ⟨qS3, x4, uS3, h⟩
  subst uS3
  rw [qS3]
  refine r_if_ne (pc := 7) d_Re_takeKnown_7 (tgt := 19) (by decide) (fun c5 => ?_) (fun c5 => ?_)
  · replace h := h.1 c5
    refine r_aload_n (pc := 19) d_Re_takeKnown_19 (x := a) rfl ?_
    obtain ⟨r6, er6, h⟩ := h
    refine r_getR (pc := 20) d_Re_takeKnown_20 f_Re_22 sa (Or.inl ⟨_, rfl⟩) (r := r6) er6 ?_
    refine r_aload_n (pc := 23) d_Re_takeKnown_23 (x := a) rfl ?_
    obtain ⟨r7, er7, h⟩ := h
    refine r_getR (pc := 24) d_Re_takeKnown_24 f_Re_12 sa (Or.inl ⟨_, rfl⟩) (r := r7) er7 ?_
    obtain ⟨s8, h⟩ := h
    refine r_getL (pc := 27) d_Re_takeKnown_27 f_Re_128 s8 rfl ?_
    obtain ⟨s9, h⟩ := h
    refine r_callV (pc := 30) (k := r6) (As := [.long (S3.2.1 r7 3)]) (rest := []) (mc' := 0) (ms' := 0) lk_Re_132 in_Gr_named se_Gr_named s9 rfl d_Re_takeKnown_30 k_Gr_named rfl rfl (Nat.le_of_ble_eq_true rfl) (by decide) (by decide) (Sp.mono h ?_)
    rintro rS10 shS10 S10 ⟨qS10, x11, uS10, h⟩
    subst uS10
    rw [qS10]
    refine r_istore_n (pc := 33) (hk := rfl) (hd := d_Re_takeKnown_33) (hi := by decide) (ls2 := [.ref a, .int p0, .int x11]) (h2 := rfl) ?_
    refine r_iload_n (pc := 34) d_Re_takeKnown_34 (x := x11) rfl ?_
    refine r_iconst (pc := 35) d_Re_takeKnown_35 (v := (-1)) (by decide) ?_
    refine r_icmp_ne (pc := 36) d_Re_takeKnown_36 (tgt := 48) (by decide) (fun c12 => ?_) (fun c12 => ?_)
    · replace h := h.1 c12
      refine r_aload_n (pc := 48) d_Re_takeKnown_48 (x := a) rfl ?_
      obtain ⟨r13, er13, h⟩ := h
      refine r_getR (pc := 49) d_Re_takeKnown_49 f_Re_59 sa (Or.inl ⟨_, rfl⟩) (r := r13) er13 ?_
      obtain ⟨s14, h⟩ := h
      obtain ⟨r15, er15, h⟩ := h
      refine r_getR (pc := 52) d_Re_takeKnown_52 f_Re_191 s14 (Or.inr ⟨_, rfl⟩) (r := r15) er15 ?_
      refine r_iload_n (pc := 55) d_Re_takeKnown_55 (x := p0) rfl ?_
      refine r_iload_n (pc := 56) d_Re_takeKnown_56 (x := x11) rfl ?_
      obtain ⟨n17, s16, h⟩ := h
      obtain ⟨g18, h⟩ := h
      refine r_iast (pc := 57) d_Re_takeKnown_57 s16 g18 ?_
      refine r_aload_n (pc := 58) d_Re_takeKnown_58 (x := a) rfl ?_
      obtain ⟨r19, er19, h⟩ := h
      refine r_getR (pc := 59) d_Re_takeKnown_59 f_Re_12 sa (Or.inl ⟨_, rfl⟩) (r := r19) er19 ?_
      obtain ⟨s20, h⟩ := h
      refine r_callV (pc := 62) (k := r19) (As := []) (rest := []) (mc' := 0) (ms' := 0) lk_Re_106 in_To_advance se_To_advance s20 rfl d_Re_takeKnown_62 k_To_advance rfl rfl (Nat.le_of_ble_eq_true rfl) (by decide) (by decide) (Sp.mono h ?_)
      rintro rS21 shS21 S21 ⟨qS21, uS21, h⟩
      subst uS21
      rw [qS21]
      refine r_iconst (pc := 65) d_Re_takeKnown_65 (v := 1) (by decide) ?_
      exact r_zreturn (pc := 66) d_Re_takeKnown_66 (v := 1) rfl (by decide) rfl (Nat.le_refl _) ⟨rfl, _, rfl, h⟩
    · replace h := h.2 c12
      refine r_aload_n (pc := 39) d_Re_takeKnown_39 (x := a) rfl ?_
      obtain ⟨r22, er22, h⟩ := h
      refine r_getR (pc := 40) d_Re_takeKnown_40 f_Re_12 sa (Or.inl ⟨_, rfl⟩) (r := r22) er22 ?_
      refine r_iconst (pc := 43) d_Re_takeKnown_43 (v := 3) (by decide) ?_
      obtain ⟨s23, h⟩ := h
      refine r_callV (pc := 44) (k := r22) (As := [.int 3]) (rest := []) (mc' := 0) (ms' := 0) lk_Re_82 in_To_blame se_To_blame s23 rfl d_Re_takeKnown_44 k_To_blame rfl rfl (Nat.le_of_ble_eq_true rfl) (by decide) (by decide) (Sp.mono h ?_)
      rintro rS24 shS24 S24 ⟨qS24, x25, uS24, h⟩
      subst uS24
      rw [qS24]
      obtain ⟨g26, h⟩ := h
      exact r_zreturn (pc := 47) d_Re_takeKnown_47 rfl (aw_nb g26) rfl (Nat.le_refl _) ⟨rfl, _, rfl, h⟩
  · replace h := h.2 c5
    refine r_aload_n (pc := 10) d_Re_takeKnown_10 (x := a) rfl ?_
    obtain ⟨r27, er27, h⟩ := h
    refine r_getR (pc := 11) d_Re_takeKnown_11 f_Re_12 sa (Or.inl ⟨_, rfl⟩) (r := r27) er27 ?_
    refine r_iconst (pc := 14) d_Re_takeKnown_14 (v := 2) (by decide) ?_
    obtain ⟨s28, h⟩ := h
    refine r_callV (pc := 15) (k := r27) (As := [.int 2]) (rest := []) (mc' := 0) (ms' := 0) lk_Re_82 in_To_blame se_To_blame s28 rfl d_Re_takeKnown_15 k_To_blame rfl rfl (Nat.le_of_ble_eq_true rfl) (by decide) (by decide) (Sp.mono h ?_)
    rintro rS29 shS29 S29 ⟨qS29, x30, uS29, h⟩
    subst uS29
    rw [qS29]
    obtain ⟨g31, h⟩ := h
    exact r_zreturn (pc := 18) d_Re_takeKnown_18 rfl (aw_nb g31) rfl (Nat.le_refl _) ⟨rfl, _, rfl, h⟩
set_option maxRecDepth 4000 in
theorem e_Re_takeSecond {l : Launch} {d : Nat} {sh : aw_SH} {S : aw_S} {P : Int32 → aw_S → Prop} {a : Nat} {p0 : Int32} {p1 : Int32} {p2 : Int32} (sa : sh[a]? = some (0, 5)) (h : ∃ r1, S.2.2 a 2 = some r1 ∧ sh[r1]? = some (0, 6) ∧ Sp l m_To_takeNumber d 0 0 [.ref r1, .int p1, .int p2] sh S (gI sh (fun x4 S3 => ∃ r5, S3.2.2 a 4 = some r5 ∧ sh[r5]? = some (0, 4) ∧ ∃ r7, S3.2.2 r5 5 = some r7 ∧ ∃ n9, sh[r7]? = some (3, n9) ∧ vp_in p0 n9 ∧ ((x4 = (-1) → P 0 (aw_uI S3 r7 p0.toNatClampNeg x4)) ∧ (¬ x4 = (-1) → P 1 (aw_uI S3 r7 p0.toNatClampNeg x4)))))) : Sp l m_Re_takeSecond (d + 1) 0 0 [.ref a, .int p0, .int p1, .int p2] sh S (gI sh P) := by
  refine Sp.of k_Re_takeSecond (ls := [.ref a, .int p0, .int p1, .int p2, .null]) rfl (Nat.le_of_ble_eq_true rfl) ?_
  refine r_aload_n (pc := 0) d_Re_takeSecond_0 (x := a) rfl ?_
  obtain ⟨r1, er1, h⟩ := h
  refine r_getR (pc := 1) d_Re_takeSecond_1 f_Re_12 sa (Or.inl ⟨_, rfl⟩) (r := r1) er1 ?_
  refine r_iload_n (pc := 4) d_Re_takeSecond_4 (x := p1) rfl ?_
  refine r_iload_n (pc := 5) d_Re_takeSecond_5 (x := p2) rfl ?_
  obtain ⟨s2, h⟩ := h
  refine r_callV (pc := 6) (k := r1) (As := [.int p1, .int p2]) (rest := []) (mc' := 0) (ms' := 0) lk_Re_109 in_To_takeNumber se_To_takeNumber s2 rfl d_Re_takeSecond_6 k_To_takeNumber rfl rfl (Nat.le_of_ble_eq_true rfl) (by decide) (by decide) (Sp.mono h ?_)
  rintro rS3 shS3 S3 ⟨qS3, x4, uS3, h⟩
  subst uS3
  rw [qS3]
  refine r_istore (pc := 9) (hd := d_Re_takeSecond_9) (hi := by decide) (ls2 := [.ref a, .int p0, .int p1, .int p2, .int x4]) (h2 := rfl) ?_
  refine r_aload_n (pc := 11) d_Re_takeSecond_11 (x := a) rfl ?_
  obtain ⟨r5, er5, h⟩ := h
  refine r_getR (pc := 12) d_Re_takeSecond_12 f_Re_59 sa (Or.inl ⟨_, rfl⟩) (r := r5) er5 ?_
  obtain ⟨s6, h⟩ := h
  obtain ⟨r7, er7, h⟩ := h
  refine r_getR (pc := 15) d_Re_takeSecond_15 f_Re_194 s6 (Or.inr ⟨_, rfl⟩) (r := r7) er7 ?_
  refine r_iload_n (pc := 18) d_Re_takeSecond_18 (x := p0) rfl ?_
  refine r_iload (pc := 19) d_Re_takeSecond_19 (x := x4) rfl ?_
  obtain ⟨n9, s8, h⟩ := h
  obtain ⟨g10, h⟩ := h
  refine r_iast (pc := 21) d_Re_takeSecond_21 s8 g10 ?_
  refine r_iload (pc := 22) d_Re_takeSecond_22 (x := x4) rfl ?_
  refine r_iconst (pc := 24) d_Re_takeSecond_24 (v := (-1)) (by decide) ?_
  refine r_icmp_eq (pc := 25) d_Re_takeSecond_25 (tgt := 32) (by decide) (fun c11 => ?_) (fun c11 => ?_)
  · replace h := h.1 c11
    refine r_iconst (pc := 32) d_Re_takeSecond_32 (v := 0) (by decide) ?_
    exact r_zreturn (pc := 33) d_Re_takeSecond_33 (v := 0) rfl (by decide) rfl (Nat.le_refl _) ⟨rfl, _, rfl, h⟩
  · replace h := h.2 c11
    refine r_iconst (pc := 28) d_Re_takeSecond_28 (v := 1) (by decide) ?_
    refine r_goto (pc := 29) d_Re_takeSecond_29 (tgt := 33) (by decide) ?_
    exact r_zreturn (pc := 33) d_Re_takeSecond_33 (v := 1) rfl (by decide) rfl (Nat.le_refl _) ⟨rfl, _, rfl, h⟩
set_option maxRecDepth 4000 in
theorem e_Re_takeCompares {l : Launch} {d : Nat} {sh : aw_SH} {S : aw_S} {P : Int32 → aw_S → Prop} {a : Nat} {p0 : Int32} (sa : sh[a]? = some (0, 5)) (h : ∃ r1, S.2.2 a 2 = some r1 ∧ sh[r1]? = some (0, 6) ∧ ((¬ (S.1 r1 2) = 3 → Sp l m_To_blame d 0 0 [.ref r1, .int 2] sh S (gI sh (fun x5 S4 => ((x5 = 0 ∨ x5 = 1) ∧ P x5 S4)))) ∧ ((S.1 r1 2) = 3 → ((¬ (S.1 r1 5) = 59 → ∃ r8, S.2.2 a 4 = some r8 ∧ sh[r8]? = some (0, 4) ∧ ∃ r10, S.2.2 r8 4 = some r10 ∧ ∃ n12, sh[r10]? = some (3, n12) ∧ vp_in p0 n12 ∧ Sp l m_To_advance d 0 0 [.ref r1] sh (aw_uI S r10 p0.toNatClampNeg (S.1 r1 5)) (gV sh (fun S14 => P 1 S14))) ∧ ((S.1 r1 5) = 59 → Sp l m_To_blame d 0 0 [.ref r1, .int 2] sh S (gI sh (fun x16 S15 => ((x16 = 0 ∨ x16 = 1) ∧ P x16 S15)))))))) : Sp l m_Re_takeCompares (d + 1) 0 0 [.ref a, .int p0] sh S (gI sh P) := by
  refine Sp.of k_Re_takeCompares (ls := [.ref a, .int p0]) rfl (Nat.le_of_ble_eq_true rfl) ?_
  refine r_aload_n (pc := 0) d_Re_takeCompares_0 (x := a) rfl ?_
  obtain ⟨r1, er1, h⟩ := h
  refine r_getR (pc := 1) d_Re_takeCompares_1 f_Re_12 sa (Or.inl ⟨_, rfl⟩) (r := r1) er1 ?_
  obtain ⟨s2, h⟩ := h
  refine r_getI (pc := 4) d_Re_takeCompares_4 f_Re_45 s2 rfl ?_
  refine r_iconst (pc := 7) d_Re_takeCompares_7 (v := 3) (by decide) ?_
  refine r_icmp_ne (pc := 8) d_Re_takeCompares_8 (tgt := 23) (by decide) (fun c3 => ?_) (fun c3 => ?_)
  · replace h := h.1 c3
    refine r_aload_n (pc := 23) d_Re_takeCompares_23 (x := a) rfl ?_
    refine r_getR (pc := 24) d_Re_takeCompares_24 f_Re_12 sa (Or.inl ⟨_, rfl⟩) (r := r1) er1 ?_
    refine r_iconst (pc := 27) d_Re_takeCompares_27 (v := 2) (by decide) ?_
    refine r_callV (pc := 28) (k := r1) (As := [.int 2]) (rest := []) (mc' := 0) (ms' := 0) lk_Re_82 in_To_blame se_To_blame s2 rfl d_Re_takeCompares_28 k_To_blame rfl rfl (Nat.le_of_ble_eq_true rfl) (by decide) (by decide) (Sp.mono h ?_)
    rintro rS4 shS4 S4 ⟨qS4, x5, uS4, h⟩
    subst uS4
    rw [qS4]
    obtain ⟨g6, h⟩ := h
    exact r_zreturn (pc := 31) d_Re_takeCompares_31 rfl (aw_nb g6) rfl (Nat.le_refl _) ⟨rfl, _, rfl, h⟩
  · replace h := h.2 c3
    refine r_aload_n (pc := 11) d_Re_takeCompares_11 (x := a) rfl ?_
    refine r_getR (pc := 12) d_Re_takeCompares_12 f_Re_12 sa (Or.inl ⟨_, rfl⟩) (r := r1) er1 ?_
    refine r_getI (pc := 15) d_Re_takeCompares_15 f_Re_197 s2 rfl ?_
    refine r_bipush (pc := 18) d_Re_takeCompares_18 (v := 59) (by decide) ?_
    refine r_icmp_ne (pc := 20) d_Re_takeCompares_20 (tgt := 32) (by decide) (fun c7 => ?_) (fun c7 => ?_)
    · replace h := h.1 c7
      refine r_aload_n (pc := 32) d_Re_takeCompares_32 (x := a) rfl ?_
      obtain ⟨r8, er8, h⟩ := h
      refine r_getR (pc := 33) d_Re_takeCompares_33 f_Re_59 sa (Or.inl ⟨_, rfl⟩) (r := r8) er8 ?_
      obtain ⟨s9, h⟩ := h
      obtain ⟨r10, er10, h⟩ := h
      refine r_getR (pc := 36) d_Re_takeCompares_36 f_Re_191 s9 (Or.inr ⟨_, rfl⟩) (r := r10) er10 ?_
      refine r_iload_n (pc := 39) d_Re_takeCompares_39 (x := p0) rfl ?_
      refine r_aload_n (pc := 40) d_Re_takeCompares_40 (x := a) rfl ?_
      refine r_getR (pc := 41) d_Re_takeCompares_41 f_Re_12 sa (Or.inl ⟨_, rfl⟩) (r := r1) er1 ?_
      refine r_getI (pc := 44) d_Re_takeCompares_44 f_Re_197 s2 rfl ?_
      obtain ⟨n12, s11, h⟩ := h
      obtain ⟨g13, h⟩ := h
      refine r_iast (pc := 47) d_Re_takeCompares_47 s11 g13 ?_
      refine r_aload_n (pc := 48) d_Re_takeCompares_48 (x := a) rfl ?_
      refine r_getR (pc := 49) d_Re_takeCompares_49 f_Re_12 sa (Or.inl ⟨_, rfl⟩) (r := r1) er1 ?_
      refine r_callV (pc := 52) (k := r1) (As := []) (rest := []) (mc' := 0) (ms' := 0) lk_Re_106 in_To_advance se_To_advance s2 rfl d_Re_takeCompares_52 k_To_advance rfl rfl (Nat.le_of_ble_eq_true rfl) (by decide) (by decide) (Sp.mono h ?_)
      rintro rS14 shS14 S14 ⟨qS14, uS14, h⟩
      subst uS14
      rw [qS14]
      refine r_iconst (pc := 55) d_Re_takeCompares_55 (v := 1) (by decide) ?_
      exact r_zreturn (pc := 56) d_Re_takeCompares_56 (v := 1) rfl (by decide) rfl (Nat.le_refl _) ⟨rfl, _, rfl, h⟩
    · replace h := h.2 c7
      refine r_aload_n (pc := 23) d_Re_takeCompares_23 (x := a) rfl ?_
      refine r_getR (pc := 24) d_Re_takeCompares_24 f_Re_12 sa (Or.inl ⟨_, rfl⟩) (r := r1) er1 ?_
      refine r_iconst (pc := 27) d_Re_takeCompares_27 (v := 2) (by decide) ?_
      refine r_callV (pc := 28) (k := r1) (As := [.int 2]) (rest := []) (mc' := 0) (ms' := 0) lk_Re_82 in_To_blame se_To_blame s2 rfl d_Re_takeCompares_28 k_To_blame rfl rfl (Nat.le_of_ble_eq_true rfl) (by decide) (by decide) (Sp.mono h ?_)
      rintro rS15 shS15 S15 ⟨qS15, x16, uS15, h⟩
      subst uS15
      rw [qS15]
      obtain ⟨g17, h⟩ := h
      exact r_zreturn (pc := 31) d_Re_takeCompares_31 rfl (aw_nb g17) rfl (Nat.le_refl _) ⟨rfl, _, rfl, h⟩
