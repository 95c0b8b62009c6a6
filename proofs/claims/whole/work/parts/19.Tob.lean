set_option maxRecDepth 4000 in
theorem e_To_begin {l : Launch} {d : Nat} {sh : aw_SH} {S : aw_S} {P : aw_S → Prop} {a : Nat} {p0 : Nat} {p1 : Int32} (sa : sh[a]? = some (0, 6)) (h : Sp l m_To_advance d 0 0 [.ref a] sh (aw_uI (aw_uI (aw_uI (aw_uI (aw_uR S a 6 (some p0)) a 7 p1) a 9 0) a 0 0) a 1 (-1)) (gV sh (fun S1 => P S1))) : Sp l m_To_begin (d + 1) 0 0 [.ref a, .ref p0, .int p1] sh S (gV sh P) := by
  refine Sp.of k_To_begin (ls := [.ref a, .ref p0, .int p1]) rfl (Nat.le_of_ble_eq_true rfl) ?_
  refine r_aload_n (pc := 0) d_To_begin_0 (x := a) rfl ?_
  refine r_aload_n (pc := 1) d_To_begin_1 (x := p0) rfl ?_
  refine r_putR (pc := 2) d_To_begin_2 f_To_27 sa (Or.inr ⟨_, rfl⟩) ?_
  refine r_aload_n (pc := 5) d_To_begin_5 (x := a) rfl ?_
  refine r_iload_n (pc := 6) d_To_begin_6 (x := p1) rfl ?_
  refine r_putI (pc := 7) d_To_begin_7 f_To_31 sa rfl ?_
  refine r_aload_n (pc := 10) d_To_begin_10 (x := a) rfl ?_
  refine r_iconst (pc := 11) d_To_begin_11 (v := 0) (by decide) ?_
  refine r_putI (pc := 12) d_To_begin_12 f_To_34 sa rfl ?_
  refine r_aload_n (pc := 15) d_To_begin_15 (x := a) rfl ?_
  refine r_iconst (pc := 16) d_To_begin_16 (v := 0) (by decide) ?_
  refine r_putI (pc := 17) d_To_begin_17 f_To_37 sa rfl ?_
  refine r_aload_n (pc := 20) d_To_begin_20 (x := a) rfl ?_
  refine r_iconst (pc := 21) d_To_begin_21 (v := (-1)) (by decide) ?_
  refine r_putI (pc := 22) d_To_begin_22 f_To_40 sa rfl ?_
  refine r_aload_n (pc := 25) d_To_begin_25 (x := a) rfl ?_
  refine r_callV (pc := 26) (k := a) (As := []) (rest := []) (mc' := 0) (ms' := 0) lk_To_43 in_To_advance se_To_advance sa rfl d_To_begin_26 k_To_advance rfl rfl (Nat.le_of_ble_eq_true rfl) (by decide) (by decide) (Sp.mono h ?_)
  rintro rS1 shS1 S1 ⟨qS1, uS1, h⟩
  subst uS1
  rw [qS1]
  exact r_return (pc := 29) d_To_begin_29 rfl rfl (Nat.le_refl _) ⟨rfl, rfl, h⟩
set_option maxRecDepth 4000 in
theorem e_To_advance {l : Launch} {d : Nat} {sh : aw_SH} {S : aw_S} {P : aw_S → Prop} {a : Nat} (sa : sh[a]? = some (0, 6)) (h : AW l m_To_advance (d + 1) 0 0 (gV sh P) 0 0 0 [.ref a] [] sh S) : Sp l m_To_advance (d + 1) 0 0 [.ref a] sh S (gV sh P) := by
  refine Sp.of k_To_advance (ls := [.ref a]) rfl (Nat.le_of_ble_eq_true rfl) ?_
  exact h
set_option maxRecDepth 4000 in
theorem s_To_advance_0 {l : Launch} {d : Nat} {sh : aw_SH} {S : aw_S} {P : aw_S → Prop} {a : Nat} (sa : sh[a]? = some (0, 6)) (h : (((S.1 a 7) ≤ (S.1 a 9) → AW l m_To_advance (d + 1) 0 0 (gV sh P) 0 0 52 [.ref a] [] sh S) ∧ (¬ (S.1 a 7) ≤ (S.1 a 9) → ∃ r2, S.2.2 a 6 = some r2 ∧ ∃ n4, sh[r2]? = some (1, n4) ∧ vp_in (S.1 a 9) n4 ∧ (((S.1 r2 (S.1 a 9 : Int32).toNatClampNeg) = 10 → AW l m_To_advance (d + 1) 0 0 (gV sh P) 0 0 0 [.ref a] [] sh (aw_uI S a 9 ((S.1 a 9) + (1 : Int32)))) ∧ (¬ (S.1 r2 (S.1 a 9 : Int32).toNatClampNeg) = 10 → vp_in (S.1 a 9) n4 ∧ ((¬ (S.1 r2 (S.1 a 9 : Int32).toNatClampNeg) = 32 → AW l m_To_advance (d + 1) 0 0 (gV sh P) 0 0 52 [.ref a] [] sh S) ∧ ((S.1 r2 (S.1 a 9 : Int32).toNatClampNeg) = 32 → AW l m_To_advance (d + 1) 0 0 (gV sh P) 0 0 0 [.ref a] [] sh (aw_uI S a 9 ((S.1 a 9) + (1 : Int32)))))))))) : AW l m_To_advance (d + 1) 0 0 (gV sh P) 0 0 0 [.ref a] [] sh S := by
  refine r_aload_n (pc := 0) d_To_advance_0 (x := a) rfl ?_
  refine r_getI (pc := 1) d_To_advance_1 f_To_34 sa rfl ?_
  refine r_aload_n (pc := 4) d_To_advance_4 (x := a) rfl ?_
  refine r_getI (pc := 5) d_To_advance_5 f_To_31 sa rfl ?_
  refine r_icmp_ge (pc := 8) d_To_advance_8 (tgt := 52) (by decide) (fun c1 => ?_) (fun c1 => ?_)
  · replace h := h.1 c1
    exact h
  · replace h := h.2 c1
    refine r_aload_n (pc := 11) d_To_advance_11 (x := a) rfl ?_
    obtain ⟨r2, er2, h⟩ := h
    refine r_getR (pc := 12) d_To_advance_12 f_To_27 sa (Or.inr ⟨_, rfl⟩) (r := r2) er2 ?_
    refine r_aload_n (pc := 15) d_To_advance_15 (x := a) rfl ?_
    refine r_getI (pc := 16) d_To_advance_16 f_To_34 sa rfl ?_
    obtain ⟨n4, s3, h⟩ := h
    obtain ⟨g5, h⟩ := h
    refine r_bald (pc := 19) d_To_advance_19 s3 g5 ?_
    refine r_bipush (pc := 20) d_To_advance_20 (v := 10) (by decide) ?_
    refine r_icmp_eq (pc := 22) d_To_advance_22 (tgt := 39) (by decide) (fun c6 => ?_) (fun c6 => ?_)
    · replace h := h.1 c6
      refine r_aload_n (pc := 39) d_To_advance_39 (x := a) rfl ?_
      refine r_dup (pc := 40) d_To_advance_40 rfl ?_
      refine r_getI (pc := 41) d_To_advance_41 f_To_34 sa rfl ?_
      refine r_iconst (pc := 44) d_To_advance_44 (v := 1) (by decide) ?_
      refine r_iadd (pc := 45) d_To_advance_45 ?_
      refine r_putI (pc := 46) d_To_advance_46 f_To_34 sa rfl ?_
      refine r_goto (pc := 49) d_To_advance_49 (tgt := 0) (by decide) ?_
      exact h
    · replace h := h.2 c6
      refine r_aload_n (pc := 25) d_To_advance_25 (x := a) rfl ?_
      refine r_getR (pc := 26) d_To_advance_26 f_To_27 sa (Or.inr ⟨_, rfl⟩) (r := r2) er2 ?_
      refine r_aload_n (pc := 29) d_To_advance_29 (x := a) rfl ?_
      refine r_getI (pc := 30) d_To_advance_30 f_To_34 sa rfl ?_
      obtain ⟨g7, h⟩ := h
      refine r_bald (pc := 33) d_To_advance_33 s3 g7 ?_
      refine r_bipush (pc := 34) d_To_advance_34 (v := 32) (by decide) ?_
      refine r_icmp_ne (pc := 36) d_To_advance_36 (tgt := 52) (by decide) (fun c8 => ?_) (fun c8 => ?_)
      · replace h := h.1 c8
        exact h
      · replace h := h.2 c8
        refine r_aload_n (pc := 39) d_To_advance_39 (x := a) rfl ?_
        refine r_dup (pc := 40) d_To_advance_40 rfl ?_
        refine r_getI (pc := 41) d_To_advance_41 f_To_34 sa rfl ?_
        refine r_iconst (pc := 44) d_To_advance_44 (v := 1) (by decide) ?_
        refine r_iadd (pc := 45) d_To_advance_45 ?_
        refine r_putI (pc := 46) d_To_advance_46 f_To_34 sa rfl ?_
        refine r_goto (pc := 49) d_To_advance_49 (tgt := 0) (by decide) ?_
        exact h
set_option maxRecDepth 4000 in
theorem s_To_advance_52 {l : Launch} {d : Nat} {sh : aw_SH} {S : aw_S} {P : aw_S → Prop} {a : Nat} (sa : sh[a]? = some (0, 6)) (h : ((((aw_uI S a 8 (S.1 a 9)).1 a 9) < ((aw_uI S a 8 (S.1 a 9)).1 a 7) → ∃ r2, (aw_uI S a 8 (S.1 a 9)).2.2 a 6 = some r2 ∧ ∃ n4, sh[r2]? = some (1, n4) ∧ vp_in ((aw_uI S a 8 (S.1 a 9)).1 a 9) n4 ∧ ((((aw_uI S a 8 (S.1 a 9)).1 r2 ((aw_uI S a 8 (S.1 a 9)).1 a 9 : Int32).toNatClampNeg) < 97 → AW l m_To_advance (d + 1) 0 0 (gV sh P) 0 0 114 [.ref a] [] sh (aw_uI S a 8 (S.1 a 9))) ∧ (¬ ((aw_uI S a 8 (S.1 a 9)).1 r2 ((aw_uI S a 8 (S.1 a 9)).1 a 9 : Int32).toNatClampNeg) < 97 → vp_in ((aw_uI S a 8 (S.1 a 9)).1 a 9) n4 ∧ ((122 < ((aw_uI S a 8 (S.1 a 9)).1 r2 ((aw_uI S a 8 (S.1 a 9)).1 a 9 : Int32).toNatClampNeg) → AW l m_To_advance (d + 1) 0 0 (gV sh P) 0 0 114 [.ref a] [] sh (aw_uI S a 8 (S.1 a 9))) ∧ (¬ 122 < ((aw_uI S a 8 (S.1 a 9)).1 r2 ((aw_uI S a 8 (S.1 a 9)).1 a 9 : Int32).toNatClampNeg) → Sp l m_To_advanceWord d 0 0 [.ref a] sh (aw_uI S a 8 (S.1 a 9)) (gV sh (fun S9 => P S9))))))) ∧ (¬ ((aw_uI S a 8 (S.1 a 9)).1 a 9) < ((aw_uI S a 8 (S.1 a 9)).1 a 7) → P (aw_uI (aw_uI S a 8 (S.1 a 9)) a 2 0)))) : AW l m_To_advance (d + 1) 0 0 (gV sh P) 0 0 52 [.ref a] [] sh S := by
  refine r_aload_n (pc := 52) d_To_advance_52 (x := a) rfl ?_
  refine r_aload_n (pc := 53) d_To_advance_53 (x := a) rfl ?_
  refine r_getI (pc := 54) d_To_advance_54 f_To_34 sa rfl ?_
  refine r_putI (pc := 57) d_To_advance_57 f_To_46 sa rfl ?_
  refine r_aload_n (pc := 60) d_To_advance_60 (x := a) rfl ?_
  refine r_getI (pc := 61) d_To_advance_61 f_To_34 sa rfl ?_
  refine r_aload_n (pc := 64) d_To_advance_64 (x := a) rfl ?_
  refine r_getI (pc := 65) d_To_advance_65 f_To_31 sa rfl ?_
  refine r_icmp_lt (pc := 68) d_To_advance_68 (tgt := 79) (by decide) (fun c1 => ?_) (fun c1 => ?_)
  · replace h := h.1 c1
    refine r_aload_n (pc := 79) d_To_advance_79 (x := a) rfl ?_
    obtain ⟨r2, er2, h⟩ := h
    refine r_getR (pc := 80) d_To_advance_80 f_To_27 sa (Or.inr ⟨_, rfl⟩) (r := r2) er2 ?_
    refine r_aload_n (pc := 83) d_To_advance_83 (x := a) rfl ?_
    refine r_getI (pc := 84) d_To_advance_84 f_To_34 sa rfl ?_
    obtain ⟨n4, s3, h⟩ := h
    obtain ⟨g5, h⟩ := h
    refine r_bald (pc := 87) d_To_advance_87 s3 g5 ?_
    refine r_bipush (pc := 88) d_To_advance_88 (v := 97) (by decide) ?_
    refine r_icmp_lt (pc := 90) d_To_advance_90 (tgt := 114) (by decide) (fun c6 => ?_) (fun c6 => ?_)
    · replace h := h.1 c6
      exact h
    · replace h := h.2 c6
      refine r_aload_n (pc := 93) d_To_advance_93 (x := a) rfl ?_
      refine r_getR (pc := 94) d_To_advance_94 f_To_27 sa (Or.inr ⟨_, rfl⟩) (r := r2) er2 ?_
      refine r_aload_n (pc := 97) d_To_advance_97 (x := a) rfl ?_
      refine r_getI (pc := 98) d_To_advance_98 f_To_34 sa rfl ?_
      obtain ⟨g7, h⟩ := h
      refine r_bald (pc := 101) d_To_advance_101 s3 g7 ?_
      refine r_bipush (pc := 102) d_To_advance_102 (v := 122) (by decide) ?_
      refine r_icmp_gt (pc := 104) d_To_advance_104 (tgt := 114) (by decide) (fun c8 => ?_) (fun c8 => ?_)
      · replace h := h.1 c8
        exact h
      · replace h := h.2 c8
        refine r_aload_n (pc := 107) d_To_advance_107 (x := a) rfl ?_
        refine r_callV (pc := 108) (k := a) (As := []) (rest := []) (mc' := 0) (ms' := 0) lk_To_52 in_To_advanceWord se_To_advanceWord sa rfl d_To_advance_108 k_To_advanceWord rfl rfl (Nat.le_of_ble_eq_true rfl) (by decide) (by decide) (Sp.mono h ?_)
        rintro rS9 shS9 S9 ⟨qS9, uS9, h⟩
        subst uS9
        rw [qS9]
        refine r_goto (pc := 111) d_To_advance_111 (tgt := 217) (by decide) ?_
        exact r_return (pc := 217) d_To_advance_217 rfl rfl (Nat.le_refl _) ⟨rfl, rfl, h⟩
  · replace h := h.2 c1
    refine r_aload_n (pc := 71) d_To_advance_71 (x := a) rfl ?_
    refine r_iconst (pc := 72) d_To_advance_72 (v := 0) (by decide) ?_
    refine r_putI (pc := 73) d_To_advance_73 f_To_49 sa rfl ?_
    refine r_goto (pc := 76) d_To_advance_76 (tgt := 217) (by decide) ?_
    exact r_return (pc := 217) d_To_advance_217 rfl rfl (Nat.le_refl _) ⟨rfl, rfl, h⟩
set_option maxRecDepth 4000 in
theorem s_To_advance_114 {l : Launch} {d : Nat} {sh : aw_SH} {S : aw_S} {P : aw_S → Prop} {a : Nat} (sa : sh[a]? = some (0, 6)) (h : ∃ r1, S.2.2 a 6 = some r1 ∧ ∃ n3, sh[r1]? = some (1, n3) ∧ vp_in (S.1 a 9) n3 ∧ (((S.1 r1 (S.1 a 9 : Int32).toNatClampNeg) < 48 → AW l m_To_advance (d + 1) 0 0 (gV sh P) 0 0 149 [.ref a] [] sh S) ∧ (¬ (S.1 r1 (S.1 a 9 : Int32).toNatClampNeg) < 48 → vp_in (S.1 a 9) n3 ∧ ((57 < (S.1 r1 (S.1 a 9 : Int32).toNatClampNeg) → AW l m_To_advance (d + 1) 0 0 (gV sh P) 0 0 149 [.ref a] [] sh S) ∧ (¬ 57 < (S.1 r1 (S.1 a 9 : Int32).toNatClampNeg) → Sp l m_To_advanceNumber d 0 0 [.ref a] sh S (gV sh (fun S8 => P S8))))))) : AW l m_To_advance (d + 1) 0 0 (gV sh P) 0 0 114 [.ref a] [] sh S := by
  refine r_aload_n (pc := 114) d_To_advance_114 (x := a) rfl ?_
  obtain ⟨r1, er1, h⟩ := h
  refine r_getR (pc := 115) d_To_advance_115 f_To_27 sa (Or.inr ⟨_, rfl⟩) (r := r1) er1 ?_
  refine r_aload_n (pc := 118) d_To_advance_118 (x := a) rfl ?_
  refine r_getI (pc := 119) d_To_advance_119 f_To_34 sa rfl ?_
  obtain ⟨n3, s2, h⟩ := h
  obtain ⟨g4, h⟩ := h
  refine r_bald (pc := 122) d_To_advance_122 s2 g4 ?_
  refine r_bipush (pc := 123) d_To_advance_123 (v := 48) (by decide) ?_
  refine r_icmp_lt (pc := 125) d_To_advance_125 (tgt := 149) (by decide) (fun c5 => ?_) (fun c5 => ?_)
  · replace h := h.1 c5
    exact h
  · replace h := h.2 c5
    refine r_aload_n (pc := 128) d_To_advance_128 (x := a) rfl ?_
    refine r_getR (pc := 129) d_To_advance_129 f_To_27 sa (Or.inr ⟨_, rfl⟩) (r := r1) er1 ?_
    refine r_aload_n (pc := 132) d_To_advance_132 (x := a) rfl ?_
    refine r_getI (pc := 133) d_To_advance_133 f_To_34 sa rfl ?_
    obtain ⟨g6, h⟩ := h
    refine r_bald (pc := 136) d_To_advance_136 s2 g6 ?_
    refine r_bipush (pc := 137) d_To_advance_137 (v := 57) (by decide) ?_
    refine r_icmp_gt (pc := 139) d_To_advance_139 (tgt := 149) (by decide) (fun c7 => ?_) (fun c7 => ?_)
    · replace h := h.1 c7
      exact h
    · replace h := h.2 c7
      refine r_aload_n (pc := 142) d_To_advance_142 (x := a) rfl ?_
      refine r_callV (pc := 143) (k := a) (As := []) (rest := []) (mc' := 0) (ms' := 0) lk_To_55 in_To_advanceNumber se_To_advanceNumber sa rfl d_To_advance_143 k_To_advanceNumber rfl rfl (Nat.le_of_ble_eq_true rfl) (by decide) (by decide) (Sp.mono h ?_)
      rintro rS8 shS8 S8 ⟨qS8, uS8, h⟩
      subst uS8
      rw [qS8]
      refine r_goto (pc := 146) d_To_advance_146 (tgt := 217) (by decide) ?_
      exact r_return (pc := 217) d_To_advance_217 rfl rfl (Nat.le_refl _) ⟨rfl, rfl, h⟩
set_option maxRecDepth 4000 in
theorem s_To_advance_149 {l : Launch} {d : Nat} {sh : aw_SH} {S : aw_S} {P : aw_S → Prop} {a : Nat} (sa : sh[a]? = some (0, 6)) (h : ∃ r1, S.2.2 a 6 = some r1 ∧ ∃ n3, sh[r1]? = some (1, n3) ∧ vp_in (S.1 a 9) n3 ∧ ((((aw_uI (aw_uI S a 5 (S.1 r1 (S.1 a 9 : Int32).toNatClampNeg)) a 9 (((aw_uI S a 5 (S.1 r1 (S.1 a 9 : Int32).toNatClampNeg)).1 a 9) + (1 : Int32))).1 a 5) = 59 → P (aw_uI (aw_uI (aw_uI S a 5 (S.1 r1 (S.1 a 9 : Int32).toNatClampNeg)) a 9 (((aw_uI S a 5 (S.1 r1 (S.1 a 9 : Int32).toNatClampNeg)).1 a 9) + (1 : Int32))) a 2 3)) ∧ (¬ ((aw_uI (aw_uI S a 5 (S.1 r1 (S.1 a 9 : Int32).toNatClampNeg)) a 9 (((aw_uI S a 5 (S.1 r1 (S.1 a 9 : Int32).toNatClampNeg)).1 a 9) + (1 : Int32))).1 a 5) = 59 → ((((aw_uI (aw_uI S a 5 (S.1 r1 (S.1 a 9 : Int32).toNatClampNeg)) a 9 (((aw_uI S a 5 (S.1 r1 (S.1 a 9 : Int32).toNatClampNeg)).1 a 9) + (1 : Int32))).1 a 5) = 60 → P (aw_uI (aw_uI (aw_uI S a 5 (S.1 r1 (S.1 a 9 : Int32).toNatClampNeg)) a 9 (((aw_uI S a 5 (S.1 r1 (S.1 a 9 : Int32).toNatClampNeg)).1 a 9) + (1 : Int32))) a 2 3)) ∧ (¬ ((aw_uI (aw_uI S a 5 (S.1 r1 (S.1 a 9 : Int32).toNatClampNeg)) a 9 (((aw_uI S a 5 (S.1 r1 (S.1 a 9 : Int32).toNatClampNeg)).1 a 9) + (1 : Int32))).1 a 5) = 60 → ((((aw_uI (aw_uI S a 5 (S.1 r1 (S.1 a 9 : Int32).toNatClampNeg)) a 9 (((aw_uI S a 5 (S.1 r1 (S.1 a 9 : Int32).toNatClampNeg)).1 a 9) + (1 : Int32))).1 a 5) = 62 → P (aw_uI (aw_uI (aw_uI S a 5 (S.1 r1 (S.1 a 9 : Int32).toNatClampNeg)) a 9 (((aw_uI S a 5 (S.1 r1 (S.1 a 9 : Int32).toNatClampNeg)).1 a 9) + (1 : Int32))) a 2 3)) ∧ (¬ ((aw_uI (aw_uI S a 5 (S.1 r1 (S.1 a 9 : Int32).toNatClampNeg)) a 9 (((aw_uI S a 5 (S.1 r1 (S.1 a 9 : Int32).toNatClampNeg)).1 a 9) + (1 : Int32))).1 a 5) = 62 → ((¬ ((aw_uI (aw_uI S a 5 (S.1 r1 (S.1 a 9 : Int32).toNatClampNeg)) a 9 (((aw_uI S a 5 (S.1 r1 (S.1 a 9 : Int32).toNatClampNeg)).1 a 9) + (1 : Int32))).1 a 5) = 61 → P (aw_uI (aw_uI (aw_uI S a 5 (S.1 r1 (S.1 a 9 : Int32).toNatClampNeg)) a 9 (((aw_uI S a 5 (S.1 r1 (S.1 a 9 : Int32).toNatClampNeg)).1 a 9) + (1 : Int32))) a 2 4)) ∧ (((aw_uI (aw_uI S a 5 (S.1 r1 (S.1 a 9 : Int32).toNatClampNeg)) a 9 (((aw_uI S a 5 (S.1 r1 (S.1 a 9 : Int32).toNatClampNeg)).1 a 9) + (1 : Int32))).1 a 5) = 61 → P (aw_uI (aw_uI (aw_uI S a 5 (S.1 r1 (S.1 a 9 : Int32).toNatClampNeg)) a 9 (((aw_uI S a 5 (S.1 r1 (S.1 a 9 : Int32).toNatClampNeg)).1 a 9) + (1 : Int32))) a 2 3)))))))))) : AW l m_To_advance (d + 1) 0 0 (gV sh P) 0 0 149 [.ref a] [] sh S := by
  refine r_aload_n (pc := 149) d_To_advance_149 (x := a) rfl ?_
  refine r_aload_n (pc := 150) d_To_advance_150 (x := a) rfl ?_
  obtain ⟨r1, er1, h⟩ := h
  refine r_getR (pc := 151) d_To_advance_151 f_To_27 sa (Or.inr ⟨_, rfl⟩) (r := r1) er1 ?_
  refine r_aload_n (pc := 154) d_To_advance_154 (x := a) rfl ?_
  refine r_getI (pc := 155) d_To_advance_155 f_To_34 sa rfl ?_
  obtain ⟨n3, s2, h⟩ := h
  obtain ⟨g4, h⟩ := h
  refine r_bald (pc := 158) d_To_advance_158 s2 g4 ?_
  refine r_putI (pc := 159) d_To_advance_159 f_To_58 sa rfl ?_
  refine r_aload_n (pc := 162) d_To_advance_162 (x := a) rfl ?_
  refine r_dup (pc := 163) d_To_advance_163 rfl ?_
  refine r_getI (pc := 164) d_To_advance_164 f_To_34 sa rfl ?_
  refine r_iconst (pc := 167) d_To_advance_167 (v := 1) (by decide) ?_
  refine r_iadd (pc := 168) d_To_advance_168 ?_
  refine r_putI (pc := 169) d_To_advance_169 f_To_34 sa rfl ?_
  refine r_aload_n (pc := 172) d_To_advance_172 (x := a) rfl ?_
  refine r_aload_n (pc := 173) d_To_advance_173 (x := a) rfl ?_
  refine r_getI (pc := 174) d_To_advance_174 f_To_58 sa rfl ?_
  refine r_bipush (pc := 177) d_To_advance_177 (v := 59) (by decide) ?_
  refine r_icmp_eq (pc := 179) d_To_advance_179 (tgt := 209) (by decide) (fun c5 => ?_) (fun c5 => ?_)
  · replace h := h.1 c5
    refine r_iconst (pc := 209) d_To_advance_209 (v := 3) (by decide) ?_
    refine r_goto (pc := 210) d_To_advance_210 (tgt := 214) (by decide) ?_
    refine r_putI (pc := 214) d_To_advance_214 f_To_49 sa rfl ?_
    exact r_return (pc := 217) d_To_advance_217 rfl rfl (Nat.le_refl _) ⟨rfl, rfl, h⟩
  · replace h := h.2 c5
    refine r_aload_n (pc := 182) d_To_advance_182 (x := a) rfl ?_
    refine r_getI (pc := 183) d_To_advance_183 f_To_58 sa rfl ?_
    refine r_bipush (pc := 186) d_To_advance_186 (v := 60) (by decide) ?_
    refine r_icmp_eq (pc := 188) d_To_advance_188 (tgt := 209) (by decide) (fun c6 => ?_) (fun c6 => ?_)
    · replace h := h.1 c6
      refine r_iconst (pc := 209) d_To_advance_209 (v := 3) (by decide) ?_
      refine r_goto (pc := 210) d_To_advance_210 (tgt := 214) (by decide) ?_
      refine r_putI (pc := 214) d_To_advance_214 f_To_49 sa rfl ?_
      exact r_return (pc := 217) d_To_advance_217 rfl rfl (Nat.le_refl _) ⟨rfl, rfl, h⟩
    · replace h := h.2 c6
      refine r_aload_n (pc := 191) d_To_advance_191 (x := a) rfl ?_
      refine r_getI (pc := 192) d_To_advance_192 f_To_58 sa rfl ?_
      refine r_bipush (pc := 195) d_To_advance_195 (v := 62) (by decide) ?_
      refine r_icmp_eq (pc := 197) d_To_advance_197 (tgt := 209) (by decide) (fun c7 => ?_) (fun c7 => ?_)
      · replace h := h.1 c7
        refine r_iconst (pc := 209) d_To_advance_209 (v := 3) (by decide) ?_
        refine r_goto (pc := 210) d_To_advance_210 (tgt := 214) (by decide) ?_
        refine r_putI (pc := 214) d_To_advance_214 f_To_49 sa rfl ?_
        exact r_return (pc := 217) d_To_advance_217 rfl rfl (Nat.le_refl _) ⟨rfl, rfl, h⟩
      · replace h := h.2 c7
        refine r_aload_n (pc := 200) d_To_advance_200 (x := a) rfl ?_
        refine r_getI (pc := 201) d_To_advance_201 f_To_58 sa rfl ?_
        refine r_bipush (pc := 204) d_To_advance_204 (v := 61) (by decide) ?_
        refine r_icmp_ne (pc := 206) d_To_advance_206 (tgt := 213) (by decide) (fun c8 => ?_) (fun c8 => ?_)
        · replace h := h.1 c8
          refine r_iconst (pc := 213) d_To_advance_213 (v := 4) (by decide) ?_
          refine r_putI (pc := 214) d_To_advance_214 f_To_49 sa rfl ?_
          exact r_return (pc := 217) d_To_advance_217 rfl rfl (Nat.le_refl _) ⟨rfl, rfl, h⟩
        · replace h := h.2 c8
          refine r_iconst (pc := 209) d_To_advance_209 (v := 3) (by decide) ?_
          refine r_goto (pc := 210) d_To_advance_210 (tgt := 214) (by decide) ?_
          refine r_putI (pc := 214) d_To_advance_214 f_To_49 sa rfl ?_
          exact r_return (pc := 217) d_To_advance_217 rfl rfl (Nat.le_refl _) ⟨rfl, rfl, h⟩
set_option maxRecDepth 4000 in
theorem e_To_advanceWord {l : Launch} {d : Nat} {sh : aw_SH} {S : aw_S} {P : aw_S → Prop} {a : Nat} (sa : sh[a]? = some (0, 6)) (h : AW l m_To_advanceWord (d + 1) 0 0 (gV sh P) 0 0 10 [.ref a] [] sh (aw_uL (aw_uI S a 2 1) a 3 0)) : Sp l m_To_advanceWord (d + 1) 0 0 [.ref a] sh S (gV sh P) := by
  refine Sp.of k_To_advanceWord (ls := [.ref a]) rfl (Nat.le_of_ble_eq_true rfl) ?_
  refine r_aload_n (pc := 0) d_To_advanceWord_0 (x := a) rfl ?_
  refine r_iconst (pc := 1) d_To_advanceWord_1 (v := 1) (by decide) ?_
  refine r_putI (pc := 2) d_To_advanceWord_2 f_To_49 sa rfl ?_
  refine r_aload_n (pc := 5) d_To_advanceWord_5 (x := a) rfl ?_
  refine r_lconst (pc := 6) d_To_advanceWord_6 (v := 0) (by decide) ?_
  refine r_putL (pc := 7) d_To_advanceWord_7 f_To_61 sa rfl ?_
  exact h
set_option maxRecDepth 4000 in
theorem s_To_advanceWord_10 {l : Launch} {d : Nat} {sh : aw_SH} {S : aw_S} {P : aw_S → Prop} {a : Nat} (sa : sh[a]? = some (0, 6)) (h : (((S.1 a 7) ≤ (S.1 a 9) → P S) ∧ (¬ (S.1 a 7) ≤ (S.1 a 9) → ∃ r2, S.2.2 a 6 = some r2 ∧ ∃ n4, sh[r2]? = some (1, n4) ∧ vp_in (S.1 a 9) n4 ∧ (((S.1 r2 (S.1 a 9 : Int32).toNatClampNeg) < 97 → P S) ∧ (¬ (S.1 r2 (S.1 a 9 : Int32).toNatClampNeg) < 97 → vp_in (S.1 a 9) n4 ∧ ((122 < (S.1 r2 (S.1 a 9 : Int32).toNatClampNeg) → P S) ∧ (¬ 122 < (S.1 r2 (S.1 a 9 : Int32).toNatClampNeg) → ((8 ≤ ((S.1 a 9) - (S.1 a 8)) → AW l m_To_advanceWord (d + 1) 0 0 (gV sh P) 0 0 10 [.ref a] [] sh (aw_uI (aw_uL S a 3 0) a 9 (((aw_uL S a 3 0).1 a 9) + (1 : Int32)))) ∧ (¬ 8 ≤ ((S.1 a 9) - (S.1 a 8)) → vp_in (S.1 a 9) n4 ∧ AW l m_To_advanceWord (d + 1) 0 0 (gV sh P) 0 0 10 [.ref a] [] sh (aw_uI (aw_uL S a 3 (((S.2.1 a 3) <<< (((5) : Int32).toInt64 &&& 63)) ||| ((((S.1 r2 (S.1 a 9 : Int32).toNatClampNeg) - (97 : Int32)) + (1 : Int32)).toInt64))) a 9 (((aw_uL S a 3 (((S.2.1 a 3) <<< (((5) : Int32).toInt64 &&& 63)) ||| ((((S.1 r2 (S.1 a 9 : Int32).toNatClampNeg) - (97 : Int32)) + (1 : Int32)).toInt64))).1 a 9) + (1 : Int32)))))))))))) : AW l m_To_advanceWord (d + 1) 0 0 (gV sh P) 0 0 10 [.ref a] [] sh S := by
  refine r_aload_n (pc := 10) d_To_advanceWord_10 (x := a) rfl ?_
  refine r_getI (pc := 11) d_To_advanceWord_11 f_To_34 sa rfl ?_
  refine r_aload_n (pc := 14) d_To_advanceWord_14 (x := a) rfl ?_
  refine r_getI (pc := 15) d_To_advanceWord_15 f_To_31 sa rfl ?_
  refine r_icmp_ge (pc := 18) d_To_advanceWord_18 (tgt := 106) (by decide) (fun c1 => ?_) (fun c1 => ?_)
  · replace h := h.1 c1
    exact r_return (pc := 106) d_To_advanceWord_106 rfl rfl (Nat.le_refl _) ⟨rfl, rfl, h⟩
  · replace h := h.2 c1
    refine r_aload_n (pc := 21) d_To_advanceWord_21 (x := a) rfl ?_
    obtain ⟨r2, er2, h⟩ := h
    refine r_getR (pc := 22) d_To_advanceWord_22 f_To_27 sa (Or.inr ⟨_, rfl⟩) (r := r2) er2 ?_
    refine r_aload_n (pc := 25) d_To_advanceWord_25 (x := a) rfl ?_
    refine r_getI (pc := 26) d_To_advanceWord_26 f_To_34 sa rfl ?_
    obtain ⟨n4, s3, h⟩ := h
    obtain ⟨g5, h⟩ := h
    refine r_bald (pc := 29) d_To_advanceWord_29 s3 g5 ?_
    refine r_bipush (pc := 30) d_To_advanceWord_30 (v := 97) (by decide) ?_
    refine r_icmp_lt (pc := 32) d_To_advanceWord_32 (tgt := 106) (by decide) (fun c6 => ?_) (fun c6 => ?_)
    · replace h := h.1 c6
      exact r_return (pc := 106) d_To_advanceWord_106 rfl rfl (Nat.le_refl _) ⟨rfl, rfl, h⟩
    · replace h := h.2 c6
      refine r_aload_n (pc := 35) d_To_advanceWord_35 (x := a) rfl ?_
      refine r_getR (pc := 36) d_To_advanceWord_36 f_To_27 sa (Or.inr ⟨_, rfl⟩) (r := r2) er2 ?_
      refine r_aload_n (pc := 39) d_To_advanceWord_39 (x := a) rfl ?_
      refine r_getI (pc := 40) d_To_advanceWord_40 f_To_34 sa rfl ?_
      obtain ⟨g7, h⟩ := h
      refine r_bald (pc := 43) d_To_advanceWord_43 s3 g7 ?_
      refine r_bipush (pc := 44) d_To_advanceWord_44 (v := 122) (by decide) ?_
      refine r_icmp_gt (pc := 46) d_To_advanceWord_46 (tgt := 106) (by decide) (fun c8 => ?_) (fun c8 => ?_)
      · replace h := h.1 c8
        exact r_return (pc := 106) d_To_advanceWord_106 rfl rfl (Nat.le_refl _) ⟨rfl, rfl, h⟩
      · replace h := h.2 c8
        refine r_aload_n (pc := 49) d_To_advanceWord_49 (x := a) rfl ?_
        refine r_aload_n (pc := 50) d_To_advanceWord_50 (x := a) rfl ?_
        refine r_getI (pc := 51) d_To_advanceWord_51 f_To_34 sa rfl ?_
        refine r_aload_n (pc := 54) d_To_advanceWord_54 (x := a) rfl ?_
        refine r_getI (pc := 55) d_To_advanceWord_55 f_To_46 sa rfl ?_
        refine r_isub (pc := 58) d_To_advanceWord_58 ?_
        refine r_bipush (pc := 59) d_To_advanceWord_59 (v := 8) (by decide) ?_
        refine r_icmp_ge (pc := 61) d_To_advanceWord_61 (tgt := 89) (by decide) (fun c9 => ?_) (fun c9 => ?_)
        · replace h := h.1 c9
          refine r_lconst (pc := 89) d_To_advanceWord_89 (v := 0) (by decide) ?_
          refine r_putL (pc := 90) d_To_advanceWord_90 f_To_61 sa rfl ?_
          refine r_aload_n (pc := 93) d_To_advanceWord_93 (x := a) rfl ?_
          refine r_dup (pc := 94) d_To_advanceWord_94 rfl ?_
          refine r_getI (pc := 95) d_To_advanceWord_95 f_To_34 sa rfl ?_
          refine r_iconst (pc := 98) d_To_advanceWord_98 (v := 1) (by decide) ?_
          refine r_iadd (pc := 99) d_To_advanceWord_99 ?_
          refine r_putI (pc := 100) d_To_advanceWord_100 f_To_34 sa rfl ?_
          refine r_goto (pc := 103) d_To_advanceWord_103 (tgt := 10) (by decide) ?_
          exact h
        · replace h := h.2 c9
          refine r_aload_n (pc := 64) d_To_advanceWord_64 (x := a) rfl ?_
          refine r_getL (pc := 65) d_To_advanceWord_65 f_To_61 sa rfl ?_
          refine r_iconst (pc := 68) d_To_advanceWord_68 (v := 5) (by decide) ?_
          refine r_lshl (pc := 69) d_To_advanceWord_69 ?_
          refine r_aload_n (pc := 70) d_To_advanceWord_70 (x := a) rfl ?_
          refine r_getR (pc := 71) d_To_advanceWord_71 f_To_27 sa (Or.inr ⟨_, rfl⟩) (r := r2) er2 ?_
          refine r_aload_n (pc := 74) d_To_advanceWord_74 (x := a) rfl ?_
          refine r_getI (pc := 75) d_To_advanceWord_75 f_To_34 sa rfl ?_
          obtain ⟨g10, h⟩ := h
          refine r_bald (pc := 78) d_To_advanceWord_78 s3 g10 ?_
          refine r_bipush (pc := 79) d_To_advanceWord_79 (v := 97) (by decide) ?_
          refine r_isub (pc := 81) d_To_advanceWord_81 ?_
          refine r_iconst (pc := 82) d_To_advanceWord_82 (v := 1) (by decide) ?_
          refine r_iadd (pc := 83) d_To_advanceWord_83 ?_
          refine r_i2l (pc := 84) d_To_advanceWord_84 ?_
          refine r_lor (pc := 85) d_To_advanceWord_85 ?_
          refine r_goto (pc := 86) d_To_advanceWord_86 (tgt := 90) (by decide) ?_
          refine r_putL (pc := 90) d_To_advanceWord_90 f_To_61 sa rfl ?_
          refine r_aload_n (pc := 93) d_To_advanceWord_93 (x := a) rfl ?_
          refine r_dup (pc := 94) d_To_advanceWord_94 rfl ?_
          refine r_getI (pc := 95) d_To_advanceWord_95 f_To_34 sa rfl ?_
          refine r_iconst (pc := 98) d_To_advanceWord_98 (v := 1) (by decide) ?_
          refine r_iadd (pc := 99) d_To_advanceWord_99 ?_
          refine r_putI (pc := 100) d_To_advanceWord_100 f_To_34 sa rfl ?_
          refine r_goto (pc := 103) d_To_advanceWord_103 (tgt := 10) (by decide) ?_
          exact h
set_option maxRecDepth 4000 in
theorem e_To_advanceNumber {l : Launch} {d : Nat} {sh : aw_SH} {S : aw_S} {P : aw_S → Prop} {a : Nat} (sa : sh[a]? = some (0, 6)) (h : AW l m_To_advanceNumber (d + 1) 0 0 (gV sh P) 0 0 5 [.ref a] [] sh (aw_uI S a 4 0)) : Sp l m_To_advanceNumber (d + 1) 0 0 [.ref a] sh S (gV sh P) := by
  refine Sp.of k_To_advanceNumber (ls := [.ref a]) rfl (Nat.le_of_ble_eq_true rfl) ?_
  refine r_aload_n (pc := 0) d_To_advanceNumber_0 (x := a) rfl ?_
  refine r_iconst (pc := 1) d_To_advanceNumber_1 (v := 0) (by decide) ?_
  refine r_putI (pc := 2) d_To_advanceNumber_2 f_To_65 sa rfl ?_
  exact h
set_option maxRecDepth 4000 in
theorem s_To_advanceNumber_5 {l : Launch} {d : Nat} {sh : aw_SH} {S : aw_S} {P : aw_S → Prop} {a : Nat} (sa : sh[a]? = some (0, 6)) (h : (((S.1 a 7) ≤ (S.1 a 9) → ((((S.1 a 9) - (S.1 a 8)) ≤ 4 → P (aw_uI S a 2 2)) ∧ (¬ ((S.1 a 9) - (S.1 a 8)) ≤ 4 → P (aw_uI S a 2 4)))) ∧ (¬ (S.1 a 7) ≤ (S.1 a 9) → ∃ r3, S.2.2 a 6 = some r3 ∧ ∃ n5, sh[r3]? = some (1, n5) ∧ vp_in (S.1 a 9) n5 ∧ (((S.1 r3 (S.1 a 9 : Int32).toNatClampNeg) < 48 → ((((S.1 a 9) - (S.1 a 8)) ≤ 4 → P (aw_uI S a 2 2)) ∧ (¬ ((S.1 a 9) - (S.1 a 8)) ≤ 4 → P (aw_uI S a 2 4)))) ∧ (¬ (S.1 r3 (S.1 a 9 : Int32).toNatClampNeg) < 48 → vp_in (S.1 a 9) n5 ∧ ((57 < (S.1 r3 (S.1 a 9 : Int32).toNatClampNeg) → ((((S.1 a 9) - (S.1 a 8)) ≤ 4 → P (aw_uI S a 2 2)) ∧ (¬ ((S.1 a 9) - (S.1 a 8)) ≤ 4 → P (aw_uI S a 2 4)))) ∧ (¬ 57 < (S.1 r3 (S.1 a 9 : Int32).toNatClampNeg) → ((4 ≤ ((S.1 a 9) - (S.1 a 8)) → AW l m_To_advanceNumber (d + 1) 0 0 (gV sh P) 0 0 5 [.ref a] [] sh (aw_uI (aw_uI S a 4 0) a 9 (((aw_uI S a 4 0).1 a 9) + (1 : Int32)))) ∧ (¬ 4 ≤ ((S.1 a 9) - (S.1 a 8)) → vp_in (S.1 a 9) n5 ∧ AW l m_To_advanceNumber (d + 1) 0 0 (gV sh P) 0 0 5 [.ref a] [] sh (aw_uI (aw_uI S a 4 ((((S.1 a 4) * (10 : Int32)) + (S.1 r3 (S.1 a 9 : Int32).toNatClampNeg)) - (48 : Int32))) a 9 (((aw_uI S a 4 ((((S.1 a 4) * (10 : Int32)) + (S.1 r3 (S.1 a 9 : Int32).toNatClampNeg)) - (48 : Int32))).1 a 9) + (1 : Int32)))))))))))) : AW l m_To_advanceNumber (d + 1) 0 0 (gV sh P) 0 0 5 [.ref a] [] sh S := by
  refine r_aload_n (pc := 5) d_To_advanceNumber_5 (x := a) rfl ?_
  refine r_getI (pc := 6) d_To_advanceNumber_6 f_To_34 sa rfl ?_
  refine r_aload_n (pc := 9) d_To_advanceNumber_9 (x := a) rfl ?_
  refine r_getI (pc := 10) d_To_advanceNumber_10 f_To_31 sa rfl ?_
  refine r_icmp_ge (pc := 13) d_To_advanceNumber_13 (tgt := 98) (by decide) (fun c1 => ?_) (fun c1 => ?_)
  · replace h := h.1 c1
    refine r_aload_n (pc := 98) d_To_advanceNumber_98 (x := a) rfl ?_
    refine r_aload_n (pc := 99) d_To_advanceNumber_99 (x := a) rfl ?_
    refine r_getI (pc := 100) d_To_advanceNumber_100 f_To_34 sa rfl ?_
    refine r_aload_n (pc := 103) d_To_advanceNumber_103 (x := a) rfl ?_
    refine r_getI (pc := 104) d_To_advanceNumber_104 f_To_46 sa rfl ?_
    refine r_isub (pc := 107) d_To_advanceNumber_107 ?_
    refine r_iconst (pc := 108) d_To_advanceNumber_108 (v := 4) (by decide) ?_
    refine r_icmp_le (pc := 109) d_To_advanceNumber_109 (tgt := 116) (by decide) (fun c2 => ?_) (fun c2 => ?_)
    · replace h := h.1 c2
      refine r_iconst (pc := 116) d_To_advanceNumber_116 (v := 2) (by decide) ?_
      refine r_putI (pc := 117) d_To_advanceNumber_117 f_To_49 sa rfl ?_
      exact r_return (pc := 120) d_To_advanceNumber_120 rfl rfl (Nat.le_refl _) ⟨rfl, rfl, h⟩
    · replace h := h.2 c2
      refine r_iconst (pc := 112) d_To_advanceNumber_112 (v := 4) (by decide) ?_
      refine r_goto (pc := 113) d_To_advanceNumber_113 (tgt := 117) (by decide) ?_
      refine r_putI (pc := 117) d_To_advanceNumber_117 f_To_49 sa rfl ?_
      exact r_return (pc := 120) d_To_advanceNumber_120 rfl rfl (Nat.le_refl _) ⟨rfl, rfl, h⟩
  · replace h := h.2 c1
    refine r_aload_n (pc := 16) d_To_advanceNumber_16 (x := a) rfl ?_
    obtain ⟨r3, er3, h⟩ := h
    refine r_getR (pc := 17) d_To_advanceNumber_17 f_To_27 sa (Or.inr ⟨_, rfl⟩) (r := r3) er3 ?_
    refine r_aload_n (pc := 20) d_To_advanceNumber_20 (x := a) rfl ?_
    refine r_getI (pc := 21) d_To_advanceNumber_21 f_To_34 sa rfl ?_
    obtain ⟨n5, s4, h⟩ := h
    obtain ⟨g6, h⟩ := h
    refine r_bald (pc := 24) d_To_advanceNumber_24 s4 g6 ?_
    refine r_bipush (pc := 25) d_To_advanceNumber_25 (v := 48) (by decide) ?_
    refine r_icmp_lt (pc := 27) d_To_advanceNumber_27 (tgt := 98) (by decide) (fun c7 => ?_) (fun c7 => ?_)
    · replace h := h.1 c7
      refine r_aload_n (pc := 98) d_To_advanceNumber_98 (x := a) rfl ?_
      refine r_aload_n (pc := 99) d_To_advanceNumber_99 (x := a) rfl ?_
      refine r_getI (pc := 100) d_To_advanceNumber_100 f_To_34 sa rfl ?_
      refine r_aload_n (pc := 103) d_To_advanceNumber_103 (x := a) rfl ?_
      refine r_getI (pc := 104) d_To_advanceNumber_104 f_To_46 sa rfl ?_
      refine r_isub (pc := 107) d_To_advanceNumber_107 ?_
      refine r_iconst (pc := 108) d_To_advanceNumber_108 (v := 4) (by decide) ?_
      refine r_icmp_le (pc := 109) d_To_advanceNumber_109 (tgt := 116) (by decide) (fun c8 => ?_) (fun c8 => ?_)
      · replace h := h.1 c8
        refine r_iconst (pc := 116) d_To_advanceNumber_116 (v := 2) (by decide) ?_
        refine r_putI (pc := 117) d_To_advanceNumber_117 f_To_49 sa rfl ?_
        exact r_return (pc := 120) d_To_advanceNumber_120 rfl rfl (Nat.le_refl _) ⟨rfl, rfl, h⟩
      · replace h := h.2 c8
        refine r_iconst (pc := 112) d_To_advanceNumber_112 (v := 4) (by decide) ?_
        refine r_goto (pc := 113) d_To_advanceNumber_113 (tgt := 117) (by decide) ?_
        refine r_putI (pc := 117) d_To_advanceNumber_117 f_To_49 sa rfl ?_
        exact r_return (pc := 120) d_To_advanceNumber_120 rfl rfl (Nat.le_refl _) ⟨rfl, rfl, h⟩
    · replace h := h.2 c7
      refine r_aload_n (pc := 30) d_To_advanceNumber_30 (x := a) rfl ?_
      refine r_getR (pc := 31) d_To_advanceNumber_31 f_To_27 sa (Or.inr ⟨_, rfl⟩) (r := r3) er3 ?_
      refine r_aload_n (pc := 34) d_To_advanceNumber_34 (x := a) rfl ?_
      refine r_getI (pc := 35) d_To_advanceNumber_35 f_To_34 sa rfl ?_
      obtain ⟨g9, h⟩ := h
      refine r_bald (pc := 38) d_To_advanceNumber_38 s4 g9 ?_
      refine r_bipush (pc := 39) d_To_advanceNumber_39 (v := 57) (by decide) ?_
      refine r_icmp_gt (pc := 41) d_To_advanceNumber_41 (tgt := 98) (by decide) (fun c10 => ?_) (fun c10 => ?_)
      · replace h := h.1 c10
        refine r_aload_n (pc := 98) d_To_advanceNumber_98 (x := a) rfl ?_
        refine r_aload_n (pc := 99) d_To_advanceNumber_99 (x := a) rfl ?_
        refine r_getI (pc := 100) d_To_advanceNumber_100 f_To_34 sa rfl ?_
        refine r_aload_n (pc := 103) d_To_advanceNumber_103 (x := a) rfl ?_
        refine r_getI (pc := 104) d_To_advanceNumber_104 f_To_46 sa rfl ?_
        refine r_isub (pc := 107) d_To_advanceNumber_107 ?_
        refine r_iconst (pc := 108) d_To_advanceNumber_108 (v := 4) (by decide) ?_
        refine r_icmp_le (pc := 109) d_To_advanceNumber_109 (tgt := 116) (by decide) (fun c11 => ?_) (fun c11 => ?_)
        · replace h := h.1 c11
          refine r_iconst (pc := 116) d_To_advanceNumber_116 (v := 2) (by decide) ?_
          refine r_putI (pc := 117) d_To_advanceNumber_117 f_To_49 sa rfl ?_
          exact r_return (pc := 120) d_To_advanceNumber_120 rfl rfl (Nat.le_refl _) ⟨rfl, rfl, h⟩
        · replace h := h.2 c11
          refine r_iconst (pc := 112) d_To_advanceNumber_112 (v := 4) (by decide) ?_
          refine r_goto (pc := 113) d_To_advanceNumber_113 (tgt := 117) (by decide) ?_
          refine r_putI (pc := 117) d_To_advanceNumber_117 f_To_49 sa rfl ?_
          exact r_return (pc := 120) d_To_advanceNumber_120 rfl rfl (Nat.le_refl _) ⟨rfl, rfl, h⟩
      · replace h := h.2 c10
        refine r_aload_n (pc := 44) d_To_advanceNumber_44 (x := a) rfl ?_
        refine r_aload_n (pc := 45) d_To_advanceNumber_45 (x := a) rfl ?_
        refine r_getI (pc := 46) d_To_advanceNumber_46 f_To_34 sa rfl ?_
        refine r_aload_n (pc := 49) d_To_advanceNumber_49 (x := a) rfl ?_
        refine r_getI (pc := 50) d_To_advanceNumber_50 f_To_46 sa rfl ?_
        refine r_isub (pc := 53) d_To_advanceNumber_53 ?_
        refine r_iconst (pc := 54) d_To_advanceNumber_54 (v := 4) (by decide) ?_
        refine r_icmp_ge (pc := 55) d_To_advanceNumber_55 (tgt := 81) (by decide) (fun c12 => ?_) (fun c12 => ?_)
        · replace h := h.1 c12
          refine r_iconst (pc := 81) d_To_advanceNumber_81 (v := 0) (by decide) ?_
          refine r_putI (pc := 82) d_To_advanceNumber_82 f_To_65 sa rfl ?_
          refine r_aload_n (pc := 85) d_To_advanceNumber_85 (x := a) rfl ?_
          refine r_dup (pc := 86) d_To_advanceNumber_86 rfl ?_
          refine r_getI (pc := 87) d_To_advanceNumber_87 f_To_34 sa rfl ?_
          refine r_iconst (pc := 90) d_To_advanceNumber_90 (v := 1) (by decide) ?_
          refine r_iadd (pc := 91) d_To_advanceNumber_91 ?_
          refine r_putI (pc := 92) d_To_advanceNumber_92 f_To_34 sa rfl ?_
          refine r_goto (pc := 95) d_To_advanceNumber_95 (tgt := 5) (by decide) ?_
          exact h
        · replace h := h.2 c12
          refine r_aload_n (pc := 58) d_To_advanceNumber_58 (x := a) rfl ?_
          refine r_getI (pc := 59) d_To_advanceNumber_59 f_To_65 sa rfl ?_
          refine r_bipush (pc := 62) d_To_advanceNumber_62 (v := 10) (by decide) ?_
          refine r_imul (pc := 64) d_To_advanceNumber_64 ?_
          refine r_aload_n (pc := 65) d_To_advanceNumber_65 (x := a) rfl ?_
          refine r_getR (pc := 66) d_To_advanceNumber_66 f_To_27 sa (Or.inr ⟨_, rfl⟩) (r := r3) er3 ?_
          refine r_aload_n (pc := 69) d_To_advanceNumber_69 (x := a) rfl ?_
          refine r_getI (pc := 70) d_To_advanceNumber_70 f_To_34 sa rfl ?_
          obtain ⟨g13, h⟩ := h
          refine r_bald (pc := 73) d_To_advanceNumber_73 s4 g13 ?_
          refine r_iadd (pc := 74) d_To_advanceNumber_74 ?_
          refine r_bipush (pc := 75) d_To_advanceNumber_75 (v := 48) (by decide) ?_
          refine r_isub (pc := 77) d_To_advanceNumber_77 ?_
          refine r_goto (pc := 78) d_To_advanceNumber_78 (tgt := 82) (by decide) ?_
          refine r_putI (pc := 82) d_To_advanceNumber_82 f_To_65 sa rfl ?_
          refine r_aload_n (pc := 85) d_To_advanceNumber_85 (x := a) rfl ?_
          refine r_dup (pc := 86) d_To_advanceNumber_86 rfl ?_
          refine r_getI (pc := 87) d_To_advanceNumber_87 f_To_34 sa rfl ?_
          refine r_iconst (pc := 90) d_To_advanceNumber_90 (v := 1) (by decide) ?_
          refine r_iadd (pc := 91) d_To_advanceNumber_91 ?_
          refine r_putI (pc := 92) d_To_advanceNumber_92 f_To_34 sa rfl ?_
          refine r_goto (pc := 95) d_To_advanceNumber_95 (tgt := 5) (by decide) ?_
          exact h
set_option maxRecDepth 4000 in
theorem e_To_reservedWord {l : Launch} {d : Nat} {sh : aw_SH} {S : aw_S} {P : Int32 → aw_S → Prop} {a : Nat} (sa : sh[a]? = some (0, 6)) (h : ((¬ (S.1 a 2) = 1 → P (-1) S) ∧ ((S.1 a 2) = 1 → AW l m_To_reservedWord (d + 1) 0 0 (gI sh P) 0 0 10 [.ref a, .int 0] [] sh S))) : Sp l m_To_reservedWord (d + 1) 0 0 [.ref a] sh S (gI sh P) := by
  refine Sp.of k_To_reservedWord (ls := [.ref a, .null]) rfl (Nat.le_of_ble_eq_true rfl) ?_
  refine r_aload_n (pc := 0) d_To_reservedWord_0 (x := a) rfl ?_
  refine r_getI (pc := 1) d_To_reservedWord_1 f_To_49 sa rfl ?_
  refine r_iconst (pc := 4) d_To_reservedWord_4 (v := 1) (by decide) ?_
  refine r_icmp_ne (pc := 5) d_To_reservedWord_5 (tgt := 38) (by decide) (fun c1 => ?_) (fun c1 => ?_)
  · replace h := h.1 c1
    refine r_iconst (pc := 38) d_To_reservedWord_38 (v := (-1)) (by decide) ?_
    exact r_ireturn (pc := 39) d_To_reservedWord_39 rfl rfl (Nat.le_refl _) ⟨rfl, _, rfl, h⟩
  · replace h := h.2 c1
    refine r_iconst (pc := 8) d_To_reservedWord_8 (v := 0) (by decide) ?_
    refine r_istore_n (pc := 9) (hk := rfl) (hd := d_To_reservedWord_9) (hi := by decide) (ls2 := [.ref a, .int 0]) (h2 := rfl) ?_
    exact h
set_option maxRecDepth 4000 in
theorem s_To_reservedWord_10 {l : Launch} {d : Nat} {sh : aw_SH} {S : aw_S} {P : Int32 → aw_S → Prop} {a : Nat} {i1 : Int32} (sa : sh[a]? = some (0, 6)) (h : ((19 ≤ i1 → P (-1) S) ∧ (¬ 19 ≤ i1 → ∃ r2, S.2.2 a 10 = some r2 ∧ ∃ n4, sh[r2]? = some (4, n4) ∧ vp_in i1 n4 ∧ ((¬ (lg_cmp (S.2.1 r2 i1.toNatClampNeg) (S.2.1 a 3)) = 0 → AW l m_To_reservedWord (d + 1) 0 0 (gI sh P) 0 0 10 [.ref a, .int (i1 + 1)] [] sh S) ∧ ((lg_cmp (S.2.1 r2 i1.toNatClampNeg) (S.2.1 a 3)) = 0 → P i1 S))))) : AW l m_To_reservedWord (d + 1) 0 0 (gI sh P) 0 0 10 [.ref a, .int i1] [] sh S := by
  refine r_iload_n (pc := 10) d_To_reservedWord_10 (x := i1) rfl ?_
  refine r_bipush (pc := 11) d_To_reservedWord_11 (v := 19) (by decide) ?_
  refine r_icmp_ge (pc := 13) d_To_reservedWord_13 (tgt := 38) (by decide) (fun c1 => ?_) (fun c1 => ?_)
  · replace h := h.1 c1
    refine r_iconst (pc := 38) d_To_reservedWord_38 (v := (-1)) (by decide) ?_
    exact r_ireturn (pc := 39) d_To_reservedWord_39 rfl rfl (Nat.le_refl _) ⟨rfl, _, rfl, h⟩
  · replace h := h.2 c1
    refine r_aload_n (pc := 16) d_To_reservedWord_16 (x := a) rfl ?_
    obtain ⟨r2, er2, h⟩ := h
    refine r_getR (pc := 17) d_To_reservedWord_17 f_To_9 sa (Or.inr ⟨_, rfl⟩) (r := r2) er2 ?_
    refine r_iload_n (pc := 20) d_To_reservedWord_20 (x := i1) rfl ?_
    obtain ⟨n4, s3, h⟩ := h
    obtain ⟨g5, h⟩ := h
    refine r_lald (pc := 21) d_To_reservedWord_21 s3 g5 ?_
    refine r_aload_n (pc := 22) d_To_reservedWord_22 (x := a) rfl ?_
    refine r_getL (pc := 23) d_To_reservedWord_23 f_To_61 sa rfl ?_
    refine r_lcmp (pc := 26) d_To_reservedWord_26 ?_
    refine r_if_ne (pc := 27) d_To_reservedWord_27 (tgt := 32) (by decide) (fun c6 => ?_) (fun c6 => ?_)
    · replace h := h.1 c6
      refine r_iinc (pc := 32) d_To_reservedWord_32 (hi := by decide) (x := i1) rfl (v := i1 + 1) rfl (ls2 := [.ref a, .int (i1 + 1)]) rfl ?_
      refine r_goto (pc := 35) d_To_reservedWord_35 (tgt := 10) (by decide) ?_
      exact h
    · replace h := h.2 c6
      refine r_iload_n (pc := 30) d_To_reservedWord_30 (x := i1) rfl ?_
      exact r_ireturn (pc := 31) d_To_reservedWord_31 rfl rfl (Nat.le_refl _) ⟨rfl, _, rfl, h⟩
set_option maxRecDepth 4000 in
theorem e_To_blame {l : Launch} {d : Nat} {sh : aw_SH} {S : aw_S} {P : Int32 → aw_S → Prop} {a : Nat} {p0 : Int32} (sa : sh[a]? = some (0, 6)) (h : ((¬ (S.1 a 0) = 0 → P 0 S) ∧ ((S.1 a 0) = 0 → ((¬ (S.1 a 2) = 4 → P 0 (aw_uI (aw_uI S a 0 p0) a 1 ((aw_uI S a 0 p0).1 a 8))) ∧ ((S.1 a 2) = 4 → P 0 (aw_uI (aw_uI S a 0 1) a 1 ((aw_uI S a 0 1).1 a 8))))))) : Sp l m_To_blame (d + 1) 0 0 [.ref a, .int p0] sh S (gI sh P) := by
  refine Sp.of k_To_blame (ls := [.ref a, .int p0]) rfl (Nat.le_of_ble_eq_true rfl) ?_
  refine r_aload_n (pc := 0) d_To_blame_0 (x := a) rfl ?_
  refine r_getI (pc := 1) d_To_blame_1 f_To_37 sa rfl ?_
  refine r_if_ne (pc := 4) d_To_blame_4 (tgt := 32) (by decide) (fun c1 => ?_) (fun c1 => ?_)
  · replace h := h.1 c1
    refine r_iconst (pc := 32) d_To_blame_32 (v := 0) (by decide) ?_
    exact r_zreturn (pc := 33) d_To_blame_33 (v := 0) rfl (by decide) rfl (Nat.le_refl _) ⟨rfl, _, rfl, h⟩
  · replace h := h.2 c1
    refine r_aload_n (pc := 7) d_To_blame_7 (x := a) rfl ?_
    refine r_aload_n (pc := 8) d_To_blame_8 (x := a) rfl ?_
    refine r_getI (pc := 9) d_To_blame_9 f_To_49 sa rfl ?_
    refine r_iconst (pc := 12) d_To_blame_12 (v := 4) (by decide) ?_
    refine r_icmp_ne (pc := 13) d_To_blame_13 (tgt := 20) (by decide) (fun c2 => ?_) (fun c2 => ?_)
    · replace h := h.1 c2
      refine r_iload_n (pc := 20) d_To_blame_20 (x := p0) rfl ?_
      refine r_putI (pc := 21) d_To_blame_21 f_To_37 sa rfl ?_
      refine r_aload_n (pc := 24) d_To_blame_24 (x := a) rfl ?_
      refine r_aload_n (pc := 25) d_To_blame_25 (x := a) rfl ?_
      refine r_getI (pc := 26) d_To_blame_26 f_To_46 sa rfl ?_
      refine r_putI (pc := 29) d_To_blame_29 f_To_40 sa rfl ?_
      refine r_iconst (pc := 32) d_To_blame_32 (v := 0) (by decide) ?_
      exact r_zreturn (pc := 33) d_To_blame_33 (v := 0) rfl (by decide) rfl (Nat.le_refl _) ⟨rfl, _, rfl, h⟩
    · replace h := h.2 c2
      refine r_iconst (pc := 16) d_To_blame_16 (v := 1) (by decide) ?_
      refine r_goto (pc := 17) d_To_blame_17 (tgt := 21) (by decide) ?_
      refine r_putI (pc := 21) d_To_blame_21 f_To_37 sa rfl ?_
      refine r_aload_n (pc := 24) d_To_blame_24 (x := a) rfl ?_
      refine r_aload_n (pc := 25) d_To_blame_25 (x := a) rfl ?_
      refine r_getI (pc := 26) d_To_blame_26 f_To_46 sa rfl ?_
      refine r_putI (pc := 29) d_To_blame_29 f_To_40 sa rfl ?_
      refine r_iconst (pc := 32) d_To_blame_32 (v := 0) (by decide) ?_
      exact r_zreturn (pc := 33) d_To_blame_33 (v := 0) rfl (by decide) rfl (Nat.le_refl _) ⟨rfl, _, rfl, h⟩
set_option maxRecDepth 4000 in
theorem e_To_takeNumber {l : Launch} {d : Nat} {sh : aw_SH} {S : aw_S} {P : Int32 → aw_S → Prop} {a : Nat} {p0 : Int32} {p1 : Int32} (sa : sh[a]? = some (0, 6)) (h : (((S.1 a 2) = 2 → Sp l m_Mg_isWithin d 0 0 [.int (S.1 a 4), .int p0, .int p1] sh S (gI sh (fun x3 S2 => ((¬ x3 = 0 → Sp l m_To_advance d 0 0 [.ref a] sh S2 (gV sh (fun S5 => P (S2.1 a 4) S5))) ∧ (x3 = 0 → Sp l m_To_blame d 0 0 [.ref a, .int 4] sh S2 (gI sh (fun x7 S6 => P (-1) S6))))))) ∧ (¬ (S.1 a 2) = 2 → Sp l m_To_blame d 0 0 [.ref a, .int 2] sh S (gI sh (fun x9 S8 => P (-1) S8))))) : Sp l m_To_takeNumber (d + 1) 0 0 [.ref a, .int p0, .int p1] sh S (gI sh P) := by
  refine Sp.of k_To_takeNumber (ls := [.ref a, .int p0, .int p1, .null]) rfl (Nat.le_of_ble_eq_true rfl) ?_
  refine r_aload_n (pc := 0) d_To_takeNumber_0 (x := a) rfl ?_
  refine r_getI (pc := 1) d_To_takeNumber_1 f_To_49 sa rfl ?_
  refine r_iconst (pc := 4) d_To_takeNumber_4 (v := 2) (by decide) ?_
  refine r_icmp_eq (pc := 5) d_To_takeNumber_5 (tgt := 16) (by decide) (fun c1 => ?_) (fun c1 => ?_)
  · replace h := h.1 c1
    refine r_aload_n (pc := 16) d_To_takeNumber_16 (x := a) rfl ?_
    refine r_getI (pc := 17) d_To_takeNumber_17 f_To_65 sa rfl ?_
    refine r_iload_n (pc := 20) d_To_takeNumber_20 (x := p0) rfl ?_
    refine r_iload_n (pc := 21) d_To_takeNumber_21 (x := p1) rfl ?_
    refine r_callSN (pc := 22) (k := 0) (As := [.int (S.1 a 4), .int p0, .int p1]) (rest := []) (mc' := 0) (ms' := 0) ln_To_75 st_Mg_isWithin d_To_takeNumber_22 k_Mg_isWithin rfl rfl (Nat.le_of_ble_eq_true rfl) (by decide) (by decide) (Sp.mono h ?_)
    rintro rS2 shS2 S2 ⟨qS2, x3, uS2, h⟩
    subst uS2
    rw [qS2]
    refine r_if_ne (pc := 25) d_To_takeNumber_25 (tgt := 36) (by decide) (fun c4 => ?_) (fun c4 => ?_)
    · replace h := h.1 c4
      refine r_aload_n (pc := 36) d_To_takeNumber_36 (x := a) rfl ?_
      refine r_getI (pc := 37) d_To_takeNumber_37 f_To_65 sa rfl ?_
      refine r_istore_n (pc := 40) (hk := rfl) (hd := d_To_takeNumber_40) (hi := by decide) (ls2 := [.ref a, .int p0, .int p1, .int (S2.1 a 4)]) (h2 := rfl) ?_
      refine r_aload_n (pc := 41) d_To_takeNumber_41 (x := a) rfl ?_
      refine r_callV (pc := 42) (k := a) (As := []) (rest := []) (mc' := 0) (ms' := 0) lk_To_43 in_To_advance se_To_advance sa rfl d_To_takeNumber_42 k_To_advance rfl rfl (Nat.le_of_ble_eq_true rfl) (by decide) (by decide) (Sp.mono h ?_)
      rintro rS5 shS5 S5 ⟨qS5, uS5, h⟩
      subst uS5
      rw [qS5]
      refine r_iload_n (pc := 45) d_To_takeNumber_45 (x := (S2.1 a 4)) rfl ?_
      exact r_ireturn (pc := 46) d_To_takeNumber_46 rfl rfl (Nat.le_refl _) ⟨rfl, _, rfl, h⟩
    · replace h := h.2 c4
      refine r_aload_n (pc := 28) d_To_takeNumber_28 (x := a) rfl ?_
      refine r_iconst (pc := 29) d_To_takeNumber_29 (v := 4) (by decide) ?_
      refine r_callV (pc := 30) (k := a) (As := [.int 4]) (rest := []) (mc' := 0) (ms' := 0) lk_To_71 in_To_blame se_To_blame sa rfl d_To_takeNumber_30 k_To_blame rfl rfl (Nat.le_of_ble_eq_true rfl) (by decide) (by decide) (Sp.mono h ?_)
      rintro rS6 shS6 S6 ⟨qS6, x7, uS6, h⟩
      subst uS6
      rw [qS6]
      refine r_pop (pc := 33) d_To_takeNumber_33 rfl ?_
      refine r_iconst (pc := 34) d_To_takeNumber_34 (v := (-1)) (by decide) ?_
      exact r_ireturn (pc := 35) d_To_takeNumber_35 rfl rfl (Nat.le_refl _) ⟨rfl, _, rfl, h⟩
  · replace h := h.2 c1
    refine r_aload_n (pc := 8) d_To_takeNumber_8 (x := a) rfl ?_
    refine r_iconst (pc := 9) d_To_takeNumber_9 (v := 2) (by decide) ?_
    refine r_callV (pc := 10) (k := a) (As := [.int 2]) (rest := []) (mc' := 0) (ms' := 0) lk_To_71 in_To_blame se_To_blame sa rfl d_To_takeNumber_10 k_To_blame rfl rfl (Nat.le_of_ble_eq_true rfl) (by decide) (by decide) (Sp.mono h ?_)
    rintro rS8 shS8 S8 ⟨qS8, x9, uS8, h⟩
    subst uS8
    rw [qS8]
    refine r_pop (pc := 13) d_To_takeNumber_13 rfl ?_
    refine r_iconst (pc := 14) d_To_takeNumber_14 (v := (-1)) (by decide) ?_
    exact r_ireturn (pc := 15) d_To_takeNumber_15 rfl rfl (Nat.le_refl _) ⟨rfl, _, rfl, h⟩
set_option maxRecDepth 4000 in
theorem e_To_takeSemicolon {l : Launch} {d : Nat} {sh : aw_SH} {S : aw_S} {P : Int32 → aw_S → Prop} {a : Nat} (sa : sh[a]? = some (0, 6)) (h : ((¬ (S.1 a 2) = 3 → Sp l m_To_blame d 0 0 [.ref a, .int 2] sh S (gI sh (fun x3 S2 => ((x3 = 0 ∨ x3 = 1) ∧ P x3 S2)))) ∧ ((S.1 a 2) = 3 → (((S.1 a 5) = 59 → Sp l m_To_advance d 0 0 [.ref a] sh S (gV sh (fun S6 => P 1 S6))) ∧ (¬ (S.1 a 5) = 59 → Sp l m_To_blame d 0 0 [.ref a, .int 2] sh S (gI sh (fun x8 S7 => ((x8 = 0 ∨ x8 = 1) ∧ P x8 S7)))))))) : Sp l m_To_takeSemicolon (d + 1) 0 0 [.ref a] sh S (gI sh P) := by
  refine Sp.of k_To_takeSemicolon (ls := [.ref a]) rfl (Nat.le_of_ble_eq_true rfl) ?_
  refine r_aload_n (pc := 0) d_To_takeSemicolon_0 (x := a) rfl ?_
  refine r_getI (pc := 1) d_To_takeSemicolon_1 f_To_49 sa rfl ?_
  refine r_iconst (pc := 4) d_To_takeSemicolon_4 (v := 3) (by decide) ?_
  refine r_icmp_ne (pc := 5) d_To_takeSemicolon_5 (tgt := 17) (by decide) (fun c1 => ?_) (fun c1 => ?_)
  · replace h := h.1 c1
    refine r_aload_n (pc := 17) d_To_takeSemicolon_17 (x := a) rfl ?_
    refine r_iconst (pc := 18) d_To_takeSemicolon_18 (v := 2) (by decide) ?_
    refine r_callV (pc := 19) (k := a) (As := [.int 2]) (rest := []) (mc' := 0) (ms' := 0) lk_To_71 in_To_blame se_To_blame sa rfl d_To_takeSemicolon_19 k_To_blame rfl rfl (Nat.le_of_ble_eq_true rfl) (by decide) (by decide) (Sp.mono h ?_)
    rintro rS2 shS2 S2 ⟨qS2, x3, uS2, h⟩
    subst uS2
    rw [qS2]
    obtain ⟨g4, h⟩ := h
    exact r_zreturn (pc := 22) d_To_takeSemicolon_22 rfl (aw_nb g4) rfl (Nat.le_refl _) ⟨rfl, _, rfl, h⟩
  · replace h := h.2 c1
    refine r_aload_n (pc := 8) d_To_takeSemicolon_8 (x := a) rfl ?_
    refine r_getI (pc := 9) d_To_takeSemicolon_9 f_To_58 sa rfl ?_
    refine r_bipush (pc := 12) d_To_takeSemicolon_12 (v := 59) (by decide) ?_
    refine r_icmp_eq (pc := 14) d_To_takeSemicolon_14 (tgt := 23) (by decide) (fun c5 => ?_) (fun c5 => ?_)
    · replace h := h.1 c5
      refine r_aload_n (pc := 23) d_To_takeSemicolon_23 (x := a) rfl ?_
      refine r_callV (pc := 24) (k := a) (As := []) (rest := []) (mc' := 0) (ms' := 0) lk_To_43 in_To_advance se_To_advance sa rfl d_To_takeSemicolon_24 k_To_advance rfl rfl (Nat.le_of_ble_eq_true rfl) (by decide) (by decide) (Sp.mono h ?_)
      rintro rS6 shS6 S6 ⟨qS6, uS6, h⟩
      subst uS6
      rw [qS6]
      refine r_iconst (pc := 27) d_To_takeSemicolon_27 (v := 1) (by decide) ?_
      exact r_zreturn (pc := 28) d_To_takeSemicolon_28 (v := 1) rfl (by decide) rfl (Nat.le_refl _) ⟨rfl, _, rfl, h⟩
    · replace h := h.2 c5
      refine r_aload_n (pc := 17) d_To_takeSemicolon_17 (x := a) rfl ?_
      refine r_iconst (pc := 18) d_To_takeSemicolon_18 (v := 2) (by decide) ?_
      refine r_callV (pc := 19) (k := a) (As := [.int 2]) (rest := []) (mc' := 0) (ms' := 0) lk_To_71 in_To_blame se_To_blame sa rfl d_To_takeSemicolon_19 k_To_blame rfl rfl (Nat.le_of_ble_eq_true rfl) (by decide) (by decide) (Sp.mono h ?_)
      rintro rS7 shS7 S7 ⟨qS7, x8, uS7, h⟩
      subst uS7
      rw [qS7]
      obtain ⟨g9, h⟩ := h
      exact r_zreturn (pc := 22) d_To_takeSemicolon_22 rfl (aw_nb g9) rfl (Nat.le_refl _) ⟨rfl, _, rfl, h⟩
set_option maxRecDepth 4000 in
theorem e_To_isName {l : Launch} {d : Nat} {sh : aw_SH} {S : aw_S} {P : Int32 → aw_S → Prop} {a : Nat} (sa : sh[a]? = some (0, 6)) (h : ((¬ (S.1 a 2) = 1 → P 0 S) ∧ ((S.1 a 2) = 1 → (((lg_cmp (S.2.1 a 3) 0) = 0 → P 0 S) ∧ (¬ (lg_cmp (S.2.1 a 3) 0) = 0 → Sp l m_To_reservedWord d 0 0 [.ref a] sh S (gI sh (fun x4 S3 => ((¬ x4 = (-1) → P 0 S3) ∧ (x4 = (-1) → P 1 S3))))))))) : Sp l m_To_isName (d + 1) 0 0 [.ref a] sh S (gI sh P) := by
  refine Sp.of k_To_isName (ls := [.ref a]) rfl (Nat.le_of_ble_eq_true rfl) ?_
  refine r_aload_n (pc := 0) d_To_isName_0 (x := a) rfl ?_
  refine r_getI (pc := 1) d_To_isName_1 f_To_49 sa rfl ?_
  refine r_iconst (pc := 4) d_To_isName_4 (v := 1) (by decide) ?_
  refine r_icmp_ne (pc := 5) d_To_isName_5 (tgt := 29) (by decide) (fun c1 => ?_) (fun c1 => ?_)
  · replace h := h.1 c1
    refine r_iconst (pc := 29) d_To_isName_29 (v := 0) (by decide) ?_
    exact r_zreturn (pc := 30) d_To_isName_30 (v := 0) rfl (by decide) rfl (Nat.le_refl _) ⟨rfl, _, rfl, h⟩
  · replace h := h.2 c1
    refine r_aload_n (pc := 8) d_To_isName_8 (x := a) rfl ?_
    refine r_getL (pc := 9) d_To_isName_9 f_To_61 sa rfl ?_
    refine r_lconst (pc := 12) d_To_isName_12 (v := 0) (by decide) ?_
    refine r_lcmp (pc := 13) d_To_isName_13 ?_
    refine r_if_eq (pc := 14) d_To_isName_14 (tgt := 29) (by decide) (fun c2 => ?_) (fun c2 => ?_)
    · replace h := h.1 c2
      refine r_iconst (pc := 29) d_To_isName_29 (v := 0) (by decide) ?_
      exact r_zreturn (pc := 30) d_To_isName_30 (v := 0) rfl (by decide) rfl (Nat.le_refl _) ⟨rfl, _, rfl, h⟩
    · replace h := h.2 c2
      refine r_aload_n (pc := 17) d_To_isName_17 (x := a) rfl ?_
      refine r_callV (pc := 18) (k := a) (As := []) (rest := []) (mc' := 0) (ms' := 0) lk_To_68 in_To_reservedWord se_To_reservedWord sa rfl d_To_isName_18 k_To_reservedWord rfl rfl (Nat.le_of_ble_eq_true rfl) (by decide) (by decide) (Sp.mono h ?_)
      rintro rS3 shS3 S3 ⟨qS3, x4, uS3, h⟩
      subst uS3
      rw [qS3]
      refine r_iconst (pc := 21) d_To_isName_21 (v := (-1)) (by decide) ?_
      refine r_icmp_ne (pc := 22) d_To_isName_22 (tgt := 29) (by decide) (fun c5 => ?_) (fun c5 => ?_)
      · replace h := h.1 c5
        refine r_iconst (pc := 29) d_To_isName_29 (v := 0) (by decide) ?_
        exact r_zreturn (pc := 30) d_To_isName_30 (v := 0) rfl (by decide) rfl (Nat.le_refl _) ⟨rfl, _, rfl, h⟩
      · replace h := h.2 c5
        refine r_iconst (pc := 25) d_To_isName_25 (v := 1) (by decide) ?_
        refine r_goto (pc := 26) d_To_isName_26 (tgt := 30) (by decide) ?_
        exact r_zreturn (pc := 30) d_To_isName_30 (v := 1) rfl (by decide) rfl (Nat.le_refl _) ⟨rfl, _, rfl, h⟩
set_option maxRecDepth 4000 in
theorem e_To_takeReserved {l : Launch} {d : Nat} {sh : aw_SH} {S : aw_S} {P : Int32 → aw_S → Prop} {a : Nat} {p0 : Int32} (sa : sh[a]? = some (0, 6)) (h : Sp l m_To_reservedWord d 0 0 [.ref a] sh S (gI sh (fun x2 S1 => ((x2 = p0 → Sp l m_To_advance d 0 0 [.ref a] sh S1 (gV sh (fun S4 => P 1 S4))) ∧ (¬ x2 = p0 → Sp l m_To_blame d 0 0 [.ref a, .int 2] sh S1 (gI sh (fun x6 S5 => ((x6 = 0 ∨ x6 = 1) ∧ P x6 S5)))))))) : Sp l m_To_takeReserved (d + 1) 0 0 [.ref a, .int p0] sh S (gI sh P) := by
  refine Sp.of k_To_takeReserved (ls := [.ref a, .int p0]) rfl (Nat.le_of_ble_eq_true rfl) ?_
  refine r_aload_n (pc := 0) d_To_takeReserved_0 (x := a) rfl ?_
  refine r_callV (pc := 1) (k := a) (As := []) (rest := []) (mc' := 0) (ms' := 0) lk_To_68 in_To_reservedWord se_To_reservedWord sa rfl d_To_takeReserved_1 k_To_reservedWord rfl rfl (Nat.le_of_ble_eq_true rfl) (by decide) (by decide) (Sp.mono h ?_)
  rintro rS1 shS1 S1 ⟨qS1, x2, uS1, h⟩
  subst uS1
  rw [qS1]
  refine r_iload_n (pc := 4) d_To_takeReserved_4 (x := p0) rfl ?_
  refine r_icmp_eq (pc := 5) d_To_takeReserved_5 (tgt := 14) (by decide) (fun c3 => ?_) (fun c3 => ?_)
  · replace h := h.1 c3
    refine r_aload_n (pc := 14) d_To_takeReserved_14 (x := a) rfl ?_
    refine r_callV (pc := 15) (k := a) (As := []) (rest := []) (mc' := 0) (ms' := 0) lk_To_43 in_To_advance se_To_advance sa rfl d_To_takeReserved_15 k_To_advance rfl rfl (Nat.le_of_ble_eq_true rfl) (by decide) (by decide) (Sp.mono h ?_)
    rintro rS4 shS4 S4 ⟨qS4, uS4, h⟩
    subst uS4
    rw [qS4]
    refine r_iconst (pc := 18) d_To_takeReserved_18 (v := 1) (by decide) ?_
    exact r_zreturn (pc := 19) d_To_takeReserved_19 (v := 1) rfl (by decide) rfl (Nat.le_refl _) ⟨rfl, _, rfl, h⟩
  · replace h := h.2 c3
    refine r_aload_n (pc := 8) d_To_takeReserved_8 (x := a) rfl ?_
    refine r_iconst (pc := 9) d_To_takeReserved_9 (v := 2) (by decide) ?_
    refine r_callV (pc := 10) (k := a) (As := [.int 2]) (rest := []) (mc' := 0) (ms' := 0) lk_To_71 in_To_blame se_To_blame sa rfl d_To_takeReserved_10 k_To_blame rfl rfl (Nat.le_of_ble_eq_true rfl) (by decide) (by decide) (Sp.mono h ?_)
    rintro rS5 shS5 S5 ⟨qS5, x6, uS5, h⟩
    subst uS5
    rw [qS5]
    obtain ⟨g7, h⟩ := h
    exact r_zreturn (pc := 13) d_To_takeReserved_13 rfl (aw_nb g7) rfl (Nat.le_refl _) ⟨rfl, _, rfl, h⟩
